/-! ===== 21: the evaluator only adds ===== -/
def gm_LE (s s' : gm_S) : Prop := gm_le s s' ∧ gm_T s ≤ gm_T s' ∧ gm_u s ≤ gm_u s' ∧ (gm_u s ≤ 1000000 → gm_u s' ≤ 1000000)
theorem gm_LE_refl (s : gm_S) : gm_LE s s := ⟨gm_le_refl s, Nat.le_refl _, Nat.le_refl _, fun h => h⟩
theorem gm_LE_trans {a b c : gm_S} (h : gm_LE a b) (g : gm_LE b c) : gm_LE a c := ⟨gm_le_trans h.1 g.1, Nat.le_trans h.2.1 g.2.1, Nat.le_trans h.2.2.1 g.2.2.1, fun z => g.2.2.2 (h.2.2.2 z)⟩
theorem gm_LE_tk (s : gm_S) (h : gm_u s < 1000000) : gm_LE s (gm_tk s) := ⟨gm_le_tk s, Nat.le_refl _, Nat.le_succ _, fun _ => h⟩
theorem gm_LE_st (s : gm_S) : gm_LE s (gm_st s) := ⟨gm_le_st s, Nat.le_succ _, Nat.le_refl _, fun h => h⟩
theorem gm_LE_new {s : gm_S} {c : gm_Cell} {add : Nat} {out : gm_O} (H : gm_new s c add = some out) : gm_LE s out.2.2.2 := by
  obtain ⟨_, H⟩ := gm_new_e H
  subst H
  exact ⟨gm_le_push s c, Nat.le_refl _, Nat.le_refl _, fun h => h⟩
theorem gm_LE_wr {s : gm_S} {v : Nat} {f t : Lean.RArray Nat} {p : Int} {add : Nat} {out : gm_O} (H : gm_wr s v f t p add = some out) : gm_LE s out.2.2.2 := by
  unfold gm_wr at H
  by_cases e : gd_en f = gd_en t
  · rw [if_pos e] at H
    injection H with H
    subst H
    exact gm_LE_refl s
  · rw [if_neg e] at H
    exact gm_LE_new (gm_if_e H).2
theorem gm_LE_cast {s : gm_S} {v : Nat} {f t : Lean.RArray Nat} {p : Int} {out : gm_O} (H : gm_cast s v f t p = some out) : gm_LE s out.2.2.2 := by
  obtain ⟨_, _, _, H⟩ := gm_cast_e H
  by_cases e : gd_en f = gd_en t
  · rw [if_pos e] at H
    injection H with H
    subst H
    exact gm_LE_refl s
  rw [if_neg e] at H
  by_cases t2 : gd_hd t = 2
  · rw [if_pos t2] at H
    exact gm_LE_wr H
  rw [if_neg t2] at H
  by_cases f2 : gd_hd f = 2
  · rw [if_pos f2] at H
    by_cases c : v % 8 = gm_tag t
    · rw [if_pos c] at H
      exact gm_LE_wr H
    · rw [if_neg c] at H
      injection H with H
      subst H
      exact gm_LE_refl s
  · rw [if_neg f2] at H
    exact gm_LE_wr H
theorem gm_LE_fc {s : gm_S} {h v : Nat} {f t : Lean.RArray Nat} {p : Int} {out : gm_O} (H : gm_fc s h v f t p = some out) : gm_LE s out.2.2.2 := by
  unfold gm_fc at H
  by_cases e : gd_en f = gd_en t
  · rw [if_pos e] at H
    injection H with H
    subst H
    exact gm_LE_refl s
  · rw [if_neg e] at H
    exact gm_LE_trans (gm_LE_tk s (gm_tick_e H).1.1) (gm_LE_cast (gm_tick_e H).2)
theorem gm_LE_take {side : Nat} : ∀ (n h v : Nat) (s : gm_S) (out : gm_O), gm_take side n h v s = some out → gm_LE s out.2.2.2 := by
  intro n
  induction n with
  | zero =>
    intro h v s out H
    simp only [gm_take] at H
    have r := (gm_tick_e H).1.1
    obtain ⟨_, H⟩ := gm_if_e (gm_tick_e H).2
    injection H with H
    subst H
    exact gm_LE_tk s r
  | succ n ih =>
    intro h v s out H
    simp only [gm_take] at H
    have r := (gm_tick_e H).1.1
    obtain ⟨_, H⟩ := gm_if_e (gm_tick_e H).2
    refine gm_bd_e H ?_ ?_
    · intro u p s1 e1 H1
      exact gm_LE_trans (gm_LE_tk s r) (gm_LE_trans (ih _ _ _ _ e1) (gm_LE_fc H1))
    · intro e1 _
      exact gm_LE_trans (gm_LE_tk s r) (ih _ _ _ _ e1)
def gm_LF (f : Nat → Nat → Nat → gm_S → Option gm_O) : Prop := ∀ (h i w : Nat) (s : gm_S) (out : gm_O), f h i w s = some out → gm_LE s out.2.2.2
theorem gm_LE_call {f : Nat → Nat → Nat → gm_S → Option gm_O} (hf : gm_LF f) : ∀ (n h g a : Nat) (s : gm_S) (out : gm_O), gm_call f n h g a s = some out → gm_LE s out.2.2.2 := by
  intro n
  induction n with
  | zero =>
    intro h g a s out H
    simp only [gm_call] at H
    have r := (gm_tick_e H).1.1
    obtain ⟨_, H⟩ := gm_if_e (gm_tick_e H).2
    exact gm_LE_trans (gm_LE_tk s r) (gm_LE_trans ⟨gm_le_scope (gm_tk s) _ _, Nat.le_refl _, Nat.le_refl _, fun h => h⟩ (hf _ _ _ _ _ H))
  | succ n ih =>
    intro h g a s out H
    simp only [gm_call] at H
    have r := (gm_tick_e H).1.1
    obtain ⟨_, H⟩ := gm_if_e (gm_tick_e H).2
    refine gm_bd_e H ?_ ?_
    · intro a' p s1 e1 H1
      refine gm_LE_trans (gm_LE_tk s r) (gm_LE_trans (gm_LE_cast e1) ?_)
      refine gm_bd_e H1 ?_ ?_
      · intro u p s2 e2 H2
        exact gm_LE_trans (ih _ _ _ _ _ e2) (gm_LE_fc H2)
      · intro e2 _
        exact ih _ _ _ _ _ e2
    · intro e1 _
      exact gm_LE_trans (gm_LE_tk s r) (gm_LE_cast e1)
theorem gm_LE_opr {P : gm_P} {f : Nat → Nat → Nat → gm_S → Option gm_O} (hf : gm_LF f) {h i k w : Nat} {s : gm_S} {out : gm_O} (H : gm_opr P f h i k w s = some out) : gm_LE s out.2.2.2 := by
  unfold gm_opr at H
  refine gm_bd_e H ?_ ?_
  · intro v p s1 e1 H1
    refine gm_LE_trans (hf _ _ _ _ _ e1) ?_
    refine gm_bd_e H1 ?_ ?_
    · intro v' p' s2 e2 H2
      obtain ⟨r, H2⟩ := gm_tick_e H2
      injection H2 with H2
      subst H2
      exact gm_LE_trans (gm_LE_fc e2) (gm_LE_tk s2 r.1)
    · intro e2 _
      exact gm_LE_fc e2
  · intro e1 _
    exact hf _ _ _ _ _ e1
theorem gm_LE_rest {P : gm_P} {f : Nat → Nat → Nat → gm_S → Option gm_O} (hf : gm_LF f) {h i w v : Nat} {s : gm_S} {out : gm_O} (H : gm_rest P f h i w v s = some out) : gm_LE s out.2.2.2 := by
  unfold gm_rest at H
  by_cases c9 : gm_kd P i = 9 ∨ gm_kd P i = 10
  · rw [if_pos c9] at H
    exact gm_LE_take _ _ _ _ _ H
  rw [if_neg c9] at H
  by_cases c5 : gm_kd P i = 5
  · rw [if_pos c5] at H
    exact gm_LE_opr hf (gm_num_e H).2
  rw [if_neg c5] at H
  by_cases c11 : gm_kd P i = 11
  · rw [if_pos c11] at H
    injection H with H
    subst H
    exact gm_LE_refl s
  rw [if_neg c11] at H
  refine gm_bd_e H ?_ ?_
  · intro v' p' s1 e1 H1
    refine gm_LE_trans (gm_LE_opr hf e1) ?_
    by_cases c4 : gm_kd P i = 4
    · rw [if_pos c4] at H1
      exact gm_LE_call hf _ _ _ _ _ _ (gm_if_e H1).2
    rw [if_neg c4] at H1
    by_cases c6 : gm_kd P i = 6
    · rw [if_pos c6] at H1
      exact gm_LE_new (gm_num_e (gm_num_e H1).2).2
    rw [if_neg c6] at H1
    by_cases c7 : gm_kd P i = 7
    · rw [if_pos c7] at H1
      exact gm_LE_new (gm_num_e (gm_num_e H1).2).2
    rw [if_neg c7] at H1
    exact gm_LE_new (gm_if_e (gm_if_e H1).2).2
  · intro e1 _
    exact gm_LE_opr hf e1
theorem gm_LE_ev {P : gm_P} : ∀ d, gm_LF (gm_ev P d) := by
  intro d
  induction d with
  | zero =>
    intro h i w s out H
    exact absurd H (by simp [gm_ev])
  | succ d ih =>
    intro h i w s out H
    simp only [gm_ev] at H
    obtain ⟨_, H⟩ := gm_if_e H
    have r := (gm_tick_e H).1.1
    obtain ⟨_, H⟩ := gm_tick_e H
    by_cases hT : 40 ≤ gm_T (gm_tk s)
    · rw [if_pos hT] at H
      injection H with H
      subst H
      exact gm_LE_tk s r
    rw [if_neg hT] at H
    refine gm_LE_trans (gm_LE_tk s r) (gm_LE_trans (gm_LE_st (gm_tk s)) ?_)
    by_cases k0 : gm_kd P i = 0
    · rw [if_pos k0] at H
      exact gm_LE_new H
    rw [if_neg k0] at H
    by_cases k1 : gm_kd P i = 1
    · rw [if_pos k1] at H
      exact gm_LE_new H
    rw [if_neg k1] at H
    by_cases k2 : gm_kd P i = 2
    · rw [if_pos k2] at H
      cases hv : gm_var (gm_st (gm_tk s)) (gm_vl P i).toNatClampNeg w with
      | none => rw [hv] at H; exact absurd H (by simp)
      | some v => rw [hv] at H; injection H with H; subst H; exact gm_LE_refl _
    rw [if_neg k2] at H
    by_cases k3 : gm_kd P i = 3
    · rw [if_pos k3] at H
      exact gm_LE_new H
    rw [if_neg k3] at H
    refine gm_bd_e H ?_ ?_
    · intro v p s1 e1 H1
      exact gm_LE_trans (gm_LE_opr ih e1) (gm_LE_rest ih H1)
    · intro e1 _
      exact gm_LE_opr ih e1
/-- the chain of casts from c -/
def gm_wlk (s : gm_S) : Nat → Nat → Nat
  | 0, c => c
  | j + 1, c => gm_wlk s j (gm_ca (gm_h s c) / 8)
theorem gm_wlk_s (s : gm_S) : ∀ j c, gm_wlk s (j + 1) c = gm_ca (gm_h s (gm_wlk s j c)) / 8 := by
  intro j
  induction j with
  | zero => intro c; rfl
  | succ j ih => intro c; exact ih _
/-- the first j cells of the chain are there -/
def gm_CH (s : gm_S) (c j : Nat) : Prop := ∀ i, i < j → gm_wlk s i c < gm_n s
theorem gm_wlk_le {s s' : gm_S} (h : gm_le s s') (c : Nat) : ∀ j, gm_CH s c j → gm_wlk s' j c = gm_wlk s j c := by
  intro j
  induction j with
  | zero => intro _; rfl
  | succ j ih =>
    intro H
    rw [gm_wlk_s, gm_wlk_s, ih (fun i hi => H i (by omega)), h.2.1 _ (H j (by omega))]
theorem gm_CH_le {s s' : gm_S} (h : gm_le s s') {c j : Nat} (H : gm_CH s c j) : gm_CH s' c j := by
  intro i hi
  rw [gm_wlk_le h c i (fun x hx => H x (by omega))]
  exact Nat.lt_of_lt_of_le (H i hi) h.1
theorem gm_cast_code {s : gm_S} {v : Nat} {f t : Lean.RArray Nat} {p : Int} {out : gm_O} (H : gm_cast s v f t p = some out) : out.1 = 0 ∨ out.1 = 4 := by
  obtain ⟨_, _, _, H⟩ := gm_cast_e H
  have wr : ∀ {v : Nat} {f t : Lean.RArray Nat} {add : Nat}, gm_wr s v f t p add = some out → out.1 = 0 := by
    intro v f t add H
    unfold gm_wr at H
    by_cases e : gd_en f = gd_en t
    · rw [if_pos e] at H
      injection H with H
      rw [← H]
    · rw [if_neg e] at H
      obtain ⟨_, H⟩ := gm_new_e (gm_if_e H).2
      rw [H]
  by_cases e : gd_en f = gd_en t
  · rw [if_pos e] at H
    injection H with H
    left; rw [← H]
  rw [if_neg e] at H
  by_cases t2 : gd_hd t = 2
  · rw [if_pos t2] at H
    exact Or.inl (wr H)
  rw [if_neg t2] at H
  by_cases f2 : gd_hd f = 2
  · rw [if_pos f2] at H
    by_cases c : v % 8 = gm_tag t
    · rw [if_pos c] at H
      exact Or.inl (wr H)
    · rw [if_neg c] at H
      injection H with H
      right; rw [← H]
  · rw [if_neg f2] at H
    exact Or.inl (wr H)
theorem gm_fc_code {s : gm_S} {h v : Nat} {f t : Lean.RArray Nat} {p : Int} {out : gm_O} (H : gm_fc s h v f t p = some out) (z : out.1 ≠ 0) (c4 : ¬ out.1 = 4) : False := by
  unfold gm_fc at H
  by_cases e : gd_en f = gd_en t
  · rw [if_pos e] at H
    injection H with H
    exact z (by rw [← H])
  · rw [if_neg e] at H
    rcases gm_cast_code (gm_tick_e H).2 with c | c
    · exact z c
    · exact c4 c
theorem gm_take_code {side : Nat} : ∀ (n h v : Nat) (s : gm_S) (out : gm_O), gm_take side n h v s = some out → out.1 ≠ 0 → out.1 = 4 := by
  intro n
  induction n with
  | zero =>
    intro h v s out H z
    simp only [gm_take] at H
    obtain ⟨_, H⟩ := gm_if_e (gm_tick_e H).2
    injection H with H
    exact absurd (by rw [← H]) z
  | succ n ih =>
    intro h v s out H z
    simp only [gm_take] at H
    obtain ⟨_, H⟩ := gm_if_e (gm_tick_e H).2
    refine gm_bd_e H ?_ ?_
    · intro u p s1 e1 H1
      by_cases q : out.1 = 4
      · exact q
      · exact (gm_fc_code H1 z q).elim
    · intro e1 _
      exact ih _ _ _ _ e1 z
