/-! ===== 08: the checks never fall: typing and bounds ===== -/
def gm_ok (o : Option gm_O) (Q : Nat → gm_S → Prop) : Prop :=
  match o with
  | none => False
  | some (0, v, _, s) => Q v s
  | some (_ + 1, _, _, _) => True
theorem gm_ok_bd {o : Option gm_O} {k : Nat → gm_S → Option gm_O} {Q' Q : Nat → gm_S → Prop} (h : gm_ok o Q') (hk : ∀ v s, Q' v s → gm_ok (k v s) Q) : gm_ok (gm_bd o k) Q := by
  match o, h with
  | some (0, v, _, s), h => exact hk v s h
  | some (_ + 1, _, _, _), _ => exact trivial
theorem gm_ok_mono {o : Option gm_O} {Q' Q : Nat → gm_S → Prop} (h : gm_ok o Q') (hk : ∀ v s, Q' v s → Q v s) : gm_ok o Q := by
  match o, h with
  | some (0, v, _, s), h => exact hk v s h
  | some (_ + 1, _, _, _), _ => exact trivial
theorem gm_ok_tick {s : gm_S} {h : Nat} {k : gm_S → Option gm_O} {Q : Nat → gm_S → Prop} (r : gm_u s < 1000000 ∧ gm_n s ≤ 5000 ∧ gm_m s < 64 ∧ h < 32767) (hk : gm_ok (k (gm_tk s)) Q) : gm_ok (gm_tick s h k) Q := by
  unfold gm_tick
  rw [if_pos r]
  exact hk
theorem gm_ok_new {s : gm_S} {c : gm_Cell} {add : Nat} {Q : Nat → gm_S → Prop} (r : gm_n s < 5000) (hk : Q (8 * gm_n s + add) (gm_push s c)) : gm_ok (gm_new s c add) Q := by
  unfold gm_new
  rw [if_pos r]
  exact hk
/-- s' goes on from s -/
def gm_le (s s' : gm_S) : Prop := gm_n s ≤ gm_n s' ∧ (∀ c, c < gm_n s → gm_h s' c = gm_h s c) ∧ gm_m s ≤ gm_m s' ∧ (∀ w, w < gm_m s → gm_e s' w = gm_e s w)
theorem gm_le_refl (s : gm_S) : gm_le s s := ⟨Nat.le_refl _, fun _ _ => rfl, Nat.le_refl _, fun _ _ => rfl⟩
theorem gm_le_trans {a b c : gm_S} (h : gm_le a b) (g : gm_le b c) : gm_le a c :=
  ⟨Nat.le_trans h.1 g.1, fun x hx => (g.2.1 x (Nat.lt_of_lt_of_le hx h.1)).trans (h.2.1 x hx), Nat.le_trans h.2.2.1 g.2.2.1, fun x hx => (g.2.2.2 x (Nat.lt_of_lt_of_le hx h.2.2.1)).trans (h.2.2.2 x hx)⟩
theorem gm_le_tk (s : gm_S) : gm_le s (gm_tk s) := gm_le_refl s
theorem gm_le_st (s : gm_S) : gm_le s (gm_st s) := gm_le_refl s
theorem gm_push_old (s : gm_S) (c : gm_Cell) {j : Nat} (h : j < gm_n s) : gm_h (gm_push s c) j = gm_h s j := if_neg (Nat.ne_of_lt h)
theorem gm_push_new (s : gm_S) (c : gm_Cell) : gm_h (gm_push s c) (gm_n s) = c := if_pos rfl
theorem gm_push_n (s : gm_S) (c : gm_Cell) : gm_n (gm_push s c) = gm_n s + 1 := rfl
theorem gm_le_push (s : gm_S) (c : gm_Cell) : gm_le s (gm_push s c) := ⟨Nat.le_succ _, fun _ h => gm_push_old s c h, Nat.le_refl _, fun _ _ => rfl⟩
theorem gm_le_scope (s : gm_S) (a b : Nat) : gm_le s (gm_scope s a b) := ⟨Nat.le_refl _, fun _ _ => rfl, Nat.le_succ _, fun _ h => if_neg (Nat.ne_of_lt h)⟩
/-- the value v is of type t -/
def gm_VT (s : gm_S) (v : Nat) (t : Lean.RArray Nat) : Prop :=
  v / 8 < gm_n s ∧ (gd_hd t = 2 → v % 8 = gm_tag (gm_ct (gm_h s (v / 8))) ∧ gd_G (gm_ct (gm_h s (v / 8))) = gm_ct (gm_h s (v / 8)) ∧ gd_hd (gm_ct (gm_h s (v / 8))) ≠ 2) ∧ (gd_hd t ≠ 2 → v % 8 = 0 ∧ gm_ct (gm_h s (v / 8)) = t)
def gm_WT (s : gm_S) : Nat → List (Lean.RArray Nat) → Prop
  | _, [] => True
  | w, t :: l => 0 < w ∧ w < gm_m s ∧ gm_VT s (gm_e s w).1 t ∧ gm_WT s (gm_e s w).2 l
theorem gm_VT_mono {s s' : gm_S} (h : gm_le s s') {v : Nat} {t : Lean.RArray Nat} (H : gm_VT s v t) : gm_VT s' v t := by
  unfold gm_VT at H ⊢
  rw [h.2.1 _ H.1]
  exact ⟨Nat.lt_of_lt_of_le H.1 h.1, H.2⟩
theorem gm_WT_mono {s s' : gm_S} (h : gm_le s s') : ∀ (l : List (Lean.RArray Nat)) (w : Nat), gm_WT s w l → gm_WT s' w l
  | [], _, _ => trivial
  | t :: l, w, H => by
    simp only [gm_WT] at H ⊢
    rw [h.2.2.2 _ H.2.1]
    exact ⟨H.1, Nat.lt_of_lt_of_le H.2.1 h.2.2.1, gm_VT_mono h H.2.2.1, gm_WT_mono h l _ H.2.2.2⟩
/-- a cell that is no cast: its chains are empty -/
def gm_Q0 (c : gm_Cell) : Prop := gm_q1 c = 0 ∧ gm_q2 c = 0 ∧ gm_q3 c = 0
/-- what is known of the program -/
def gm_SF (P : gm_P) (cnt : Nat) (G : Nat → List (Lean.RArray Nat)) : Prop :=
  ∀ i, i < cnt → gd_TY (gm_ty P i) ∧
    (gm_kd P i = 0 → gm_ty P i = .leaf 0) ∧ (gm_kd P i = 1 → gm_ty P i = .leaf 1) ∧
    (gm_kd P i = 2 → (G i)[(gm_vl P i).toNatClampNeg]? = some (gm_ty P i)) ∧
    (gm_kd P i = 3 → i + 1 < cnt ∧ ∃ t, gm_ty P i = .branch 3 t (gm_ty P (i + 1)) ∧ G (i + 1) = t :: G i) ∧
    (4 ≤ gm_kd P i → gm_kd P i ≤ 11 ∧ (∀ k, (k = 0 ∨ k = 1 ∧ gm_kd P i < 9 ∨ k = 2 ∧ gm_kd P i = 5) → gm_op P i k < cnt ∧ G (gm_op P i k) = G i ∧ gd_TY (gm_tg P i k) ∧ gd_cb (gm_ty P (gm_op P i k)) (gm_tg P i k) = true)) ∧
    (gm_kd P i = 4 → ∃ a b, gm_tg P i 0 = .branch 3 a b ∧ gm_tg P i 1 = a ∧ gm_ty P i = b ∧ (gm_ty P (gm_op P i 0) = .branch 3 a b ∨ gm_ty P (gm_op P i 0) = .leaf 2 ∧ a = .leaf 2 ∧ b = .leaf 2)) ∧
    (gm_kd P i = 5 → gm_tg P i 0 = .leaf 1 ∧ gm_tg P i 1 = gm_ty P i ∧ gm_tg P i 2 = gm_ty P i) ∧
    (gm_kd P i = 6 → gm_tg P i 0 = .leaf 0 ∧ gm_tg P i 1 = .leaf 0 ∧ gm_ty P i = .leaf 0) ∧
    (gm_kd P i = 7 → gm_tg P i 0 = .leaf 0 ∧ gm_tg P i 1 = .leaf 0 ∧ gm_ty P i = .leaf 1) ∧
    (gm_kd P i = 8 → gm_tg P i 0 = gm_ty P (gm_op P i 0) ∧ gm_tg P i 1 = gm_ty P (gm_op P i 1) ∧ gm_ty P i = .branch 4 (gm_ty P (gm_op P i 0)) (gm_ty P (gm_op P i 1))) ∧
    (gm_kd P i = 9 ∨ gm_kd P i = 10 → ∃ a b, gm_tg P i 0 = .branch 4 a b ∧ gm_ty P i = (if gm_kd P i = 9 then a else b) ∧ (gm_ty P (gm_op P i 0) = .branch 4 a b ∨ gm_ty P (gm_op P i 0) = .leaf 2 ∧ a = .leaf 2 ∧ b = .leaf 2)) ∧
    (gm_kd P i = 11 → gm_tg P i 0 = gm_ty P i)
/-- a good cell -/
def gm_CO (P : gm_P) (cnt : Nat) (G : Nat → List (Lean.RArray Nat)) (s : gm_S) (c : gm_Cell) : Prop :=
  (gm_ck c = 1 ∧ gm_ct c = .leaf 0 ∧ gm_Q0 c) ∨ (gm_ck c = 2 ∧ gm_ct c = .leaf 1 ∧ gm_Q0 c) ∨
  (gm_ck c = 3 ∧ gm_ca c < cnt ∧ gm_kd P (gm_ca c) = 3 ∧ gm_ct c = gm_ty P (gm_ca c) ∧ gm_WT s (gm_cb c) (G (gm_ca c)) ∧ gm_Q0 c) ∨
  (gm_ck c = 5 ∧ gm_Q0 c ∧ ∃ a b, gm_ct c = .branch 4 a b ∧ gd_TY a ∧ gd_TY b ∧ gm_VT s (gm_ca c) a ∧ gm_VT s (gm_cb c) b ∧ gm_rk (gm_h s (gm_ca c / 8)) < gm_rk c ∧ gm_rk (gm_h s (gm_cb c / 8)) < gm_rk c) ∨
  (∃ h a b a' b', (gm_ck c = 4 ∧ h = 3 ∨ gm_ck c = 6 ∧ h = 4) ∧ gm_cf c = .branch h a b ∧ gm_ct c = .branch h a' b' ∧ gd_TY (gm_cf c) ∧ gd_TY (gm_ct c) ∧ gd_cb a a' = true ∧ gd_cb b b' = true ∧ gm_VT s (gm_ca c) (gm_cf c) ∧
    gm_q1 c = 1 + gm_q1 (gm_h s (gm_ca c / 8)) ∧ gm_q2 c = gm_ind 2 (gm_lv (gm_cf c) (gm_ct c)) + gm_q2 (gm_h s (gm_ca c / 8)) ∧ gm_q3 c = gm_ind 3 (gm_lv (gm_cf c) (gm_ct c)) + gm_q3 (gm_h s (gm_ca c / 8)) ∧ gm_rk c = gm_rk (gm_h s (gm_ca c / 8)))
theorem gm_CO_mono {P : gm_P} {cnt : Nat} {G : Nat → List (Lean.RArray Nat)} {s s' : gm_S} (h : gm_le s s') {c : gm_Cell} (H : gm_CO P cnt G s c) : gm_CO P cnt G s' c := by
  unfold gm_CO at H ⊢
  rcases H with H | H | H | H | H
  · exact Or.inl H
  · exact Or.inr (Or.inl H)
  · exact Or.inr (Or.inr (Or.inl ⟨H.1, H.2.1, H.2.2.1, H.2.2.2.1, gm_WT_mono h _ _ H.2.2.2.2.1, H.2.2.2.2.2⟩))
  · obtain ⟨k, q, a, b, e1, ta, tb, va, vb, r1, r2⟩ := H
    refine Or.inr (Or.inr (Or.inr (Or.inl ⟨k, q, a, b, e1, ta, tb, gm_VT_mono h va, gm_VT_mono h vb, ?_, ?_⟩)))
    · rw [h.2.1 _ va.1]; exact r1
    · rw [h.2.1 _ vb.1]; exact r2
  · obtain ⟨k, a, b, a', b', hk, e1, e2, t1, t2, c1, c2, va, r⟩ := H
    refine Or.inr (Or.inr (Or.inr (Or.inr ⟨k, a, b, a', b', hk, e1, e2, t1, t2, c1, c2, gm_VT_mono h va, ?_⟩)))
    rw [h.2.1 _ va.1]
    exact r
def gm_IN (P : gm_P) (cnt : Nat) (G : Nat → List (Lean.RArray Nat)) (s : gm_S) : Prop := ∀ c, c < gm_n s → gm_CO P cnt G s (gm_h s c)
theorem gm_IN_push {P : gm_P} {cnt : Nat} {G : Nat → List (Lean.RArray Nat)} {s : gm_S} (H : gm_IN P cnt G s) {c : gm_Cell} (hc : gm_CO P cnt G s c) : gm_IN P cnt G (gm_push s c) := by
  intro j hj
  have hj' : j < gm_n s + 1 := hj
  by_cases e : j = gm_n s
  · subst e
    rw [gm_push_new]
    exact gm_CO_mono (gm_le_push s c) hc
  · have lt : j < gm_n s := by omega
    rw [gm_push_old s c lt]
    exact gm_CO_mono (gm_le_push s c) (H j lt)
theorem gm_IN_le {P : gm_P} {cnt : Nat} {G : Nat → List (Lean.RArray Nat)} {s s' : gm_S} (H : gm_IN P cnt G s) (h : gm_le s s') (e : gm_n s' = gm_n s) : gm_IN P cnt G s' := by
  intro j hj
  rw [e] at hj
  rw [h.2.1 j hj]
  exact gm_CO_mono h (H j hj)
theorem gm_vtb_i : ∀ t : Lean.RArray Nat, gm_vtb t = true ↔ gd_vt t := by
  intro t
  induction t with
  | leaf n => simp [gm_vtb, gd_vt]
  | branch h l r ihl ihr => simp [gm_vtb, gd_vt, ihl, ihr, and_assoc]
theorem gm_tyb_i (t : Lean.RArray Nat) : gm_tyb t = true ↔ gd_TY t := by
  unfold gm_tyb gd_TY
  rw [Bool.and_eq_true, gm_vtb_i, decide_eq_true_iff]
theorem gm_wkb_i (s : gm_S) (v : Nat) (f : Lean.RArray Nat) : gm_wkb s v f = true ↔ gm_wk s v f := by
  unfold gm_wkb gm_wk
  by_cases h : gd_hd f = 2
  · simp [h]
  · simp [h]
theorem gm_leaf_of {t : Lean.RArray Nat} (h : gd_vt t) (h3 : gd_hd t < 3) : t = .leaf (gd_hd t) := by
  cases t with
  | leaf n => rfl
  | branch k l r => simp only [gd_vt] at h; simp only [gd_hd] at h3; omega
theorem gm_br_of {t : Lean.RArray Nat} (h3 : 3 ≤ gd_hd t) (h : gd_vt t) : ∃ l r, t = .branch (gd_hd t) l r ∧ (gd_hd t = 3 ∨ gd_hd t = 4) := by
  cases t with
  | leaf n => simp only [gd_vt] at h; simp only [gd_hd] at h3; omega
  | branch k l r => simp only [gd_vt] at h; exact ⟨l, r, rfl, h.1⟩
theorem gm_G_hd {t : Lean.RArray Nat} : gd_hd (gd_G t) = gd_hd t := by
  unfold gd_G
  by_cases a : gd_hd t = 3
  · rw [if_pos a, a]; rfl
  · rw [if_neg a]
    by_cases b : gd_hd t = 4
    · rw [if_pos b, b]; rfl
    · rw [if_neg b]; rfl
theorem gm_G_TY {t : Lean.RArray Nat} (h : gd_vt t) : gd_TY (gd_G t) := by
  unfold gd_G gd_TY
  have lt := gd_hd_lt h
  by_cases a : gd_hd t = 3
  · rw [if_pos a]; simp [gd_vt, gd_sz]
  · rw [if_neg a]
    by_cases b : gd_hd t = 4
    · rw [if_pos b]; simp [gd_vt, gd_sz]
    · rw [if_neg b]; simp only [gd_vt, gd_sz]; omega
theorem gm_G_G (t : Lean.RArray Nat) : gd_G (gd_G t) = gd_G t := by
  have e : gd_hd (gd_G t) = gd_hd t := gm_G_hd
  show (if gd_hd (gd_G t) = 3 then _ else if gd_hd (gd_G t) = 4 then _ else Lean.RArray.leaf (gd_hd (gd_G t))) = _
  rw [e]
  rfl
theorem gm_G_leaf {t : Lean.RArray Nat} (h : gd_vt t) (h3 : gd_hd t < 3) : gd_G t = t := by
  unfold gd_G
  rw [if_neg (by omega), if_neg (by omega)]
  exact (gm_leaf_of h h3).symm
theorem gm_dp_br {t : Lean.RArray Nat} (h : 3 ≤ gd_hd t) (hv : gd_vt t) : 1 ≤ gd_dp t := by
  obtain ⟨l, r, e, _⟩ := gm_br_of h hv
  rw [e]
  simp only [gd_dp]
  omega
theorem gm_G_dp {t : Lean.RArray Nat} (hv : gd_vt t) : gd_dp (gd_G t) ≤ gd_dp t := by
  by_cases h : gd_hd t < 3
  · rw [gm_G_leaf hv h]; exact Nat.le_refl _
  · have := gm_dp_br (by omega) hv
    obtain ⟨l, r, e, k⟩ := gm_br_of (show 3 ≤ gd_hd t by omega) hv
    have e1 : gd_dp (gd_G t) = 1 := by
      unfold gd_G
      rcases k with k | k
      · rw [if_pos k]; rfl
      · rw [if_neg (by omega), if_pos k]; rfl
    omega
theorem gm_cb_G {t : Lean.RArray Nat} (hv : gd_vt t) : gd_cb t (gd_G t) = true := by
  by_cases h : gd_hd t < 3
  · rw [gm_G_leaf hv h]; exact gd_cb_refl _
  · obtain ⟨l, r, e, k⟩ := gm_br_of (show 3 ≤ gd_hd t by omega) hv
    unfold gd_G
    rcases k with k | k
    · rw [if_pos k]; rw [e, k]; simp [gd_cb, gd_cb_any']
    · rw [if_neg (by omega), if_pos k]; rw [e, k]; simp [gd_cb, gd_cb_any']
theorem gm_cb_hd {f t : Lean.RArray Nat} (h : gd_cb f t = true) (hf : gd_hd f ≠ 2) (ht : gd_hd t ≠ 2) : gd_hd t = gd_hd f := by
  cases f with
  | leaf n =>
    cases t with
    | leaf m => simp only [gd_cb, Bool.or_eq_true, beq_iff_eq] at h; simp only [gd_hd] at *; omega
    | branch k l r => simp only [gd_cb, beq_iff_eq] at h; exact absurd h hf
  | branch k l r =>
    cases t with
    | leaf m => simp only [gd_cb, beq_iff_eq] at h; exact absurd h ht
    | branch k' l' r' => exact (gd_cb_br h).1.symm
theorem gm_tag_lt {t : Lean.RArray Nat} (h : gd_vt t) : gm_tag t < 5 := by
  have := gd_hd_lt h
  unfold gm_tag
  split <;> omega
theorem gm_tag_inj {f t : Lean.RArray Nat} (hf : gd_vt f) (ht : gd_vt t) (f2 : gd_hd f ≠ 2) (t2 : gd_hd t ≠ 2) (e : gm_tag f = gm_tag t) : gd_hd f = gd_hd t := by
  have a := gd_hd_lt hf
  have b := gd_hd_lt ht
  unfold gm_tag at e
  split at e <;> split at e <;> omega
theorem gm_CO_sh {P : gm_P} {cnt : Nat} {G : Nat → List (Lean.RArray Nat)} {s : gm_S} {c : gm_Cell} (hP : gm_SF P cnt G) (H : gm_CO P cnt G s c) : gm_sh (gm_ck c) = gm_tag (gm_ct c) ∧ gd_hd (gm_ct c) ≠ 2 ∧ gd_vt (gm_ct c) := by
  unfold gm_CO at H
  rcases H with H | H | H | H | H
  · rw [H.1, H.2.1]; exact ⟨rfl, by decide, by simp [gd_vt]⟩
  · rw [H.1, H.2.1]; exact ⟨rfl, by decide, by simp [gd_vt]⟩
  · obtain ⟨k, i, l, e, _⟩ := H
    have sf := hP _ i
    obtain ⟨_, t, e2, _⟩ := sf.2.2.2.2.1 l
    have v := sf.1.1
    rw [k, e]
    rw [e2] at v ⊢
    exact ⟨rfl, by simp [gd_hd], v⟩
  · obtain ⟨k, _, a, b, e, ta, tb, _⟩ := H
    rw [k, e]
    exact ⟨rfl, by simp [gd_hd], by simp [gd_vt, ta.1, tb.1]⟩
  · obtain ⟨h, a, b, a', b', hk, _, e2, _, t2, _⟩ := H
    have v := t2.1
    rw [e2] at v ⊢
    rcases hk with ⟨k, z⟩ | ⟨k, z⟩
    · subst z; rw [k]; exact ⟨rfl, by simp [gd_hd], v⟩
    · subst z; rw [k]; exact ⟨rfl, by simp [gd_hd], v⟩
theorem gm_wk_of {P : gm_P} {cnt : Nat} {G : Nat → List (Lean.RArray Nat)} {s : gm_S} (hP : gm_SF P cnt G) (H : gm_IN P cnt G s) {v : Nat} {f : Lean.RArray Nat} (hv : gm_VT s v f) : gm_wk s v f := by
  have c := gm_CO_sh hP (H _ hv.1)
  refine ⟨hv.1, fun h => ?_, fun h => ?_⟩
  · rw [c.1]; exact (hv.2.1 h).1
  · rw [c.1, (hv.2.2 h).2]; exact ⟨(hv.2.2 h).1, rfl⟩
/-- what a cast does to the state -/
def gm_CR (s s' : gm_S) (L : Nat) : Prop := s' = s ∨ (1 ≤ L ∧ ∃ v f t p, v / 8 < gm_n s ∧ gm_lv f t ≤ L ∧ s' = gm_push s (gm_cc s v f t p))
theorem gm_CR_mono {s s' : gm_S} {L L' : Nat} (h : gm_CR s s' L) (l : L ≤ L') : gm_CR s s' L' := by
  rcases h with h | ⟨a, v, f, t, p, b, c, d⟩
  · exact Or.inl h
  · exact Or.inr ⟨by omega, v, f, t, p, b, by omega, d⟩
theorem gm_ok_wr {P : gm_P} {cnt : Nat} {G : Nat → List (Lean.RArray Nat)} {s : gm_S} (H : gm_IN P cnt G s) {v : Nat} {f t : Lean.RArray Nat} {p : Int} {add : Nat} (hv : gm_VT s v f) (hf : gd_TY f) (ht : gd_TY t) (ht2 : gd_hd t = gd_hd f) (hc : gd_cb f t = true) (room : gm_n s < 5000) :
    gm_ok (gm_wr s v f t p add) (fun v' s' => ∃ w, v' = w + add ∧ gm_IN P cnt G s' ∧ gm_VT s' w t ∧ gm_le s s' ∧ gm_CR s s' (gm_lv f t) ∧ (f = t → s' = s) ∧ gm_rk (gm_h s' (w / 8)) = gm_rk (gm_h s (v / 8))) := by
  unfold gm_wr
  by_cases e : gd_en f = gd_en t
  · rw [if_pos e]
    have e' := gd_en_inj hf.1 ht.1 e
    exact ⟨v, rfl, H, e' ▸ hv, gm_le_refl s, Or.inl rfl, fun _ => rfl, rfl⟩
  · rw [if_neg e]
    have h3 : 3 ≤ gd_hd f := by
      refine Nat.le_of_not_lt (fun z => e ?_)
      rw [gm_leaf_of hf.1 z, gm_leaf_of ht.1 (by omega), ht2]
    obtain ⟨l, r, ef, hk⟩ := gm_br_of h3 hf.1
    obtain ⟨l', r', et, _⟩ := gm_br_of (show 3 ≤ gd_hd t by omega) ht.1
    rw [if_pos ⟨hk, ht2⟩]
    refine gm_ok_new room ?_
    have cbr : gd_cb l l' = true ∧ gd_cb r r' = true := by
      rw [ef, et] at hc
      exact (gd_cb_br hc).2
    have co : gm_CO P cnt G s (gm_cc s v f t p) := by
      refine Or.inr (Or.inr (Or.inr (Or.inr ⟨gd_hd f, l, r, l', r', ?_, ef, ?_, hf, ht, cbr.1, cbr.2, hv, rfl, rfl, rfl, rfl⟩)))
      · rcases hk with k | k
        · left; exact ⟨by show (if gd_hd f = 3 then 4 else 6) = 4; rw [if_pos k], k⟩
        · right; exact ⟨by show (if gd_hd f = 3 then 4 else 6) = 6; rw [if_neg (by omega)], k⟩
      · rw [← ht2]; exact et
    refine ⟨8 * gm_n s, rfl, gm_IN_push H co, ?_, gm_le_push _ _, Or.inr ⟨?_, v, f, t, p, hv.1, Nat.le_refl _, rfl⟩, fun z => absurd (by rw [z]) e, ?_⟩
    · have e8 : 8 * gm_n s / 8 = gm_n s := by omega
      unfold gm_VT
      rw [e8, gm_push_new]
      refine ⟨by rw [gm_push_n]; omega, fun z => ?_, fun _ => ⟨by omega, rfl⟩⟩
      omega
    · have := gm_dp_br h3 hf.1
      exact Nat.le_trans this (gd_mx_l _ _)
    · rw [show 8 * gm_n s / 8 = gm_n s by omega, gm_push_new]
      rfl
theorem gm_mod_add {w a : Nat} (h : w % 8 = 0) (ha : a < 8) : (w + a) / 8 = w / 8 ∧ (w + a) % 8 = a := by omega
theorem gm_ok_cast {P : gm_P} {cnt : Nat} {G : Nat → List (Lean.RArray Nat)} {s : gm_S} (hP : gm_SF P cnt G) (H : gm_IN P cnt G s) {v : Nat} {f t : Lean.RArray Nat} {p : Int} (hv : gm_VT s v f) (hf : gd_TY f) (ht : gd_TY t) (hc : gd_cb f t = true) (room : gm_n s < 5000) :
    gm_ok (gm_cast s v f t p) (fun v' s' => gm_IN P cnt G s' ∧ gm_VT s' v' t ∧ gm_le s s' ∧ gm_CR s s' (gm_lv f t) ∧ (gd_hd f = 2 → gd_G t = t → s' = s) ∧ gm_rk (gm_h s' (v' / 8)) = gm_rk (gm_h s (v / 8))) := by
  unfold gm_cast
  have wk := gm_wk_of hP H hv
  rw [if_pos (by rw [Bool.and_eq_true, Bool.and_eq_true, gm_wkb_i, gm_tyb_i, gm_tyb_i]; exact ⟨⟨wk, hf⟩, ht⟩)]
  by_cases e : gd_en f = gd_en t
  · rw [if_pos e]
    have e' := gd_en_inj hf.1 ht.1 e
    exact ⟨H, e' ▸ hv, gm_le_refl s, Or.inl rfl, fun _ _ => rfl, rfl⟩
  rw [if_neg e]
  by_cases t2 : gd_hd t = 2
  · rw [if_pos t2]
    have f2 : gd_hd f ≠ 2 := fun z => e (by rw [gm_leaf_of hf.1 (by omega), gm_leaf_of ht.1 (by omega), z, t2])
    refine gm_ok_mono (gm_ok_wr H hv hf (gm_G_TY hf.1) gm_G_hd (gm_cb_G hf.1) room) ?_
    rintro v' s' ⟨w, ev, hI, hw, hle, hcr, _, hrk⟩
    have g2 : gd_hd (gd_G f) ≠ 2 := by rw [gm_G_hd]; exact f2
    have w2 := hw.2.2 g2
    have ma := gm_mod_add w2.1 (show gm_tag f < 8 from Nat.lt_trans (gm_tag_lt hf.1) (by decide))
    refine ⟨hI, ?_, hle, gm_CR_mono hcr ?_, fun z => absurd z f2, by rw [ev, ma.1]; exact hrk⟩
    · unfold gm_VT
      rw [ev, ma.1, ma.2, w2.2]
      refine ⟨hw.1, fun _ => ⟨?_, gm_G_G f, g2⟩, fun z => absurd t2 z⟩
      unfold gm_tag
      rw [gm_G_hd]
    · exact gd_mx_le (gd_mx_l _ _) (Nat.le_trans (gm_G_dp hf.1) (gd_mx_l _ _))
  rw [if_neg t2]
  by_cases f2 : gd_hd f = 2
  · rw [if_pos f2]
    by_cases tg : v % 8 = gm_tag t
    · rw [if_pos tg]
      have h1 := hv.2.1 f2
      have c := gm_CO_sh hP (H _ hv.1)
      have e1 : gm_tag (gm_ct (gm_h s (v / 8))) = gm_tag t := h1.1.symm.trans tg
      have e2 := gm_tag_inj c.2.2 ht.1 c.2.1 t2 e1
      have e3 : gm_ct (gm_h s (v / 8)) = gd_G t := by
        rw [← h1.2.1]
        unfold gd_G
        rw [e2]
      have hd : (v - gm_tag t) / 8 = v / 8 ∧ (v - gm_tag t) % 8 = 0 := by omega
      have hw : gm_VT s (v - gm_tag t) (gd_G t) := by
        unfold gm_VT
        rw [hd.1, hd.2]
        exact ⟨hv.1, fun z => absurd (gm_G_hd.symm.trans z) t2, fun _ => ⟨rfl, e3⟩⟩
      refine gm_ok_mono (gm_ok_wr H hw (gm_G_TY ht.1) ht gm_G_hd.symm (by rw [gd_cb_sym]; exact gm_cb_G ht.1) room) ?_
      rintro v' s' ⟨w, ev, hI, hw', hle, hcr, hz, hrk⟩
      rw [Nat.add_zero] at ev
      subst ev
      exact ⟨hI, hw', hle, gm_CR_mono hcr (gd_mx_le (Nat.le_trans (gm_G_dp ht.1) (gd_mx_r _ _)) (gd_mx_r _ _)), fun _ z => hz z, by rw [hrk, hd.1]⟩
    · rw [if_neg tg]
      exact trivial
  · rw [if_neg f2]
    refine gm_ok_mono (gm_ok_wr H hv hf ht (gm_cb_hd hc f2 t2) hc room) ?_
    rintro v' s' ⟨w, ev, hI, hw', hle, hcr, hz, hrk⟩
    rw [Nat.add_zero] at ev
    subst ev
    exact ⟨hI, hw', hle, hcr, fun z => absurd z f2, hrk⟩
def gm_gB : Nat → Nat
  | 0 => 1
  | m + 1 => gm_gB m + 1 + m
def gm_hB : Nat → Nat
  | 0 => 0
  | m + 1 => gm_hB m + gm_gB m
theorem gm_gMax : ∀ m, m < 41 → (40 - m) * gm_gB m ≤ 4928 := by decide +kernel
theorem gm_hMax : ∀ m, m < 41 → (40 - m) * gm_hB m ≤ 45250 := by decide +kernel
theorem gm_sg {s m : Nat} (h : s + m ≤ 40) : s * gm_gB m ≤ 4928 :=
  Nat.le_trans (Nat.mul_le_mul_right _ (by omega)) (gm_gMax m (by omega))
theorem gm_sh40 {s m : Nat} (h : s + m ≤ 40) : s * gm_hB m ≤ 45250 :=
  Nat.le_trans (Nat.mul_le_mul_right _ (by omega)) (gm_hMax m (by omega))
theorem gm_gB1 (m : Nat) : 1 ≤ gm_gB m := by
  induction m with
  | zero => exact Nat.le_refl 1
  | succ m ih => simp only [gm_gB]; omega
/-- the accounts: S casts by operands, M two a call and one a take, B pairs, C casts by level, N other cells; what is still to come: p2, p1 casts, r frames, z turns, o cells, y scopes, a of the account -/
def gm_K (β : Nat) (s : gm_S) (p2 p1 r z o y a : Nat) : Prop :=
  ∃ S M B C1 C2 C3 N, S + M + β * B + a ≤ gm_T s ∧ gm_T s ≤ 40 ∧ gm_n s = C1 + N ∧ N + o ≤ gm_T s ∧ C3 ≤ S ∧ C2 + p2 ≤ S * (1 + M) ∧ C1 + p1 ≤ S * gm_gB M ∧ 2 * r ≤ S * gm_hB M ∧ gm_u s + z ≤ 3 * gm_T s + 9937 * M ∧ (2 * gm_m s + y ≤ M + 2 ∧ 1 ≤ gm_m s) ∧
    (∀ c, c < gm_n s → gm_q1 (gm_h s c) ≤ C1 ∧ gm_q2 (gm_h s c) ≤ C2 ∧ gm_q3 (gm_h s c) ≤ C3 ∧ gm_rk (gm_h s c) ≤ B)
theorem gm_J_w {β : Nat} {s : gm_S} {p2 p1 r z o y a p2' p1' r' z' o' y' a' : Nat} (J : gm_K β s p2 p1 r z o y a) (h2 : p2' ≤ p2) (h1 : p1' ≤ p1) (hr : r' ≤ r) (hz : z' ≤ z) (ho : o' ≤ o) (hy : y' ≤ y) (ha : a' ≤ a) : gm_K β s p2' p1' r' z' o' y' a' := by
  obtain ⟨S, M, B, C1, C2, C3, N, j1, j2, j3, j4, j5, j6, j7, j8, j9, j10, j11⟩ := J
  exact ⟨S, M, B, C1, C2, C3, N, by omega, j2, j3, by omega, j5, by omega, by omega, by omega, by omega, by omega, j11⟩
theorem gm_J_room {β : Nat} {s : gm_S} {p2 p1 r z o y a : Nat} (J : gm_K β s p2 p1 r z o y a) : gm_u s + z ≤ 397600 ∧ gm_n s + p1 ≤ 4968 ∧ (gm_m s ≤ 21 ∧ 1 ≤ gm_m s) ∧ r ≤ 22625 ∧ o ≤ 40 ∧ a ≤ 40 ∧ gm_T s ≤ 40 := by
  obtain ⟨S, M, B, C1, C2, C3, N, j1, j2, j3, j4, j5, j6, j7, j8, j9, j10, j11⟩ := J
  have h1 := gm_sg (s := S) (m := M) (by omega)
  have h2 := gm_sh40 (s := S) (m := M) (by omega)
  omega
theorem gm_J_tk {β : Nat} {s : gm_S} {p2 p1 r z o y a : Nat} (J : gm_K β s p2 p1 r (z + 1) o y a) : gm_K β (gm_tk s) p2 p1 r z o y a := by
  obtain ⟨S, M, B, C1, C2, C3, N, j1, j2, j3, j4, j5, j6, j7, j8, j9, j10, j11⟩ := J
  refine ⟨S, M, B, C1, C2, C3, N, j1, j2, j3, j4, j5, j6, j7, j8, ?_, j10, j11⟩
  show gm_u s + 1 + z ≤ 3 * gm_T s + 9937 * M
  omega
theorem gm_J_st {β : Nat} {s : gm_S} {p2 p1 r z o y a : Nat} (J : gm_K β s p2 p1 r z o y a) (h : gm_T s < 40) : gm_K β (gm_st s) p2 p1 r (z + 3) (o + 1) y (a + 1) := by
  obtain ⟨S, M, B, C1, C2, C3, N, j1, j2, j3, j4, j5, j6, j7, j8, j9, j10, j11⟩ := J
  refine ⟨S, M, B, C1, C2, C3, N, ?_, ?_, j3, ?_, j5, j6, j7, j8, ?_, j10, j11⟩
  · show S + M + β * B + (a + 1) ≤ gm_T s + 1
    omega
  · show gm_T s + 1 ≤ 40
    omega
  · show N + (o + 1) ≤ gm_T s + 1
    omega
  · show gm_u s + (z + 3) ≤ 3 * (gm_T s + 1) + 9937 * M
    omega
theorem gm_J_qs {s : gm_S} {c : gm_Cell} {C1 C2 C3 B C1' C2' C3' B' : Nat} (j : ∀ c, c < gm_n s → gm_q1 (gm_h s c) ≤ C1 ∧ gm_q2 (gm_h s c) ≤ C2 ∧ gm_q3 (gm_h s c) ≤ C3 ∧ gm_rk (gm_h s c) ≤ B) (l1 : C1 ≤ C1') (l2 : C2 ≤ C2') (l3 : C3 ≤ C3') (l4 : B ≤ B') (hc : gm_q1 c ≤ C1' ∧ gm_q2 c ≤ C2' ∧ gm_q3 c ≤ C3' ∧ gm_rk c ≤ B') :
    ∀ x, x < gm_n (gm_push s c) → gm_q1 (gm_h (gm_push s c) x) ≤ C1' ∧ gm_q2 (gm_h (gm_push s c) x) ≤ C2' ∧ gm_q3 (gm_h (gm_push s c) x) ≤ C3' ∧ gm_rk (gm_h (gm_push s c) x) ≤ B' := by
  intro x hx
  rw [gm_push_n] at hx
  by_cases e : x = gm_n s
  · subst e
    rw [gm_push_new]
    exact hc
  · rw [gm_push_old s c (by omega)]
    have := j x (by omega)
    omega
theorem gm_J_new {β : Nat} {s : gm_S} {p2 p1 r z o y a : Nat} {c : gm_Cell} (J : gm_K β s p2 p1 r z (o + 1) y a) (q : gm_Q0 c) (k : gm_rk c = 0) : gm_K β (gm_push s c) p2 p1 r z o y a := by
  obtain ⟨S, M, B, C1, C2, C3, N, j1, j2, j3, j4, j5, j6, j7, j8, j9, j10, j11⟩ := J
  obtain ⟨q1, q2, q3⟩ := q
  refine ⟨S, M, B, C1, C2, C3, N + 1, j1, j2, ?_, ?_, j5, j6, j7, j8, j9, j10, gm_J_qs j11 (Nat.le_refl _) (Nat.le_refl _) (Nat.le_refl _) (Nat.le_refl _) (by omega)⟩
  · rw [gm_push_n]; omega
  · show N + 1 + o ≤ gm_T s
    omega
theorem gm_J_pair {s : gm_S} {p2 p1 r z o y a : Nat} {c : gm_Cell} {x x' : Nat} (J : gm_K 2 s p2 p1 r z (o + 1) y (a + 2)) (q : gm_Q0 c) (hx : x < gm_n s) (hx' : x' < gm_n s) (k : gm_rk c = 1 + gd_mx (gm_rk (gm_h s x)) (gm_rk (gm_h s x'))) : gm_K 2 (gm_push s c) p2 p1 r z o y a := by
  obtain ⟨S, M, B, C1, C2, C3, N, j1, j2, j3, j4, j5, j6, j7, j8, j9, j10, j11⟩ := J
  obtain ⟨q1, q2, q3⟩ := q
  have b1 := (j11 x hx).2.2.2
  have b2 := (j11 x' hx').2.2.2
  have b3 : gd_mx (gm_rk (gm_h s x)) (gm_rk (gm_h s x')) ≤ B := gd_mx_le b1 b2
  refine ⟨S, M, B + 1, C1, C2, C3, N + 1, ?_, j2, ?_, ?_, j5, j6, j7, j8, j9, j10, gm_J_qs j11 (Nat.le_refl _) (Nat.le_refl _) (Nat.le_refl _) (Nat.le_succ _) (by omega)⟩
  · show S + M + 2 * (B + 1) + a ≤ gm_T s
    omega
  · rw [gm_push_n]; omega
  · show N + 1 + o ≤ gm_T s
    omega
theorem gm_ind_le (a b : Nat) : gm_ind a b ≤ 1 := by unfold gm_ind; split <;> omega
theorem gm_ind_mono {a b c : Nat} (h : b ≤ c) : gm_ind a b ≤ gm_ind a c := by
  unfold gm_ind
  by_cases x : a ≤ b
  · rw [if_pos x, if_pos (by omega)]; exact Nat.le_refl _
  · rw [if_neg x]; exact Nat.zero_le _
/-- a cast by an operand -/
theorem gm_J_S {β : Nat} {s s' : gm_S} {p2 p1 r z o y a L : Nat} (J : gm_K β s p2 p1 r z o y (a + 1)) (h : gm_CR s s' L) : gm_K β s' p2 p1 r z o y a := by
  rcases h with h | ⟨hL, v, f, t, p, hv, hl, h⟩
  · rw [h]
    exact gm_J_w J (Nat.le_refl _) (Nat.le_refl _) (Nat.le_refl _) (Nat.le_refl _) (Nat.le_refl _) (Nat.le_refl _) (Nat.le_succ _)
  · rw [h]
    obtain ⟨S, M, B, C1, C2, C3, N, j1, j2, j3, j4, j5, j6, j7, j8, j9, j10, j11⟩ := J
    have g1 := gm_gB1 M
    have jj := j11 _ hv
    have i2 := gm_ind_le 2 (gm_lv f t)
    have i3 := gm_ind_le 3 (gm_lv f t)
    refine ⟨S + 1, M, B, C1 + 1, C2 + 1, C3 + 1, N, ?_, j2, ?_, j4, by omega, ?_, ?_, ?_, j9, j10, gm_J_qs j11 (Nat.le_succ _) (Nat.le_succ _) (Nat.le_succ _) (Nat.le_refl _) ⟨?_, ?_, ?_, ?_⟩⟩
    · show S + 1 + M + β * B + a ≤ gm_T s
      omega
    · rw [gm_push_n]; omega
    · rw [Nat.add_mul]; omega
    · rw [Nat.add_mul]; omega
    · rw [Nat.add_mul]; omega
    · show 1 + gm_q1 (gm_h s (v / 8)) ≤ C1 + 1
      omega
    · show gm_ind 2 (gm_lv f t) + gm_q2 (gm_h s (v / 8)) ≤ C2 + 1
      omega
    · show gm_ind 3 (gm_lv f t) + gm_q3 (gm_h s (v / 8)) ≤ C3 + 1
      omega
    · show gm_rk (gm_h s (v / 8)) ≤ B
      omega
/-- a cast that a call or a take had put by -/
theorem gm_J_P {β : Nat} {s s' : gm_S} {p2 p1 r z o y a L : Nat} (J : gm_K β s (p2 + gm_ind 2 L) (p1 + gm_ind 1 L) r z o y a) (h2 : L ≤ 2) (h : gm_CR s s' L) : gm_K β s' p2 p1 r z o y a := by
  rcases h with h | ⟨hL, v, f, t, p, hv, hl, h⟩
  · rw [h]
    exact gm_J_w J (by omega) (by omega) (Nat.le_refl _) (Nat.le_refl _) (Nat.le_refl _) (Nat.le_refl _) (Nat.le_refl _)
  · rw [h]
    obtain ⟨S, M, B, C1, C2, C3, N, j1, j2, j3, j4, j5, j6, j7, j8, j9, j10, j11⟩ := J
    have jj := j11 _ hv
    have e1 : gm_ind 1 L = 1 := by unfold gm_ind; rw [if_pos hL]
    have i2 := gm_ind_mono (a := 2) hl
    have i3 : gm_ind 3 (gm_lv f t) = 0 := by unfold gm_ind; rw [if_neg (by omega)]
    refine ⟨S, M, B, C1 + 1, C2 + gm_ind 2 L, C3, N, j1, j2, ?_, j4, j5, by omega, by omega, j8, j9, j10, gm_J_qs j11 (Nat.le_succ _) (Nat.le_add_right _ _) (Nat.le_refl _) (Nat.le_refl _) ⟨?_, ?_, ?_, ?_⟩⟩
    · rw [gm_push_n]; omega
    · show 1 + gm_q1 (gm_h s (v / 8)) ≤ C1 + 1
      omega
    · show gm_ind 2 (gm_lv f t) + gm_q2 (gm_h s (v / 8)) ≤ C2 + gm_ind 2 L
      omega
    · show gm_ind 3 (gm_lv f t) + gm_q3 (gm_h s (v / 8)) ≤ C3
      omega
    · show gm_rk (gm_h s (v / 8)) ≤ B
      omega
/-- a call begins at the cell g -/
theorem gm_J_call {β : Nat} {s : gm_S} {p2 p1 r z o y a g : Nat} (J : gm_K β s p2 p1 r z o y (a + 2)) (hg : g < gm_n s) : gm_K β s (p2 + 2 * gm_q3 (gm_h s g)) (p1 + 2 * gm_q2 (gm_h s g)) (r + gm_q1 (gm_h s g)) (z + 2 * gm_q1 (gm_h s g) + 1) o (y + 2) a := by
  have room := gm_J_room J
  obtain ⟨S, M, B, C1, C2, C3, N, j1, j2, j3, j4, j5, j6, j7, j8, j9, j10, j11⟩ := J
  obtain ⟨k1, k2, k3, k4⟩ := j11 g hg
  have e1 : S * (1 + (M + 2)) = S * (1 + M) + 2 * S := by rw [show 1 + (M + 2) = (1 + M) + 2 by omega, Nat.mul_add, Nat.mul_comm S 2]
  have e2 : S * gm_gB (M + 2) = S * gm_gB M + 2 * (S * (1 + M)) + S := by
    simp only [gm_gB]
    rw [show gm_gB M + 1 + M + 1 + (M + 1) = gm_gB M + 2 * (1 + M) + 1 by omega, Nat.mul_add, Nat.mul_add, Nat.mul_one, Nat.mul_left_comm]
  have e3 : S * gm_hB (M + 2) = S * gm_hB M + 2 * (S * gm_gB M) + S * (1 + M) := by
    simp only [gm_hB, gm_gB]
    rw [show gm_hB M + gm_gB M + (gm_gB M + 1 + M) = gm_hB M + 2 * gm_gB M + (1 + M) by omega, Nat.mul_add, Nat.mul_add, Nat.mul_left_comm]
  refine ⟨S, M + 2, B, C1, C2, C3, N, by omega, j2, j3, j4, j5, ?_, ?_, ?_, by omega, by omega, j11⟩
  · rw [e1]; omega
  · rw [e2]; omega
  · rw [e3]; omega
/-- a take begins at the cell g -/
theorem gm_J_take {β : Nat} {s : gm_S} {p2 p1 r z o y a g : Nat} (J : gm_K β s p2 p1 r z o y (a + 1)) (hg : g < gm_n s) : gm_K β s (p2 + gm_q3 (gm_h s g)) (p1 + gm_q2 (gm_h s g)) r (z + 2 * gm_q1 (gm_h s g) + 1) o y a := by
  have room := gm_J_room J
  obtain ⟨S, M, B, C1, C2, C3, N, j1, j2, j3, j4, j5, j6, j7, j8, j9, j10, j11⟩ := J
  obtain ⟨k1, k2, k3, k4⟩ := j11 g hg
  have e1 : S * (1 + (M + 1)) = S * (1 + M) + S := by rw [show 1 + (M + 1) = (1 + M) + 1 by omega, Nat.mul_add, Nat.mul_one]
  have e2 : S * gm_gB (M + 1) = S * gm_gB M + S * (1 + M) := by
    simp only [gm_gB]
    rw [show gm_gB M + 1 + M = gm_gB M + (1 + M) by omega, Nat.mul_add]
  have e3 : S * gm_hB (M + 1) = S * gm_hB M + S * gm_gB M := by
    simp only [gm_hB]
    rw [Nat.mul_add]
  refine ⟨S, M + 1, B, C1, C2, C3, N, by omega, j2, j3, j4, j5, ?_, ?_, ?_, by omega, by omega, j11⟩
  · rw [e1]; omega
  · rw [e2]; omega
  · rw [e3]; omega
theorem gm_J_scope {β : Nat} {s : gm_S} {p2 p1 r z o y a b b' : Nat} (J : gm_K β s p2 p1 r z o (y + 2) a) : gm_K β (gm_scope s b b') p2 p1 r z o y a := by
  obtain ⟨S, M, B, C1, C2, C3, N, j1, j2, j3, j4, j5, j6, j7, j8, j9, j10, j11⟩ := J
  refine ⟨S, M, B, C1, C2, C3, N, j1, j2, j3, j4, j5, j6, j7, j8, j9, ?_, j11⟩
  show 2 * (gm_m s + 1) + y ≤ M + 2 ∧ 1 ≤ gm_m s + 1
  omega
theorem gm_J_q {β : Nat} {s : gm_S} {p2 p1 r z o y a g : Nat} (J : gm_K β s p2 p1 r z o y a) (hg : g < gm_n s) : gm_q1 (gm_h s g) ≤ 4968 := by
  have room := gm_J_room J
  obtain ⟨S, M, B, C1, C2, C3, N, j1, j2, j3, j4, j5, j6, j7, j8, j9, j10, j11⟩ := J
  have := j11 g hg
  omega
theorem gm_IN_tk {P : gm_P} {cnt : Nat} {G : Nat → List (Lean.RArray Nat)} {s : gm_S} (H : gm_IN P cnt G s) : gm_IN P cnt G (gm_tk s) := gm_IN_le H (gm_le_tk s) rfl
theorem gm_IN_st {P : gm_P} {cnt : Nat} {G : Nat → List (Lean.RArray Nat)} {s : gm_S} (H : gm_IN P cnt G s) : gm_IN P cnt G (gm_st s) := gm_IN_le H (gm_le_st s) rfl
theorem gm_CR_T {s s' : gm_S} {L : Nat} (h : gm_CR s s' L) : gm_T s' = gm_T s := by
  rcases h with h | ⟨_, v, f, t, p, _, _, h⟩
  · rw [h]
  · rw [h]; rfl
theorem gm_ok_fc {β : Nat} {P : gm_P} {cnt : Nat} {G : Nat → List (Lean.RArray Nat)} {s : gm_S} (hP : gm_SF P cnt G) (H : gm_IN P cnt G s) {v h : Nat} {f t : Lean.RArray Nat} {p : Int} (hv : gm_VT s v f) (hf : gd_TY f) (ht : gd_TY t) (hc : gd_cb f t = true) (hh : h < 32767) {p2 p1 r z o y a : Nat} (J : gm_K β s p2 p1 r (z + 1) o y a) :
    gm_ok (gm_fc s h v f t p) (fun v' s' => gm_IN P cnt G s' ∧ gm_VT s' v' t ∧ gm_le s s' ∧ gm_T s' = gm_T s ∧ gm_rk (gm_h s' (v' / 8)) = gm_rk (gm_h s (v / 8)) ∧ ∃ s1, gm_K β s1 p2 p1 r z o y a ∧ gm_CR s1 s' (gm_lv f t) ∧ (f = t ∨ gd_hd f = 2 ∧ gd_G t = t → s' = s1)) := by
  have room := gm_J_room J
  unfold gm_fc
  by_cases e : gd_en f = gd_en t
  · rw [if_pos e]
    have e' := gd_en_inj hf.1 ht.1 e
    exact ⟨H, e' ▸ hv, gm_le_refl s, rfl, rfl, s, gm_J_w J (Nat.le_refl _) (Nat.le_refl _) (Nat.le_refl _) (Nat.le_succ _) (Nat.le_refl _) (Nat.le_refl _) (Nat.le_refl _), Or.inl rfl, fun _ => rfl⟩
  · rw [if_neg e]
    refine gm_ok_tick ⟨by omega, by omega, by omega, hh⟩ ?_
    have H' : gm_IN P cnt G (gm_tk s) := gm_IN_tk H
    refine gm_ok_mono (gm_ok_cast hP H' (s := gm_tk s) hv hf ht hc (show gm_n s < 5000 by omega)) ?_
    rintro v' s' ⟨a1, a2, a3, a4, a5, a6⟩
    refine ⟨a1, a2, a3, ?_, a6, gm_tk s, gm_J_tk J, a4, ?_⟩
    · rw [gm_CR_T a4]; rfl
    · rintro (z | z)
      · exact absurd (by rw [z]) e
      · exact a5 z.1 z.2
theorem gm_lv_l {h : Nat} {a b a' b' : Lean.RArray Nat} : gm_lv a a' + 1 ≤ gm_lv (.branch h a b) (.branch h a' b') := by
  unfold gm_lv
  simp only [gd_dp]
  have h1 := gd_mx_l (gd_dp a) (gd_dp b)
  have h2 := gd_mx_l (gd_dp a') (gd_dp b')
  have h3 := gd_mx_l (1 + gd_mx (gd_dp a) (gd_dp b)) (1 + gd_mx (gd_dp a') (gd_dp b'))
  have h4 := gd_mx_r (1 + gd_mx (gd_dp a) (gd_dp b)) (1 + gd_mx (gd_dp a') (gd_dp b'))
  have h5 := gd_mx_le (show gd_dp a ≤ gd_mx (1 + gd_mx (gd_dp a) (gd_dp b)) (1 + gd_mx (gd_dp a') (gd_dp b')) - 1 by omega) (show gd_dp a' ≤ gd_mx (1 + gd_mx (gd_dp a) (gd_dp b)) (1 + gd_mx (gd_dp a') (gd_dp b')) - 1 by omega)
  omega
theorem gm_lv_r {h : Nat} {a b a' b' : Lean.RArray Nat} : gm_lv b b' + 1 ≤ gm_lv (.branch h a b) (.branch h a' b') := by
  unfold gm_lv
  simp only [gd_dp]
  have h1 := gd_mx_r (gd_dp a) (gd_dp b)
  have h2 := gd_mx_r (gd_dp a') (gd_dp b')
  have h3 := gd_mx_l (1 + gd_mx (gd_dp a) (gd_dp b)) (1 + gd_mx (gd_dp a') (gd_dp b'))
  have h4 := gd_mx_r (1 + gd_mx (gd_dp a) (gd_dp b)) (1 + gd_mx (gd_dp a') (gd_dp b'))
  have h5 := gd_mx_le (show gd_dp b ≤ gd_mx (1 + gd_mx (gd_dp a) (gd_dp b)) (1 + gd_mx (gd_dp a') (gd_dp b')) - 1 by omega) (show gd_dp b' ≤ gd_mx (1 + gd_mx (gd_dp a) (gd_dp b)) (1 + gd_mx (gd_dp a') (gd_dp b')) - 1 by omega)
  omega
theorem gm_lv_sym (a b : Lean.RArray Nat) : gm_lv a b = gm_lv b a := by
  unfold gm_lv gd_mx
  split <;> split <;> omega
theorem gm_ind_dn {k L' L : Nat} (h : L' + 1 ≤ L) : gm_ind k L' ≤ gm_ind (k + 1) L := by
  unfold gm_ind
  by_cases x : k ≤ L'
  · rw [if_pos x, if_pos (by omega)]; exact Nat.le_refl _
  · rw [if_neg x]; exact Nat.zero_le _
theorem gm_lv3 {f t : Lean.RArray Nat} (hf : gd_TY f) (ht : gd_TY t) : gm_lv f t ≤ 3 := gd_mx_le (gd_dp3 hf) (gd_dp3 ht)
/-- a cast that was put by, at a part of the types of a cast cell -/
theorem gm_J_P' {β : Nat} {s s' : gm_S} {p2 p1 r z o y a L L' : Nat} (J : gm_K β s (p2 + gm_ind 3 L) (p1 + gm_ind 2 L) r z o y a) (hL : L ≤ 3) (hl : L' + 1 ≤ L) (h : gm_CR s s' L') : gm_K β s' p2 p1 r z o y a := by
  have i1 := gm_ind_dn (k := 2) hl
  have i2 := gm_ind_dn (k := 1) hl
  exact gm_J_P (gm_J_w J (Nat.add_le_add_left i1 _) (Nat.add_le_add_left i2 _) (Nat.le_refl _) (Nat.le_refl _) (Nat.le_refl _) (Nat.le_refl _) (Nat.le_refl _)) (by omega) h
theorem gm_ok_take {β : Nat} {P : gm_P} {cnt : Nat} {G : Nat → List (Lean.RArray Nat)} (hP : gm_SF P cnt G) {side r o y a : Nat} : ∀ (n h v : Nat) (s : gm_S) (p2 p1 z : Nat) (A B : Lean.RArray Nat), gm_IN P cnt G s → gm_VT s v (.branch 4 A B) → gm_q1 (gm_h s (v / 8)) = n → h + n < 32767 →
    gm_K β s (p2 + gm_q3 (gm_h s (v / 8))) (p1 + gm_q2 (gm_h s (v / 8))) r (z + 2 * n + 1) o y a →
    gm_ok (gm_take side n h v s) (fun u s' => gm_IN P cnt G s' ∧ gm_VT s' u (if side = 0 then A else B) ∧ gm_le s s' ∧ gm_T s' = gm_T s ∧ gm_rk (gm_h s' (u / 8)) < gm_rk (gm_h s (v / 8)) ∧ gm_K β s' p2 p1 r z o y a) := by
  intro n
  induction n with
  | zero =>
    intro h v s p2 p1 z A B H hv hq hh J
    have room := gm_J_room J
    simp only [gm_take]
    refine gm_ok_tick ⟨by omega, by omega, by omega, by omega⟩ ?_
    have co := H _ hv.1
    have hct := (hv.2.2 (by simp [gd_hd])).2
    have J1 : gm_K β (gm_tk s) p2 p1 r z o y a := gm_J_tk (gm_J_w J (Nat.le_add_right _ _) (Nat.le_add_right _ _) (Nat.le_refl _) (by omega) (Nat.le_refl _) (Nat.le_refl _) (Nat.le_refl _))
    rcases co with c | c | c | c | c
    · rw [hct] at c; exact absurd c.2.1 (by simp)
    · rw [hct] at c; exact absurd c.2.1 (by simp)
    · obtain ⟨_, i, l, e, _⟩ := c
      obtain ⟨_, t, e2, _⟩ := (hP _ i).2.2.2.2.1 l
      rw [hct, e2] at e
      injection e with e _ _
      exact absurd e (by decide)
    · obtain ⟨k, _, a', b', e, _, _, va, vb, r1, r2⟩ := c
      rw [hct] at e
      injection e with _ e1 e2
      rw [if_pos ⟨hv.1, k⟩]
      by_cases hs : side = 0
      · rw [if_pos hs]
        show gm_IN P cnt G (gm_tk s) ∧ gm_VT (gm_tk s) _ (if side = 0 then A else B) ∧ _
        rw [if_pos hs, e1]
        exact ⟨gm_IN_tk H, va, gm_le_refl s, rfl, r1, J1⟩
      · rw [if_neg hs]
        show gm_IN P cnt G (gm_tk s) ∧ gm_VT (gm_tk s) _ (if side = 0 then A else B) ∧ _
        rw [if_neg hs, e2]
        exact ⟨gm_IN_tk H, vb, gm_le_refl s, rfl, r2, J1⟩
    · obtain ⟨_, _, _, _, _, _, _, _, _, _, _, _, _, q, _⟩ := c
      omega
  | succ n ih =>
    intro h v s p2 p1 z A B H hv hq hh J
    have room := gm_J_room J
    simp only [gm_take]
    refine gm_ok_tick ⟨by omega, by omega, by omega, by omega⟩ ?_
    have co := H _ hv.1
    have hct := (hv.2.2 (by simp [gd_hd])).2
    rcases co with c | c | c | c | c
    · have := c.2.2.1; omega
    · have := c.2.2.1; omega
    · have := c.2.2.2.2.2.1; omega
    · have := c.2.1.1; omega
    · obtain ⟨k, a0, b0, a', b', hk, ef, et, tf, tt, ca, cb, va, q1, q2, q3, rk⟩ := c
      rw [hct] at et
      injection et with ek e1 e2
      subst e1 e2 ek
      have k6 : gm_ck (gm_h s (v / 8)) = 6 := by
        rcases hk with hk | hk
        · exact absurd hk.2 (by decide)
        · exact hk.1
      rw [if_pos ⟨hv.1, k6⟩]
      rw [hct] at q2 q3
      rw [ef] at q2 q3 va
      have l3 : gm_lv (.branch 4 a0 b0) (.branch 4 A B) ≤ 3 := gm_lv3 (ef ▸ tf) (hct ▸ tt)
      have J1 : gm_K β (gm_tk s) ((p2 + gm_ind 3 (gm_lv (.branch 4 a0 b0) (.branch 4 A B))) + gm_q3 (gm_h s (gm_ca (gm_h s (v / 8)) / 8))) ((p1 + gm_ind 2 (gm_lv (.branch 4 a0 b0) (.branch 4 A B))) + gm_q2 (gm_h s (gm_ca (gm_h s (v / 8)) / 8))) r ((z + 1) + 2 * n + 1) o y a :=
        gm_J_tk (gm_J_w J (by omega) (by omega) (Nat.le_refl _) (by omega) (Nat.le_refl _) (Nat.le_refl _) (Nat.le_refl _))
      have I := ih (h + 1) (gm_ca (gm_h s (v / 8))) (gm_tk s) _ _ (z + 1) a0 b0 (gm_IN_tk H) va (by show gm_q1 (gm_h s _) = n; omega) (by omega) J1
      refine gm_ok_bd I ?_
      rintro u s' ⟨i1, i2, i3, i4, i5, i6⟩
      have tl : gd_TY (if side = 0 then a0 else b0) := by
        rw [ef] at tf
        split
        · exact gd_TY_l tf
        · exact gd_TY_r tf
      have tr : gd_TY (if side = 0 then A else B) := by
        rw [hct] at tt
        split
        · exact gd_TY_l tt
        · exact gd_TY_r tt
      have cc : gd_cb (if side = 0 then a0 else b0) (if side = 0 then A else B) = true := by
        split
        · exact ca
        · exact cb
      have lv : gm_lv (if side = 0 then a0 else b0) (if side = 0 then A else B) + 1 ≤ gm_lv (.branch 4 a0 b0) (.branch 4 A B) := by
        split
        · exact gm_lv_l
        · exact gm_lv_r
      have F := gm_ok_fc hP i1 (h := h + 1) (p := gm_cp (gm_h s (v / 8))) i2 tl tr cc (by omega) i6
      show gm_ok (gm_fc s' (h + 1) u (if side = 0 then gd_lf (gm_cf (gm_h s (v / 8))) else gd_rt (gm_cf (gm_h s (v / 8)))) (if side = 0 then gd_lf (gm_ct (gm_h s (v / 8))) else gd_rt (gm_ct (gm_h s (v / 8)))) (gm_cp (gm_h s (v / 8)))) _
      rw [ef, hct]
      refine gm_ok_mono F ?_
      rintro u' s'' ⟨f1, f2, f3, f4, f5, s1, f6, f7, _⟩
      refine ⟨f1, f2, gm_le_trans i3 f3, f4.trans i4, ?_, gm_J_P' f6 l3 lv f7⟩
      rw [f5, rk]
      exact i5
/-- what is known of the evaluator with less fuel -/
def gm_HF (P : gm_P) (cnt : Nat) (G : Nat → List (Lean.RArray Nat)) (d : Nat) (f : Nat → Nat → Nat → gm_S → Option gm_O) : Prop :=
  ∀ (h i w : Nat) (s : gm_S) (p2 p1 r z o y a : Nat), i < cnt → gm_IN P cnt G s → gm_WT s w (G i) → gm_K 2 s p2 p1 r z o y a → h ≤ 2 * o + r → 41 ≤ d + gm_T s →
    gm_ok (f h i w s) (fun v s' => gm_IN P cnt G s' ∧ gm_VT s' v (gm_ty P i) ∧ gm_le s s' ∧ gm_T s ≤ gm_T s' ∧ gm_K 2 s' p2 p1 r (z + 2) o y (a + 1))
theorem gm_ok_call {P : gm_P} {cnt : Nat} {G : Nat → List (Lean.RArray Nat)} (hP : gm_SF P cnt G) {d : Nat} {f : Nat → Nat → Nat → gm_S → Option gm_O} (hf : gm_HF P cnt G d f) {R o y a : Nat} : ∀ (n h g x : Nat) (s : gm_S) (p2 p1 z : Nat) (A B : Lean.RArray Nat), gm_IN P cnt G s → gm_VT s g (.branch 3 A B) → gm_VT s x A → gm_q1 (gm_h s (g / 8)) = n → h + n ≤ 2 * o + R → 41 ≤ d + gm_T s →
    gm_K 2 s (p2 + 2 * gm_q3 (gm_h s (g / 8))) (p1 + 2 * gm_q2 (gm_h s (g / 8))) R (z + 2 * n + 1) o (y + 2) a →
    gm_ok (gm_call f n h g x s) (fun u s' => gm_IN P cnt G s' ∧ gm_VT s' u B ∧ gm_le s s' ∧ gm_T s ≤ gm_T s' ∧ gm_K 2 s' p2 p1 R (z + 2) o y (a + 1)) := by
  intro n
  induction n with
  | zero =>
    intro h g x s p2 p1 z A B H hv hx hq hh hd J
    have room := gm_J_room J
    simp only [gm_call]
    refine gm_ok_tick ⟨by omega, by omega, by omega, by omega⟩ ?_
    have co := H _ hv.1
    have hct := (hv.2.2 (by simp [gd_hd])).2
    have J1 : gm_K 2 (gm_tk s) p2 p1 R z o (y + 2) a := gm_J_tk (gm_J_w J (Nat.le_add_right _ _) (Nat.le_add_right _ _) (Nat.le_refl _) (by omega) (Nat.le_refl _) (Nat.le_refl _) (Nat.le_refl _))
    rcases co with c | c | c | c | c
    · rw [hct] at c; exact absurd c.2.1 (by simp)
    · rw [hct] at c; exact absurd c.2.1 (by simp)
    · obtain ⟨k, i, l, e, wt, _⟩ := c
      obtain ⟨lt, t, e2, eG⟩ := (hP _ i).2.2.2.2.1 l
      rw [hct, e2] at e
      injection e with _ e3 e4
      subst e3 e4
      rw [if_pos ⟨hv.1, k⟩]
      have le1 : gm_le s (gm_scope (gm_tk s) x (gm_cb (gm_h s (g / 8)))) := gm_le_scope (gm_tk s) _ _
      have wt' : gm_WT (gm_scope (gm_tk s) x (gm_cb (gm_h s (g / 8)))) (gm_m s) (G (gm_ca (gm_h s (g / 8)) + 1)) := by
        rw [eG]
        have eE : gm_e (gm_scope (gm_tk s) x (gm_cb (gm_h s (g / 8)))) (gm_m s) = (x, gm_cb (gm_h s (g / 8))) := if_pos rfl
        simp only [gm_WT]
        rw [eE]
        refine ⟨?_, Nat.lt_succ_self _, gm_VT_mono le1 hx, gm_WT_mono le1 _ _ wt⟩
        exact room.2.2.1.2
      refine gm_ok_mono (hf h (gm_ca (gm_h s (g / 8)) + 1) (gm_m s) (gm_scope (gm_tk s) x (gm_cb (gm_h s (g / 8)))) p2 p1 R z o y a lt (gm_IN_le H le1 rfl) wt' (gm_J_scope J1) (by omega) hd) ?_
      rintro v s' ⟨i1, i2, i3, i4, i5⟩
      exact ⟨i1, i2, gm_le_trans le1 i3, i4, i5⟩
    · obtain ⟨k, _, a', b', e, _⟩ := c
      rw [hct] at e
      injection e with e _ _
      exact absurd e (by decide)
    · obtain ⟨_, _, _, _, _, _, _, _, _, _, _, _, _, q, _⟩ := c
      omega
  | succ n ih =>
    intro h g x s p2 p1 z A B H hv hx hq hh hd J
    have room := gm_J_room J
    simp only [gm_call]
    refine gm_ok_tick ⟨by omega, by omega, by omega, by omega⟩ ?_
    have co := H _ hv.1
    have hct := (hv.2.2 (by simp [gd_hd])).2
    rcases co with c | c | c | c | c
    · have := c.2.2.1; omega
    · have := c.2.2.1; omega
    · have := c.2.2.2.2.2.1; omega
    · have := c.2.1.1; omega
    · obtain ⟨k, a0, b0, a', b', hk, ef, et, tf, tt, ca, cb, va, q1, q2, q3, rk⟩ := c
      rw [hct] at et
      injection et with ek e1 e2
      subst e1 e2 ek
      have k4 : gm_ck (gm_h s (g / 8)) = 4 := by
        rcases hk with hk | hk
        · exact hk.1
        · exact absurd hk.2 (by decide)
      rw [if_pos ⟨hv.1, k4⟩]
      rw [hct] at q2 q3
      rw [ef] at q2 q3 va
      have tf' : gd_TY (.branch 3 a0 b0) := ef ▸ tf
      have tt' : gd_TY (.branch 3 A B) := hct ▸ tt
      have l3 : gm_lv (.branch 3 a0 b0) (.branch 3 A B) ≤ 3 := gm_lv3 tf' tt'
      have lvl : gm_lv A a0 + 1 ≤ gm_lv (.branch 3 a0 b0) (.branch 3 A B) := by rw [gm_lv_sym A a0]; exact gm_lv_l
      have J1 : gm_K 2 (gm_tk s) (((p2 + gm_ind 3 (gm_lv (.branch 3 a0 b0) (.branch 3 A B))) + 2 * gm_q3 (gm_h s (gm_ca (gm_h s (g / 8)) / 8))) + gm_ind 3 (gm_lv (.branch 3 a0 b0) (.branch 3 A B))) (((p1 + gm_ind 2 (gm_lv (.branch 3 a0 b0) (.branch 3 A B))) + 2 * gm_q2 (gm_h s (gm_ca (gm_h s (g / 8)) / 8))) + gm_ind 2 (gm_lv (.branch 3 a0 b0) (.branch 3 A B))) R ((z + 1) + 2 * n + 1) o (y + 2) a :=
        gm_J_tk (gm_J_w J (by omega) (by omega) (Nat.le_refl _) (by omega) (Nat.le_refl _) (Nat.le_refl _) (Nat.le_refl _))
      have F := gm_ok_cast hP (gm_IN_tk H) (p := - gm_cp (gm_h s (g / 8))) (show gm_VT (gm_tk s) x A from hx) (gd_TY_l tt') (gd_TY_l tf') (by rw [gd_cb_sym]; exact ca) (show gm_n s < 5000 by omega)
      show gm_ok (gm_bd (gm_cast (gm_tk s) x (gd_lf (gm_ct (gm_h s (g / 8)))) (gd_lf (gm_cf (gm_h s (g / 8)))) (- gm_cp (gm_h s (g / 8)))) (fun a' s' =>
          gm_bd (gm_call f n (h + 1) (gm_ca (gm_h s (g / 8))) a' s') (fun u s'' =>
            gm_fc s'' (h + 1) u (gd_rt (gm_cf (gm_h s (g / 8)))) (gd_rt (gm_ct (gm_h s (g / 8)))) (gm_cp (gm_h s (g / 8)))))) _
      rw [ef, hct]
      refine gm_ok_bd F ?_
      rintro x' s' ⟨c1, c2, c3, c4, _, _⟩
      have J2 := gm_J_P' J1 l3 lvl c4
      have eh : gm_h s' (gm_ca (gm_h s (g / 8)) / 8) = gm_h s (gm_ca (gm_h s (g / 8)) / 8) := c3.2.1 _ va.1
      have T' : gm_T s' = gm_T s := (gm_CR_T c4).trans rfl
      rw [← eh] at J2
      refine gm_ok_bd (ih (h + 1) _ x' s' _ _ (z + 1) a0 b0 c1 (gm_VT_mono c3 va) c2 (by rw [eh]; omega) (by omega) (by omega) J2) ?_
      rintro u s'' ⟨i1, i2, i3, i4, i5⟩
      have room' := gm_J_room i5
      have F2 := gm_ok_fc hP i1 (h := h + 1) (p := gm_cp (gm_h s (g / 8))) (z := z + 2) i2 (gd_TY_r tf') (gd_TY_r tt') cb (by omega) (gm_J_w i5 (Nat.le_refl _) (Nat.le_refl _) (Nat.le_refl _) (by omega) (Nat.le_refl _) (Nat.le_refl _) (Nat.le_refl _))
      refine gm_ok_mono F2 ?_
      rintro u' s3 ⟨f1, f2, f3, f4, _, s1, f6, f7, _⟩
      exact ⟨f1, f2, gm_le_trans c3 (gm_le_trans i3 f3), by omega, gm_J_P' f6 l3 gm_lv_r f7⟩
theorem gm_ok_opr {P : gm_P} {cnt : Nat} {G : Nat → List (Lean.RArray Nat)} (hP : gm_SF P cnt G) {d : Nat} {f : Nat → Nat → Nat → gm_S → Option gm_O} (hf : gm_HF P cnt G d f) {h i k w : Nat} {s : gm_S} {p2 p1 r z o y a : Nat} (hk : gm_op P i k < cnt ∧ G (gm_op P i k) = G i ∧ gd_TY (gm_tg P i k) ∧ gd_cb (gm_ty P (gm_op P i k)) (gm_tg P i k) = true) (H : gm_IN P cnt G s) (hw : gm_WT s w (G i)) (J : gm_K 2 s p2 p1 r z (o + 1) y a) (hh : h ≤ 2 * o + r) (hd : 41 ≤ d + gm_T s) :
    gm_ok (gm_opr P f h i k w s) (fun v s' => gm_IN P cnt G s' ∧ gm_VT s' v (gm_tg P i k) ∧ gm_le s s' ∧ gm_T s ≤ gm_T s' ∧ gm_K 2 s' p2 p1 r z (o + 1) y a ∧ (gm_ty P (gm_op P i k) = gm_tg P i k ∨ gd_hd (gm_ty P (gm_op P i k)) = 2 ∧ gd_G (gm_tg P i k) = gm_tg P i k → gm_K 2 s' p2 p1 r z (o + 1) y (a + 1))) := by
  obtain ⟨k1, k2, k3, k4⟩ := hk
  unfold gm_opr
  refine gm_ok_bd (hf (h + 2) (gm_op P i k) w s p2 p1 r z (o + 1) y a k1 H (by rw [k2]; exact hw) J (by omega) hd) ?_
  rintro v s1 ⟨a1, a2, a3, a4, a5⟩
  have room := gm_J_room a5
  refine gm_ok_bd (gm_ok_fc hP a1 (h := h + 2) (z := z + 1) a2 (hP _ k1).1 k3 k4 (by omega) (gm_J_w a5 (Nat.le_refl _) (Nat.le_refl _) (Nat.le_refl _) (by omega) (Nat.le_refl _) (Nat.le_refl _) (Nat.le_refl _))) ?_
  rintro v' s2 ⟨b1, b2, b3, b4, _, s3, b5, b6, b7⟩
  have J2 := gm_J_S b5 b6
  have room2 := gm_J_room J2
  refine gm_ok_tick ⟨by omega, by omega, by omega, by omega⟩ ?_
  refine ⟨gm_IN_tk b1, b2, gm_le_trans a3 b3, ?_, gm_J_tk J2, fun n => ?_⟩
  · show gm_T s ≤ gm_T s2
    omega
  · have e := b7 n
    subst e
    exact gm_J_tk b5
theorem gm_num_ok {P : gm_P} {cnt : Nat} {G : Nat → List (Lean.RArray Nat)} (hP : gm_SF P cnt G) {s : gm_S} (H : gm_IN P cnt G s) {v b : Nat} (hb : b < 2) (hv : gm_VT s v (.leaf b)) : v / 8 < gm_n s ∧ gm_ck (gm_h s (v / 8)) < 3 := by
  refine ⟨hv.1, ?_⟩
  have hct := (hv.2.2 (by simp only [gd_hd]; omega)).2
  rcases H _ hv.1 with c | c | c | c | c
  · rw [c.1]; decide
  · rw [c.1]; decide
  · obtain ⟨_, i, l, e, _⟩ := c
    obtain ⟨_, t, e2, _⟩ := (hP _ i).2.2.2.2.1 l
    rw [hct, e2] at e
    exact absurd e (by simp)
  · obtain ⟨_, _, _, _, e, _⟩ := c
    rw [hct] at e
    exact absurd e (by simp)
  · obtain ⟨_, _, _, _, _, _, _, e, _⟩ := c
    rw [hct] at e
    exact absurd e (by simp)
theorem gm_VT_new {s : gm_S} {c : gm_Cell} {t : Lean.RArray Nat} (e : gm_ct c = t) (h2 : gd_hd t ≠ 2) : gm_VT (gm_push s c) (8 * gm_n s + 0) t := by
  have e8 : (8 * gm_n s + 0) / 8 = gm_n s := by omega
  unfold gm_VT
  rw [e8, gm_push_new]
  exact ⟨by rw [gm_push_n]; omega, fun z => absurd z h2, fun _ => ⟨by omega, e⟩⟩
theorem gm_ok_num {s : gm_S} {v : Nat} {k : Int32 → Option gm_O} {Q : Nat → gm_S → Prop} (h : v / 8 < gm_n s ∧ gm_ck (gm_h s (v / 8)) < 3) (hk : gm_ok (k (gm_ci (gm_h s (v / 8)))) Q) : gm_ok (gm_num s v k) Q := by
  unfold gm_num
  rw [if_pos h]
  exact hk
theorem gm_cb_leaf {t : Lean.RArray Nat} {n : Nat} (hn : n < 2) (h : gd_cb t (.leaf n) = true) : t = .leaf n ∨ gd_hd t = 2 ∧ gd_G (.leaf n) = .leaf n := by
  have g : gd_G (.leaf n) = .leaf n := gm_G_leaf (by simp only [gd_vt]; omega) (by simp only [gd_hd]; omega)
  cases t with
  | leaf m =>
    simp only [gd_cb, Bool.or_eq_true, beq_iff_eq] at h
    rcases h with (h | h) | h
    · right; exact ⟨h, g⟩
    · omega
    · left; rw [h]
  | branch k l r =>
    simp only [gd_cb, beq_iff_eq] at h
    omega
theorem gm_ok_rest {P : gm_P} {cnt : Nat} {G : Nat → List (Lean.RArray Nat)} (hP : gm_SF P cnt G) {d : Nat} {f : Nat → Nat → Nat → gm_S → Option gm_O} (hf : gm_HF P cnt G d f) {h i w v : Nat} {s : gm_S} {p2 p1 r z o y a : Nat} (hi : i < cnt) (hk : 4 ≤ gm_kd P i) (H : gm_IN P cnt G s) (hw : gm_WT s w (G i)) (hv : gm_VT s v (gm_tg P i 0)) (hh : h ≤ 2 * o + r) (hd : 41 ≤ d + gm_T s) (J : gm_K 2 s p2 p1 r (z + 2) (o + 1) y (a + 1))
    (JN : gm_ty P (gm_op P i 0) = gm_tg P i 0 ∨ gd_hd (gm_ty P (gm_op P i 0)) = 2 ∧ gd_G (gm_tg P i 0) = gm_tg P i 0 → gm_K 2 s p2 p1 r (z + 2) (o + 1) y (a + 2)) :
    gm_ok (gm_rest P f h i w v s) (fun v' s' => gm_IN P cnt G s' ∧ gm_VT s' v' (gm_ty P i) ∧ gm_le s s' ∧ gm_T s ≤ gm_T s' ∧ gm_K 2 s' p2 p1 r (z + 2) o y (a + 1)) := by
  obtain ⟨sT, s0, s1, s2, s3, s4, k4, k5, k6, k7, k8, k9, k11⟩ := hP i hi
  obtain ⟨kle, kop⟩ := s4 hk
  have room := gm_J_room J
  unfold gm_rest
  by_cases c9 : gm_kd P i = 9 ∨ gm_kd P i = 10
  · rw [if_pos c9]
    obtain ⟨A, B, e1, e2, e3⟩ := k9 c9
    have J2 : gm_K 2 s p2 p1 r (z + 2) (o + 1) y (a + 2) := JN (by
      rw [e1]
      rcases e3 with e3 | ⟨e3, eA, eB⟩
      · left; exact e3
      · right; rw [e3, eA, eB]; exact ⟨rfl, rfl⟩)
    rw [e1] at hv
    have q := gm_J_q J hv.1
    refine gm_ok_mono (gm_ok_take hP _ h v s p2 p1 (z + 2) A B H hv rfl (by omega) (gm_J_take J2 hv.1)) ?_
    rintro u s' ⟨a1, a2, a3, a4, _, a5⟩
    refine ⟨a1, ?_, a3, by omega, gm_J_w a5 (Nat.le_refl _) (Nat.le_refl _) (Nat.le_refl _) (Nat.le_refl _) (Nat.le_succ _) (Nat.le_refl _) (Nat.le_refl _)⟩
    rw [e2]
    rcases c9 with c | c
    · rw [c] at a2 ⊢; exact a2
    · rw [c] at a2 ⊢; exact a2
  rw [if_neg c9]
  by_cases c5 : gm_kd P i = 5
  · rw [if_pos c5]
    obtain ⟨e0, e1, e2⟩ := k5 c5
    rw [e0] at hv
    refine gm_ok_num (gm_num_ok hP H (by decide) hv) ?_
    have main : ∀ k, (k = 1 ∨ k = 2) → gm_ok (gm_opr P f h i k w s) (fun v' s' => gm_IN P cnt G s' ∧ gm_VT s' v' (gm_ty P i) ∧ gm_le s s' ∧ gm_T s ≤ gm_T s' ∧ gm_K 2 s' p2 p1 r (z + 2) o y (a + 1)) := by
      intro k hk12
      refine gm_ok_mono (gm_ok_opr hP hf (kop k (by omega)) H hw J hh hd) ?_
      rintro v' s' ⟨a1, a2, a3, a4, a5, _⟩
      refine ⟨a1, ?_, a3, a4, gm_J_w a5 (Nat.le_refl _) (Nat.le_refl _) (Nat.le_refl _) (Nat.le_refl _) (Nat.le_succ _) (Nat.le_refl _) (Nat.le_refl _)⟩
      rcases hk12 with z | z
      · subst z; rw [← e1]; exact a2
      · subst z; rw [← e2]; exact a2
    split
    · exact main 2 (Or.inr rfl)
    · exact main 1 (Or.inl rfl)
  rw [if_neg c5]
  by_cases c11 : gm_kd P i = 11
  · rw [if_pos c11]
    rw [k11 c11] at hv
    exact ⟨H, hv, gm_le_refl s, Nat.le_refl _, gm_J_w J (Nat.le_refl _) (Nat.le_refl _) (Nat.le_refl _) (Nat.le_refl _) (Nat.le_succ _) (Nat.le_refl _) (Nat.le_refl _)⟩
  rw [if_neg c11]
  have J2 : gm_K 2 s p2 p1 r (z + 2) (o + 1) y (a + 2) := JN (by
    have cb0 := (kop 0 (Or.inl rfl)).2.2.2
    have h4 : gm_kd P i = 4 ∨ gm_kd P i = 6 ∨ gm_kd P i = 7 ∨ gm_kd P i = 8 := by omega
    rcases h4 with c | c | c | c
    · obtain ⟨A, B, e1, _, _, e3⟩ := k4 c
      rw [e1]
      rcases e3 with e3 | ⟨e3, eA, eB⟩
      · left; exact e3
      · right; rw [e3, eA, eB]; exact ⟨rfl, rfl⟩
    · rw [(k6 c).1] at cb0 ⊢
      exact gm_cb_leaf (by decide) cb0
    · rw [(k7 c).1] at cb0 ⊢
      exact gm_cb_leaf (by decide) cb0
    · left; exact (k8 c).1.symm)
  have kop1 := kop 1 (by omega)
  refine gm_ok_bd (gm_ok_opr hP hf kop1 H hw J2 hh hd) ?_
  rintro v' s' ⟨a1, a2, a3, a4, a5, a6⟩
  have hv' := gm_VT_mono a3 hv
  have room' := gm_J_room a5
  by_cases c4 : gm_kd P i = 4
  · rw [if_pos c4]
    obtain ⟨A, B, e1, e2, e3, _⟩ := k4 c4
    rw [e1] at hv'
    rw [e2] at a2
    have q5 := gm_J_q a5 hv'.1
    rw [if_pos (by omega)]
    have J3 := gm_J_call (gm_J_w a5 (Nat.le_refl _) (Nat.le_refl _) (Nat.le_refl _) (Nat.le_refl _) (Nat.le_succ _) (Nat.le_refl _) (Nat.le_refl _) : gm_K 2 s' p2 p1 r (z + 2) o y (a + 2)) hv'.1
    refine gm_ok_mono (gm_ok_call hP hf _ h v v' s' p2 p1 (z + 2) A B a1 hv' a2 rfl (by omega) (by omega) J3) ?_
    rintro u s'' ⟨b1, b2, b3, b4, b5⟩
    refine ⟨b1, e3 ▸ b2, gm_le_trans a3 b3, by omega, gm_J_w b5 (Nat.le_refl _) (Nat.le_refl _) (Nat.le_add_right _ _) (by omega) (Nat.le_refl _) (Nat.le_refl _) (Nat.le_refl _)⟩
  rw [if_neg c4]
  have fin : ∀ (c : gm_Cell) (t : Lean.RArray Nat), gm_ct c = t → gm_ty P i = t → gd_hd t ≠ 2 → gm_CO P cnt G s' c → gm_K 2 (gm_push s' c) p2 p1 r (z + 2) o y (a + 1) → gm_ok (gm_new s' c 0) (fun v' s'' => gm_IN P cnt G s'' ∧ gm_VT s'' v' (gm_ty P i) ∧ gm_le s s'' ∧ gm_T s ≤ gm_T s'' ∧ gm_K 2 s'' p2 p1 r (z + 2) o y (a + 1)) := by
    intro c t ect ety h2 co J4
    refine gm_ok_new (by omega) ?_
    exact ⟨gm_IN_push a1 co, gm_VT_new (ect.trans ety.symm) (by rw [ety]; exact h2), gm_le_trans a3 (gm_le_push _ _), a4, J4⟩
  have J5 : gm_K 2 s' p2 p1 r (z + 2) (o + 1) y (a + 1) := gm_J_w a5 (Nat.le_refl _) (Nat.le_refl _) (Nat.le_refl _) (Nat.le_refl _) (Nat.le_refl _) (Nat.le_refl _) (Nat.le_succ _)
  by_cases c6 : gm_kd P i = 6
  · rw [if_pos c6]
    obtain ⟨e0, e1, e2⟩ := k6 c6
    rw [e0] at hv'
    rw [e1] at a2
    refine gm_ok_num (gm_num_ok hP a1 (by decide) hv') (gm_ok_num (gm_num_ok hP a1 (by decide) a2) ?_)
    exact fin _ (.leaf 0) rfl e2 (by simp [gd_hd]) (Or.inl ⟨rfl, rfl, rfl, rfl, rfl⟩) (gm_J_new J5 ⟨rfl, rfl, rfl⟩ rfl)
  rw [if_neg c6]
  by_cases c7 : gm_kd P i = 7
  · rw [if_pos c7]
    obtain ⟨e0, e1, e2⟩ := k7 c7
    rw [e0] at hv'
    rw [e1] at a2
    refine gm_ok_num (gm_num_ok hP a1 (by decide) hv') (gm_ok_num (gm_num_ok hP a1 (by decide) a2) ?_)
    exact fin _ (.leaf 1) rfl e2 (by simp [gd_hd]) (Or.inr (Or.inl ⟨rfl, rfl, rfl, rfl, rfl⟩)) (gm_J_new J5 ⟨rfl, rfl, rfl⟩ rfl)
  rw [if_neg c7]
  have c8 : gm_kd P i = 8 := by omega
  rw [if_pos c8]
  obtain ⟨e0, e1, e2⟩ := k8 c8
  have J6 := a6 (Or.inl e1.symm)
  rw [e0] at hv'
  rw [e1] at a2
  rw [if_pos ⟨hv'.1, a2.1⟩]
  refine fin _ (gm_ty P i) rfl rfl (by rw [e2]; simp [gd_hd]) (Or.inr (Or.inr (Or.inr (Or.inl ⟨rfl, ⟨rfl, rfl, rfl⟩, _, _, e2, gd_TY_l (e2 ▸ sT), gd_TY_r (e2 ▸ sT), hv', a2, ?_, ?_⟩)))) (gm_J_pair J6 ⟨rfl, rfl, rfl⟩ hv'.1 a2.1 rfl)
  · have := gd_mx_l (gm_rk (gm_h s' (v / 8))) (gm_rk (gm_h s' (v' / 8)))
    show gm_rk (gm_h s' (v / 8)) < 1 + gd_mx (gm_rk (gm_h s' (v / 8))) (gm_rk (gm_h s' (v' / 8)))
    omega
  · have := gd_mx_r (gm_rk (gm_h s' (v / 8))) (gm_rk (gm_h s' (v' / 8)))
    show gm_rk (gm_h s' (v' / 8)) < 1 + gd_mx (gm_rk (gm_h s' (v / 8))) (gm_rk (gm_h s' (v' / 8)))
    omega
theorem gm_var_ok {s : gm_S} : ∀ (l : List (Lean.RArray Nat)) (n w : Nat) (t : Lean.RArray Nat), gm_WT s w l → l[n]? = some t → ∃ v, gm_var s n w = some v ∧ gm_VT s v t := by
  intro l
  induction l with
  | nil => intro n w t _ e; simp at e
  | cons x l ih =>
    intro n w t hw e
    simp only [gm_WT] at hw
    cases n with
    | zero =>
      simp at e
      subst e
      exact ⟨(gm_e s w).1, by simp only [gm_var]; rw [if_pos ⟨hw.1, hw.2.1⟩], hw.2.2.1⟩
    | succ n =>
      simp at e
      obtain ⟨v, h1, h2⟩ := ih n _ t hw.2.2.2 e
      exact ⟨v, by simp only [gm_var]; rw [if_pos ⟨hw.1, hw.2.1⟩]; exact h1, h2⟩
theorem gm_ok_ev {P : gm_P} {cnt : Nat} {G : Nat → List (Lean.RArray Nat)} (hP : gm_SF P cnt G) (hcn : gm_cn P = cnt) : ∀ d, gm_HF P cnt G d (gm_ev P d) := by
  intro d
  induction d with
  | zero =>
    intro h i w s p2 p1 r z o y a hi H hw J hh hd
    have room := gm_J_room J
    omega
  | succ d ih =>
    intro h i w s p2 p1 r z o y a hi H hw J hh hd
    have room := gm_J_room J
    simp only [gm_ev]
    rw [if_pos (by rw [hcn]; exact hi)]
    refine gm_ok_tick ⟨by omega, by omega, by omega, by omega⟩ ?_
    by_cases hT : 40 ≤ gm_T (gm_tk s)
    · rw [if_pos hT]
      exact trivial
    rw [if_neg hT]
    have hT' : gm_T s < 40 := Nat.lt_of_not_le hT
    have J1 : gm_K 2 (gm_st (gm_tk s)) p2 p1 r (z + 2) (o + 1) y (a + 1) := gm_J_tk (gm_J_st J hT')
    have H1 : gm_IN P cnt G (gm_st (gm_tk s)) := gm_IN_st (gm_IN_tk H)
    have hw1 : gm_WT (gm_st (gm_tk s)) w (G i) := gm_WT_mono (gm_le_st _) _ _ (gm_WT_mono (gm_le_tk _) _ _ hw)
    have lT : gm_T s ≤ gm_T (gm_st (gm_tk s)) := Nat.le_succ _
    have eT : gm_T (gm_st (gm_tk s)) = gm_T s + 1 := rfl
    have le1 : gm_le s (gm_st (gm_tk s)) := gm_le_refl s
    have room1 := gm_J_room J1
    obtain ⟨sT, s0, s1, s2, s3, s4, _⟩ := hP i hi
    have fin : ∀ (c : gm_Cell), gm_ct c = gm_ty P i → gd_hd (gm_ty P i) ≠ 2 → gm_CO P cnt G (gm_st (gm_tk s)) c → gm_Q0 c → gm_rk c = 0 → gm_ok (gm_new (gm_st (gm_tk s)) c 0) (fun v' s'' => gm_IN P cnt G s'' ∧ gm_VT s'' v' (gm_ty P i) ∧ gm_le s s'' ∧ gm_T s ≤ gm_T s'' ∧ gm_K 2 s'' p2 p1 r (z + 2) o y (a + 1)) := by
      intro c ect h2 co q k
      refine gm_ok_new (by omega) ?_
      exact ⟨gm_IN_push H1 co, gm_VT_new ect h2, gm_le_trans le1 (gm_le_push _ _), lT, gm_J_new J1 q k⟩
    by_cases c0 : gm_kd P i = 0
    · rw [if_pos c0]
      exact fin _ (s0 c0).symm (by rw [s0 c0]; simp [gd_hd]) (Or.inl ⟨rfl, rfl, rfl, rfl, rfl⟩) ⟨rfl, rfl, rfl⟩ rfl
    rw [if_neg c0]
    by_cases c1 : gm_kd P i = 1
    · rw [if_pos c1]
      exact fin _ (s1 c1).symm (by rw [s1 c1]; simp [gd_hd]) (Or.inr (Or.inl ⟨rfl, rfl, rfl, rfl, rfl⟩)) ⟨rfl, rfl, rfl⟩ rfl
    rw [if_neg c1]
    by_cases c2 : gm_kd P i = 2
    · rw [if_pos c2]
      obtain ⟨v, e1, e2⟩ := gm_var_ok _ _ w _ hw1 (s2 c2)
      rw [e1]
      exact ⟨H1, e2, le1, lT, gm_J_w J1 (Nat.le_refl _) (Nat.le_refl _) (Nat.le_refl _) (Nat.le_refl _) (Nat.le_succ _) (Nat.le_refl _) (Nat.le_refl _)⟩
    rw [if_neg c2]
    by_cases c3 : gm_kd P i = 3
    · rw [if_pos c3]
      obtain ⟨_, t, e1, _⟩ := s3 c3
      exact fin _ rfl (by rw [e1]; simp [gd_hd]) (Or.inr (Or.inr (Or.inl ⟨rfl, hi, c3, rfl, hw1, rfl, rfl, rfl⟩))) ⟨rfl, rfl, rfl⟩ rfl
    rw [if_neg c3]
    have k4 : 4 ≤ gm_kd P i := by omega
    have kop := (s4 k4).2 0 (Or.inl rfl)
    refine gm_ok_bd (gm_ok_opr hP ih kop H1 hw1 J1 hh (by omega)) ?_
    rintro v s' ⟨a1, a2, a3, a4, a5, a6⟩
    refine gm_ok_mono (gm_ok_rest hP ih hi k4 a1 (gm_WT_mono a3 _ _ hw1) a2 hh (by omega) a5 a6) ?_
    rintro v' s'' ⟨b1, b2, b3, b4, b5⟩
    exact ⟨b1, b2, gm_le_trans le1 (gm_le_trans a3 b3), by omega, b5⟩
/-! the run and the takes of look -/
def gm_s0 : gm_S := (0, (fun _ => (0, 0, 0, 0, .leaf 0, .leaf 0, 0, 0, 0, 0, 0)), 1, (fun _ => (0, 0)), 0, 0)
def gm_run (P : gm_P) : Option gm_O := gm_ev P 41 0 0 0 gm_s0
/-- what is known of a run's value -/
def gm_L (P : gm_P) (cnt : Nat) (G : Nat → List (Lean.RArray Nat)) (s : gm_S) (v : Nat) : Prop :=
  gm_IN P cnt G s ∧ (∃ t, gd_TY t ∧ gm_VT s v t) ∧ gm_K 0 s 0 0 0 0 0 0 (gm_rk (gm_h s (v / 8)))
theorem gm_run_ok {P : gm_P} {cnt : Nat} {G : Nat → List (Lean.RArray Nat)} (hP : gm_SF P cnt G) (hcn : gm_cn P = cnt) (hc : 0 < cnt) (hG : G 0 = []) : gm_ok (gm_run P) (fun v s => gm_L P cnt G s v ∧ gm_u s < 1000000 ∧ gm_n s < 5000 ∧ gm_m s < 64) := by
  have J : gm_K 2 gm_s0 0 0 0 0 0 0 0 := by
    refine ⟨0, 0, 0, 0, 0, 0, 0, by decide, by decide, rfl, by decide, by decide, by decide, by decide, by decide, by decide, by decide, ?_⟩
    intro c hc'
    exact absurd hc' (Nat.not_lt_zero _)
  refine gm_ok_mono (gm_ok_ev hP hcn 41 0 0 0 gm_s0 0 0 0 0 0 0 0 hc (fun c hc' => absurd hc' (Nat.not_lt_zero _)) (by rw [hG]; exact trivial) J (by decide) (by decide)) ?_
  rintro v s ⟨a1, a2, a3, a4, a5⟩
  have room := gm_J_room a5
  refine ⟨⟨a1, ⟨_, (hP 0 hc).1, a2⟩, ?_⟩, by omega, by omega, by omega⟩
  obtain ⟨S, M, B, C1, C2, C3, N, j1, j2, j3, j4, j5, j6, j7, j8, j9, j10, j11⟩ := a5
  have k := (j11 _ a2.1).2.2.2
  exact ⟨S, M, B, C1, C2, C3, N, by omega, j2, j3, by omega, j5, by omega, by omega, by omega, by omega, by omega, j11⟩
theorem gm_rk_pos {P : gm_P} {cnt : Nat} {G : Nat → List (Lean.RArray Nat)} (hP : gm_SF P cnt G) {s : gm_S} (H : gm_IN P cnt G s) : ∀ n c, c < gm_n s → gm_q1 (gm_h s c) = n → gd_hd (gm_ct (gm_h s c)) = 4 → 0 < gm_rk (gm_h s c) := by
  intro n
  induction n with
  | zero =>
    intro c hc hq h4
    rcases H c hc with x | x | x | x | x
    · rw [x.2.1] at h4; exact absurd h4 (by simp [gd_hd])
    · rw [x.2.1] at h4; exact absurd h4 (by simp [gd_hd])
    · obtain ⟨_, i, l, e, _⟩ := x
      obtain ⟨_, t, e2, _⟩ := (hP _ i).2.2.2.2.1 l
      rw [e, e2] at h4
      exact absurd h4 (by simp [gd_hd])
    · obtain ⟨_, _, _, _, _, _, _, _, _, r, _⟩ := x
      omega
    · obtain ⟨_, _, _, _, _, _, _, _, _, _, _, _, _, q, _⟩ := x
      omega
  | succ n ih =>
    intro c hc hq h4
    rcases H c hc with x | x | x | x | x
    · have := x.2.2.1; omega
    · have := x.2.2.1; omega
    · have := x.2.2.2.2.2.1; omega
    · have := x.2.1.1; omega
    · obtain ⟨k, a0, b0, a', b', hk, ef, et, tf, tt, ca, cb, va, q1, q2, q3, rk⟩ := x
      rw [et] at h4
      simp only [gd_hd] at h4
      subst h4
      rw [rk]
      refine ih _ va.1 (by omega) ?_
      rw [(va.2.2 (by rw [ef]; simp [gd_hd])).2, ef]
      rfl
/-- a look's turns are counted from 0 -/
def gm_u0 (s : gm_S) : gm_S := (s.1, s.2.1, s.2.2.1, s.2.2.2.1, s.2.2.2.2.1, 0)
theorem gm_take_c {side : Nat} : ∀ (n h v v' : Nat) (s : gm_S), v / 8 = v' / 8 → gm_take side n h v s = gm_take side n h v' s := by
  intro n h v v' s e
  cases n with
  | zero => simp only [gm_take]; rw [e]
  | succ n => simp only [gm_take]; rw [e]
theorem gm_shape4 {P : gm_P} {cnt : Nat} {G : Nat → List (Lean.RArray Nat)} (hP : gm_SF P cnt G) {s : gm_S} {c : gm_Cell} (H : gm_CO P cnt G s c) (h : gm_sh (gm_ck c) = 4) : ∃ A B, gm_ct c = .branch 4 A B := by
  obtain ⟨a, b, d⟩ := gm_CO_sh hP H
  have lt := gd_hd_lt d
  have h4 : gd_hd (gm_ct c) = 4 := by
    rw [h] at a
    unfold gm_tag at a
    split at a <;> omega
  obtain ⟨l, r, e, _⟩ := gm_br_of (by omega) d
  rw [h4] at e
  exact ⟨l, r, e⟩
theorem gm_look_take {P : gm_P} {cnt : Nat} {G : Nat → List (Lean.RArray Nat)} (hP : gm_SF P cnt G) {s : gm_S} {v side : Nat} (L : gm_L P cnt G s v) (h : gm_sh (gm_ck (gm_h s (v / 8))) = 4) :
    gm_ok (gm_take side (gm_q1 (gm_h s (v / 8))) 0 v (gm_u0 s)) (fun u s' => gm_L P cnt G s' u ∧ gm_le s s' ∧ gm_u s' < 1000000 ∧ gm_n s' < 5000 ∧ gm_m s' < 64) := by
  obtain ⟨H, ⟨t, ht, hv⟩, K⟩ := L
  obtain ⟨A, B, e⟩ := gm_shape4 hP (H _ hv.1) h
  have TAB : gd_vt (gm_ct (gm_h s (v / 8))) := (gm_CO_sh hP (H _ hv.1)).2.2
  have rp := gm_rk_pos hP H _ _ hv.1 rfl (by rw [e]; rfl)
  have H0 : gm_IN P cnt G (gm_u0 s) := gm_IN_le H (gm_le_refl s) rfl
  have e8 : 8 * (v / 8) / 8 = v / 8 := by omega
  have hv0 : gm_VT (gm_u0 s) (8 * (v / 8)) (.branch 4 A B) := by
    unfold gm_VT
    rw [e8]
    exact ⟨hv.1, fun z => absurd z (by simp [gd_hd]), fun _ => ⟨by omega, e⟩⟩
  have K1 : gm_K 0 (gm_u0 s) 0 0 0 0 0 0 ((gm_rk (gm_h s (v / 8)) - 1) + 1) := by
    rw [show gm_rk (gm_h s (v / 8)) - 1 + 1 = gm_rk (gm_h s (v / 8)) by omega]
    obtain ⟨S, M, B, C1, C2, C3, N, j1, j2, j3, j4, j5, j6, j7, j8, j9, j10, j11⟩ := K
    refine ⟨S, M, B, C1, C2, C3, N, j1, j2, j3, j4, j5, j6, j7, j8, ?_, j10, j11⟩
    show 0 + 0 ≤ 3 * gm_T s + 9937 * M
    omega
  have K2 := gm_J_take K1 (show v / 8 < gm_n (gm_u0 s) from hv.1)
  have q := gm_J_q K (show v / 8 < gm_n s from hv.1)
  rw [gm_take_c _ 0 v (8 * (v / 8)) _ e8.symm]
  have tAB : gd_TY (if side = 0 then A else B) := by
    have c := H _ hv.1
    rcases c with x | x | x | x | x
    · rw [x.2.1] at e; exact absurd e (by simp)
    · rw [x.2.1] at e; exact absurd e (by simp)
    · obtain ⟨_, i, l, e1, _⟩ := x
      obtain ⟨_, t, e2, _⟩ := (hP _ i).2.2.2.2.1 l
      rw [e1, e2] at e
      injection e with e _ _
      exact absurd e (by decide)
    · obtain ⟨_, _, A', B', e1, ta, tb, _⟩ := x
      rw [e] at e1
      injection e1 with _ e1 e2
      subst e1 e2
      split
      · exact ta
      · exact tb
    · obtain ⟨_, _, _, _, _, _, _, _, _, tt, _⟩ := x
      rw [e] at tt
      split
      · exact gd_TY_l tt
      · exact gd_TY_r tt
  refine gm_ok_mono (gm_ok_take hP _ 0 (8 * (v / 8)) (gm_u0 s) 0 0 0 A B H0 hv0 (by rw [e8]; rfl) (by omega) (by rw [e8]; exact K2)) ?_
  rintro u s' ⟨a1, a2, a3, a4, a5, a6⟩
  have room := gm_J_room a6
  refine ⟨⟨a1, ⟨_, tAB, a2⟩, ?_⟩, a3, by omega, by omega, by omega⟩
  rw [e8] at a5
  have a5' : gm_rk (gm_h s' (u / 8)) < gm_rk (gm_h s (v / 8)) := a5
  exact gm_J_w a6 (Nat.le_refl _) (Nat.le_refl _) (Nat.le_refl _) (Nat.le_refl _) (Nat.le_refl _) (Nat.le_refl _) (by omega)
