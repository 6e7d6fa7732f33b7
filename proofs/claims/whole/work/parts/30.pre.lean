/-! ===== 30: the type of a token, and then its casts ===== -/
def gs_sel (j : Nat) (t0 t1 t2 : Lean.RArray Nat) : Lean.RArray Nat := if j = 0 then t0 else if j = 1 then t1 else t2
def gs_pre (nm : Nat → Lean.RArray Nat) (k v : Nat) (l : List Nat) (t0 t1 : Lean.RArray Nat) : Nat × Lean.RArray Nat :=
  if k = 0 ∨ k = 6 then (0, .leaf 0) else if k = 1 ∨ k = 7 then (0, .leaf 1) else if k = 2 then gs_var nm l[v]? else if k = 3 then gs_cmp 3 (nm v) t0
  else if k = 5 then (0, t1) else if k = 8 then gs_cmp 4 t0 t1 else if k = 11 then (0, nm v)
  else if gd_hd t0 = 2 then (0, .leaf 2) else if gd_hd t0 = (if k = 4 then 3 else 4) then (0, if k = 9 then gd_lf t0 else gd_rt t0) else (2, .leaf 0)
def gs_all (k : Nat) (ti t0 t1 t2 : Lean.RArray Nat) : Prop := ∀ j, j < gs_ar k → gd_cb (gs_sel j t0 t1 t2) (gs_tg k j ti t0 (gs_sel j t0 t1 t2)) = true
theorem gs_k12 {k : Nat} (h : k < 12) : k = 0 ∨ k = 1 ∨ k = 2 ∨ k = 3 ∨ k = 4 ∨ k = 5 ∨ k = 6 ∨ k = 7 ∨ k = 8 ∨ k = 9 ∨ k = 10 ∨ k = 11 := by omega
theorem gs_cbG {t : Lean.RArray Nat} (ht : gd_vt t) (g : Lean.RArray Nat) : gd_cb t (if gd_hd t = 2 then g else t) = true := by
  by_cases c : gd_hd t = 2
  · rw [if_pos c, gm_leaf_of ht (by omega), c]; exact gd_cb_any _
  · rw [if_neg c]; exact gd_cb_refl _
/-- the type has a fault -/
theorem gs_pre_bad {nm : Nat → Lean.RArray Nat} {k v : Nat} {l : List Nat} {t0 t1 t2 : Lean.RArray Nat} (hk : k < 12) (h : (gs_pre nm k v l t0 t1).1 ≠ 0) : (gs_typ nm k v l t0 t1 t2).1 = (gs_pre nm k v l t0 t1).1 := by
  rcases gs_k12 hk with e | e | e | e | e | e | e | e | e | e | e | e <;> subst e
  · exact absurd rfl h
  · exact absurd rfl h
  · rfl
  · rfl
  · rw [gs_typ4]
    show _ = (if gd_hd t0 = 2 then ((0 : Nat), Lean.RArray.leaf 2) else if gd_hd t0 = 3 then (0, gd_rt t0) else (2, .leaf 0)).1
    change (if gd_hd t0 = 2 then ((0 : Nat), Lean.RArray.leaf 2) else if gd_hd t0 = 3 then (0, gd_rt t0) else (2, .leaf 0)).1 ≠ 0 at h
    by_cases a : gd_hd t0 = 2
    · rw [if_pos a] at h; exact absurd rfl h
    · rw [if_neg a] at h
      rw [if_neg a, if_neg a]
      by_cases b : gd_hd t0 = 3
      · rw [if_pos b] at h; exact absurd rfl h
      · rw [if_neg b, if_neg b]
  · exact absurd rfl h
  · exact absurd rfl h
  · exact absurd rfl h
  · rfl
  · rfl
  · rfl
  · exact absurd rfl h
theorem gs_pre_ty {nm : Nat → Lean.RArray Nat} {k v : Nat} {l : List Nat} {t0 t1 t2 : Lean.RArray Nat} (hk : k < 12) (h : (gs_pre nm k v l t0 t1).1 = 0) : (gs_typ nm k v l t0 t1 t2).2 = (gs_pre nm k v l t0 t1).2 := by
  rcases gs_k12 hk with e | e | e | e | e | e | e | e | e | e | e | e <;> subst e
  · rfl
  · rfl
  · rfl
  · rfl
  · rw [gs_typ4]
    show _ = (if gd_hd t0 = 2 then ((0 : Nat), Lean.RArray.leaf 2) else if gd_hd t0 = 3 then (0, gd_rt t0) else (2, .leaf 0)).2
    by_cases a : gd_hd t0 = 2
    · rw [if_pos a, if_pos a]
    · rw [if_neg a, if_neg a]
      by_cases b : gd_hd t0 = 3
      · rw [if_pos b, if_pos b]
      · rw [if_neg b, if_neg b]
  · rfl
  · rfl
  · rfl
  · rfl
  · rfl
  · rfl
  · rfl
theorem gs_ite2 {p : Prop} [Decidable p] : ((if p then (0 : Nat) else 2) = 0 ↔ p) ∧ ((if p then (0 : Nat) else 2) ≠ 0 → (if p then (0 : Nat) else 2) = 2) := by
  by_cases c : p
  · rw [if_pos c]; exact ⟨⟨fun _ => c, fun _ => rfl⟩, fun z => absurd rfl z⟩
  · rw [if_neg c]; exact ⟨⟨fun z => absurd z (by decide), fun z => absurd z c⟩, fun _ => rfl⟩
/-- the type has none: then it is the casts that tell -/
theorem gs_pre_ok {nm : Nat → Lean.RArray Nat} {k v : Nat} {l : List Nat} {t0 t1 t2 : Lean.RArray Nat} (hk : k < 12) (h0 : gd_vt t0) (h : (gs_pre nm k v l t0 t1).1 = 0) : ((gs_typ nm k v l t0 t1 t2).1 = 0 ↔ gs_all k (gs_pre nm k v l t0 t1).2 t0 t1 t2) ∧ ((gs_typ nm k v l t0 t1 t2).1 ≠ 0 → (gs_typ nm k v l t0 t1 t2).1 = 2) := by
  have one : ∀ {q : Nat → Prop}, (∀ j, j < 1 → q j) ↔ q 0 := fun {q} => ⟨fun z => z 0 (by decide), fun z j hj => by rw [show j = 0 by omega]; exact z⟩
  have two : ∀ {q : Nat → Prop}, (∀ j, j < 2 → q j) ↔ q 0 ∧ q 1 := fun {q} => ⟨fun z => ⟨z 0 (by decide), z 1 (by decide)⟩, fun z j hj => by
    by_cases c : j = 0
    · rw [c]; exact z.1
    · rw [show j = 1 by omega]; exact z.2⟩
  have three : ∀ {q : Nat → Prop}, (∀ j, j < 3 → q j) ↔ q 0 ∧ q 1 ∧ q 2 := fun {q} => ⟨fun z => ⟨z 0 (by decide), z 1 (by decide), z 2 (by decide)⟩, fun z j hj => by
    by_cases c : j = 0
    · rw [c]; exact z.1
    · by_cases d : j = 1
      · rw [d]; exact z.2.1
      · rw [show j = 2 by omega]; exact z.2.2⟩
  rcases gs_k12 hk with e | e | e | e | e | e | e | e | e | e | e | e <;> subst e
  · exact ⟨⟨fun _ j hj => absurd hj (Nat.not_lt_zero _), fun _ => rfl⟩, fun z => absurd rfl z⟩
  · exact ⟨⟨fun _ j hj => absurd hj (Nat.not_lt_zero _), fun _ => rfl⟩, fun z => absurd rfl z⟩
  · exact ⟨⟨fun _ j hj => absurd hj (Nat.not_lt_zero _), fun _ => h⟩, fun z => absurd h z⟩
  · exact ⟨⟨fun _ => one.mpr (gd_cb_refl _), fun _ => h⟩, fun z => absurd h z⟩
  · have e1 : gs_all 4 (gs_pre nm 4 v l t0 t1).2 t0 t1 t2 ↔ gd_cb t0 (if gd_hd t0 = 2 then .branch 3 (.leaf 2) (.leaf 2) else t0) = true ∧ gd_cb t1 (if gd_hd t0 = 2 then .leaf 2 else gd_lf t0) = true := two
    rw [e1, gs_typ4]
    change (if gd_hd t0 = 2 then ((0 : Nat), Lean.RArray.leaf 2) else if gd_hd t0 = 3 then (0, gd_rt t0) else (2, .leaf 0)).1 = 0 at h
    have c0 := gs_cbG h0 (.branch 3 (.leaf 2) (.leaf 2))
    by_cases a : gd_hd t0 = 2
    · rw [if_pos a] at c0 ⊢
      rw [if_pos a, if_pos a]
      exact ⟨⟨fun _ => ⟨c0, gd_cb_any' _⟩, fun _ => rfl⟩, fun z => absurd rfl z⟩
    · rw [if_neg a] at h c0 ⊢
      rw [if_neg a, if_neg a]
      by_cases b : gd_hd t0 = 3
      · rw [if_pos b]
        have g := gs_ite2 (p := gd_cb t1 (gd_lf t0) = true)
        exact ⟨⟨fun z => ⟨c0, g.1.mp z⟩, fun z => g.1.mpr z.2⟩, g.2⟩
      · rw [if_neg b] at h
        exact absurd h (by decide)
  · have e1 : gs_all 5 (gs_pre nm 5 v l t0 t1).2 t0 t1 t2 ↔ gd_cb t0 (.leaf 1) = true ∧ gd_cb t1 t1 = true ∧ gd_cb t2 t1 = true := three
    rw [e1]
    have g := gs_ite2 (p := gd_cb t0 (.leaf 1) = true ∧ gd_cb t2 t1 = true)
    exact ⟨⟨fun z => ⟨(g.1.mp z).1, gd_cb_refl _, (g.1.mp z).2⟩, fun z => g.1.mpr ⟨z.1, z.2.2⟩⟩, g.2⟩
  · have e1 : gs_all 6 (gs_pre nm 6 v l t0 t1).2 t0 t1 t2 ↔ gd_cb t0 (.leaf 0) = true ∧ gd_cb t1 (.leaf 0) = true := two
    rw [e1]
    exact gs_ite2 (p := gd_cb t0 (.leaf 0) = true ∧ gd_cb t1 (.leaf 0) = true)
  · have e1 : gs_all 7 (gs_pre nm 7 v l t0 t1).2 t0 t1 t2 ↔ gd_cb t0 (.leaf 0) = true ∧ gd_cb t1 (.leaf 0) = true := two
    rw [e1]
    exact gs_ite2 (p := gd_cb t0 (.leaf 0) = true ∧ gd_cb t1 (.leaf 0) = true)
  · exact ⟨⟨fun _ => two.mpr ⟨gd_cb_refl _, gd_cb_refl _⟩, fun _ => h⟩, fun z => absurd h z⟩
  · exact ⟨⟨fun _ => one.mpr (gs_cbG h0 _), fun _ => h⟩, fun z => absurd h z⟩
  · exact ⟨⟨fun _ => one.mpr (gs_cbG h0 _), fun _ => h⟩, fun z => absurd h z⟩
  · have e1 : gs_all 11 (gs_pre nm 11 v l t0 t1).2 t0 t1 t2 ↔ gd_cb t0 (nm v) = true := one
    rw [e1]
    exact gs_ite2 (p := gd_cb t0 (nm v) = true)
theorem gs_pre_TY {nm : Nat → Lean.RArray Nat} (hn : ∀ n, gd_TY (nm n)) {k v : Nat} {l : List Nat} {t0 t1 : Lean.RArray Nat} (hk : k < 12) (h0 : gd_TY t0) (h1 : gd_TY t1) (h : (gs_pre nm k v l t0 t1).1 = 0) : gd_TY (gs_pre nm k v l t0 t1).2 := by
  rw [← gs_pre_ty (t2 := t1) hk h]
  exact gs_typ_TY hn h0 h1
theorem gs_D_le (kd : Nat → Nat) : ∀ i, gs_D kd i ≤ 2 * i + 1 := by
  intro i
  induction i with
  | zero => exact Nat.le_refl _
  | succ i ih =>
    have a : gs_ar (kd i) ≤ 3 := by unfold gs_ar; split <;> (try split) <;> (try split) <;> omega
    show gs_D kd i + gs_ar (kd i) - 1 ≤ _
    omega
theorem gs_ar3 (k : Nat) : gs_ar k ≤ 3 := by unfold gs_ar; split <;> (try split) <;> (try split) <;> omega
theorem gs_pre_n4 {nm : Nat → Lean.RArray Nat} {k v : Nat} {l : List Nat} {t0 t1 : Lean.RArray Nat} (hk : k < 12) (h : (gs_pre nm k v l t0 t1).1 = 4) : False := by
  have cm : ∀ h a b, (gs_cmp h a b).1 ≠ 4 := by
    intro h a b
    unfold gs_cmp
    by_cases c : 1 + gd_sz a + gd_sz b ≤ 7
    · rw [if_pos c]; exact (by decide : (0 : Nat) ≠ 4)
    · rw [if_neg c]; exact (by decide : (3 : Nat) ≠ 4)
  have p2 : ∀ y x, (if gd_hd t0 = 2 then ((0 : Nat), Lean.RArray.leaf 2) else if gd_hd t0 = y then (0, x) else (2, Lean.RArray.leaf 0)).1 ≠ 4 := by
    intro y x
    by_cases c : gd_hd t0 = 2
    · rw [if_pos c]; exact (by decide : (0 : Nat) ≠ 4)
    · rw [if_neg c]
      by_cases d : gd_hd t0 = y
      · rw [if_pos d]; exact (by decide : (0 : Nat) ≠ 4)
      · rw [if_neg d]; exact (by decide : (2 : Nat) ≠ 4)
  rcases gs_k12 hk with e | e | e | e | e | e | e | e | e | e | e | e <;> subst e
  · exact absurd (show (0 : Nat) = 4 from h) (by decide)
  · exact absurd (show (0 : Nat) = 4 from h) (by decide)
  · change (gs_var nm l[v]?).1 = 4 at h
    cases ho : l[v]? with
    | none => rw [ho] at h; exact absurd (show (2 : Nat) = 4 from h) (by decide)
    | some n => rw [ho] at h; exact absurd (show (0 : Nat) = 4 from h) (by decide)
  · exact cm _ _ _ h
  · exact p2 3 _ h
  · exact absurd (show (0 : Nat) = 4 from h) (by decide)
  · exact absurd (show (0 : Nat) = 4 from h) (by decide)
  · exact absurd (show (0 : Nat) = 4 from h) (by decide)
  · exact cm _ _ _ h
  · exact p2 4 _ h
  · exact p2 4 _ h
  · exact absurd (show (0 : Nat) = 4 from h) (by decide)
