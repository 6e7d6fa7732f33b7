/-! ===== 32: X's check: the type of a token ===== -/
abbrev gs_R (kd : Nat → Nat) (vl : Nat → Int32) (nm : Nat → Lean.RArray Nat) (cnt : Nat) : Nat → Nat × Lean.RArray Nat := gs_rho kd (fun j => (vl j).toNatClampNeg) nm cnt
def gs_t (kd : Nat → Nat) (vl : Nat → Int32) (nm : Nat → Lean.RArray Nat) (cnt i k : Nat) : Lean.RArray Nat := gs_tk (gs_en kd cnt) (gs_R kd vl nm cnt) i (gs_ar (kd i)) k
def gs_pr (kd : Nat → Nat) (vl : Nat → Int32) (nm : Nat → Lean.RArray Nat) (cnt i : Nat) : Nat × Lean.RArray Nat := gs_pre nm (kd i) (vl i).toNatClampNeg (gs_col kd (fun j => (vl j).toNatClampNeg) (gs_en kd cnt) i i) (gs_t kd vl nm cnt i 0) (gs_t kd vl nm cnt i 1)
theorem gs_t_k {kd : Nat → Nat} {vl : Nat → Int32} {nm : Nat → Lean.RArray Nat} {cnt i k : Nat} (h : k < gs_ar (kd i)) : gs_t kd vl nm cnt i k = (gs_R kd vl nm cnt (gs_op (gs_en kd cnt) i k)).2 := by
  unfold gs_t gs_tk
  rw [if_pos h]
theorem gs_t_TY {kd : Nat → Nat} {vl : Nat → Int32} {nm : Nat → Lean.RArray Nat} {cnt i : Nat} (W : gs_WF kd cnt) (hn : ∀ n, gd_TY (nm n)) (hi : i < cnt) (k : Nat) : gd_TY (gs_t kd vl nm cnt i k) := by
  by_cases c : k < gs_ar (kd i)
  · rw [gs_t_k c]
    exact gs_rTY W hn (gs_op_lt W hi c).2
  · unfold gs_t gs_tk
    rw [if_neg c]
    exact gs_TY0 0 (by decide)
/-- the operands of i are known -/
def gx_ST (kd : Nat → Nat) (vl : Nat → Int32) (nm : Nat → Lean.RArray Nat) (cnt : Nat) (types operands : Nat → Int32) (i : Nat) : Prop :=
  ∀ k, k < gs_ar (kd i) → operands (3 * i + k) = nI (gs_op (gs_en kd cnt) i k) ∧ types (gs_op (gs_en kd cnt) i k) = nI (gd_en (gs_t kd vl nm cnt i k))
section
variable {x_typeDraft x_typeCount x_count x_wrongAt x_keptPlace x_cellCount x_scopeCount x_frameCount x_mode x_atToken x_scope x_current x_callee x_side x_ending x_faultLabel x_stepsTaken x_runVerdict x_runBlame x_result : Int32} {x_named x_kinds x_values x_ends x_types x_operands x_targets x_cellShape x_cellLabel x_cellOne x_cellTwo x_cellThree x_scopeValue x_scopeOuter x_frameKind x_frameOne x_frameTwo x_frameThree : Nat → Int32}
variable {kd : Nat → Nat} {vl : Nat → Int32} {nm : Nat → Lean.RArray Nat} {cnt : Nat}
theorem gx_opT {post : Int32 → Prop} {i k : Nat} (W : gs_WF kd cnt) (c36 : cnt ≤ 36) (hi : i < cnt) (hk : k < gs_ar (kd i)) (st : gx_ST kd vl nm cnt x_types x_operands i) (P : post (nI (gd_en (gs_t kd vl nm cnt i k)))) : wpX_operandType post (x_typeDraft, x_typeCount, x_count, x_wrongAt, x_keptPlace, x_cellCount, x_scopeCount, x_frameCount, x_mode, x_atToken, x_scope, x_current, x_callee, x_side, x_ending, x_faultLabel, x_stepsTaken, x_runVerdict, x_runBlame, x_result, x_named, x_kinds, x_values, x_ends, x_types, x_operands, x_targets, x_cellShape, x_cellLabel, x_cellOne, x_cellTwo, x_cellThree, x_scopeValue, x_scopeOuter, x_frameKind, x_frameOne, x_frameTwo, x_frameThree, 32768, 32768, 32768, 32768) (nI i) (nI k) := by
  have a3 := gs_ar3 (kd i)
  obtain ⟨s1, s2⟩ := st k hk
  have ol := gs_op_lt W hi hk
  have e3 : (3 : Int32) * nI i + nI k = nI (3 * i + k) := by rw [show (3 : Int32) * nI i = nI (3 * i) from pk_mul 3 i, nI_add]
  show vp_in (3 * nI i + nI k) 108 ∧ _
  rw [e3, nI_clamp (show 3 * i + k < 2 ^ 31 by omega), s1, nI_clamp (show gs_op (gs_en kd cnt) i k < 2 ^ 31 by omega), s2]
  exact And.intro (vp_in_nI (by omega) (by decide)) (And.intro (vp_in_nI (by omega) (by decide)) P)
theorem gx_typeOf {post : Int32 → Prop} {i : Nat} (W : gs_WF kd cnt) (hd : gx_DR kd vl nm cnt x_named x_kinds x_values) (hi : i < cnt) (he : ∀ j, j < cnt → x_ends j = nI (gs_en kd cnt j)) (st : gx_ST kd vl nm cnt x_types x_operands i) (n4 : kd i ≠ 4) (n9 : kd i ≠ 9) (n10 : kd i ≠ 10)
    (P : (gs_pr kd vl nm cnt i).1 = 0 → post (nI (gd_en (gs_pr kd vl nm cnt i).2))) (Q2 : (gs_pr kd vl nm cnt i).1 = 2 → post (-1)) (Q3 : (gs_pr kd vl nm cnt i).1 = 3 → post (-2)) : wpX_typeOf post (x_typeDraft, x_typeCount, x_count, x_wrongAt, x_keptPlace, x_cellCount, x_scopeCount, x_frameCount, x_mode, x_atToken, x_scope, x_current, x_callee, x_side, x_ending, x_faultLabel, x_stepsTaken, x_runVerdict, x_runBlame, x_result, x_named, x_kinds, x_values, x_ends, x_types, x_operands, x_targets, x_cellShape, x_cellLabel, x_cellOne, x_cellTwo, x_cellThree, x_scopeValue, x_scopeOuter, x_frameKind, x_frameOne, x_frameTwo, x_frameThree, 32768, 32768, 32768, 32768) (nI i) := by
  have hd0 := hd
  obtain ⟨c36, hn, hnm, hk⟩ := hd
  obtain ⟨k1, k2, k3, k4⟩ := hk i hi
  have vin : vp_in (nI i) 36 := vp_in_nI (by omega) (by decide)
  have en36 : ∀ j, j < cnt → gs_en kd cnt j ≤ 36 := fun j hj => Nat.le_trans (gs_en_ok W hj).2.1 c36
  show vp_in (nI i) 36 ∧ _
  rw [nI_clamp (show i < 2 ^ 31 by omega), k1]
  refine And.intro vin (nm_e ?_)
  unfold gs_pr at P Q2 Q3
  have t0 := gs_t_TY (vl := vl) (nm := nm) W hn hi 0
  have t1 := gs_t_TY (vl := vl) (nm := nm) W hn hi 1
  have cmp : ∀ (h : Nat) (a b : Lean.RArray Nat) (R : Int32 → Prop), h = 3 ∨ h = 4 → gd_TY a → gd_TY b → (gs_pre nm (kd i) (vl i).toNatClampNeg (gs_col kd (fun j => (vl j).toNatClampNeg) (gs_en kd cnt) i i) (gs_t kd vl nm cnt i 0) (gs_t kd vl nm cnt i 1)) = gs_cmp h a b → (∀ r, post r → R r) → wpX_joined R (nI h) (nI (gd_en a)) (nI (gd_en b)) := by
    intro h a b R hh ta tb e hR
    rw [e] at P Q2 Q3
    refine gx_joined hh ta tb (fun z => hR _ ?_) (fun z => hR _ ?_)
    · unfold gs_cmp at P
      rw [if_pos z] at P
      exact P rfl
    · unfold gs_cmp at Q3
      rw [if_neg z] at Q3
      exact Q3 rfl
  have val : kd i = 3 ∨ kd i = 11 → ∃ n, n < 10 ∧ vl i = nI n ∧ (vl i).toNatClampNeg = n := by
    intro c
    obtain ⟨n, a, b⟩ := k4 (by omega)
    exact ⟨n, a, b, by rw [b]; exact nI_clamp (by omega)⟩
  rcases gs_k12 k2 with c | c | c | c | c | c | c | c | c | c | c | c
  · rw [c] at P ⊢
    exact br_f (by decide) (br_f (by decide) (br_t rfl (P rfl)))
  · rw [c] at P ⊢
    exact br_f (by decide) (br_f (by decide) (br_f (by decide) (br_t rfl (P rfl))))
  · obtain ⟨n, n10', en⟩ := k4 (Or.inl c)
    have ecl : (vl i).toNatClampNeg = n := by rw [en]; exact nI_clamp (by omega)
    rw [c, ecl] at P Q2
    rw [c]
    refine br_f (by decide) (br_f (by decide) (br_f (by decide) (br_f (by decide) (br_t rfl ?_))))
    show vp_in (nI i) 36 ∧ _
    rw [nI_clamp (show i < 2 ^ 31 by omega), k3, en]
    refine And.intro vin (nm_e (nm_e (Exists.intro (i + 1) (gx_var_l hd0 hi he en36 i (Nat.le_refl _) n (by omega) ?_ ?_))))
    · intro n' e' _
      have p := P (by show (gs_var nm _).1 = 0; rw [e']; rfl)
      change post (nI (gd_en (gs_var nm _).2)) at p
      rw [e'] at p
      exact p
    · intro e'
      exact Q2 (by show (gs_var nm _).1 = 2; rw [e']; rfl)
  · obtain ⟨n, n10', en, ecl⟩ := val (Or.inl c)
    have g := fun R => cmp 3 (nm n) (gs_t kd vl nm cnt i 0) R (Or.inl rfl) (hn n) t0 (by rw [c, ecl]; rfl)
    rw [c]
    refine br_f (by decide) (br_f (by decide) (br_f (by decide) (br_f (by decide) (br_f (by decide) (br_t rfl (gx_opT W c36 hi (by rw [c]; decide) st ?_))))))
    rw [k3, en, nI_clamp (show n < 2 ^ 31 by omega), hnm n n10']
    exact And.intro vin (And.intro (vp_in_nI n10' (by decide)) (g _ (fun r z => z)))
  · exact absurd c n4
  · rw [c] at P ⊢
    exact br_f (by decide) (br_f (by decide) (br_f (by decide) (br_f (by decide) (br_f (by decide) (br_f (by decide) (br_f (by decide) (br_t rfl (gx_opT W c36 hi (by rw [c]; decide) st (P rfl)))))))))
  · rw [c] at P ⊢
    exact br_f (by decide) (br_f (by decide) (br_f (by decide) (br_f (by decide) (br_f (by decide) (br_f (by decide) (br_f (by decide) (br_f (by decide) (br_t rfl (P rfl)))))))))
  · rw [c] at P ⊢
    exact br_f (by decide) (br_f (by decide) (br_f (by decide) (br_f (by decide) (br_f (by decide) (br_f (by decide) (br_f (by decide) (br_f (by decide) (br_f (by decide) (br_t rfl (P rfl))))))))))
  · have g := fun R => cmp 4 (gs_t kd vl nm cnt i 0) (gs_t kd vl nm cnt i 1) R (Or.inr rfl) t0 t1 (by rw [c]; rfl)
    rw [c]
    exact br_f (by decide) (br_f (by decide) (br_f (by decide) (br_f (by decide) (br_f (by decide) (br_f (by decide) (br_f (by decide) (br_f (by decide) (br_f (by decide) (br_f (by decide) (br_t rfl (gx_opT W c36 hi (by rw [c]; decide) st (gx_opT W c36 hi (by rw [c]; decide) st (g _ (fun r z => z))))))))))))))
  · exact absurd c n9
  · exact absurd c n10
  · obtain ⟨n, n10', en, ecl⟩ := val (Or.inr c)
    rw [c, ecl] at P
    rw [c]
    refine br_f (by decide) (br_t (by decide) ?_)
    show vp_in (nI i) 36 ∧ _
    rw [nI_clamp (show i < 2 ^ 31 by omega), k3, en, nI_clamp (show n < 2 ^ 31 by omega), hnm n n10']
    exact And.intro vin (And.intro (vp_in_nI n10' (by decide)) (P rfl))
theorem gx_partType {post : Int32 → Prop} {i : Nat} (W : gs_WF kd cnt) (hd : gx_DR kd vl nm cnt x_named x_kinds x_values) (hi : i < cnt) (st : gx_ST kd vl nm cnt x_types x_operands i) (hk4 : kd i = 4 ∨ kd i = 9 ∨ kd i = 10)
    (P : (gs_pr kd vl nm cnt i).1 = 0 → post (nI (gd_en (gs_pr kd vl nm cnt i).2))) (Q2 : (gs_pr kd vl nm cnt i).1 = 2 → post (-1)) : wpX_partType post (x_typeDraft, x_typeCount, x_count, x_wrongAt, x_keptPlace, x_cellCount, x_scopeCount, x_frameCount, x_mode, x_atToken, x_scope, x_current, x_callee, x_side, x_ending, x_faultLabel, x_stepsTaken, x_runVerdict, x_runBlame, x_result, x_named, x_kinds, x_values, x_ends, x_types, x_operands, x_targets, x_cellShape, x_cellLabel, x_cellOne, x_cellTwo, x_cellThree, x_scopeValue, x_scopeOuter, x_frameKind, x_frameOne, x_frameTwo, x_frameThree, 32768, 32768, 32768, 32768) (nI i) := by
  obtain ⟨c36, hn, hnm, hk⟩ := hd
  obtain ⟨k1, k2, k3, k4⟩ := hk i hi
  have vin : vp_in (nI i) 36 := vp_in_nI (by omega) (by decide)
  have t0 := gs_t_TY (vl := vl) (nm := nm) W hn hi 0
  have lt0 := gd_hd_lt t0.1
  have ar0 : 0 < gs_ar (kd i) := gs_ar_k (by omega) (Or.inl rfl)
  have epr : gs_pr kd vl nm cnt i = (if gd_hd (gs_t kd vl nm cnt i 0) = 2 then (0, .leaf 2) else if gd_hd (gs_t kd vl nm cnt i 0) = (if kd i = 4 then 3 else 4) then (0, if kd i = 9 then gd_lf (gs_t kd vl nm cnt i 0) else gd_rt (gs_t kd vl nm cnt i 0)) else (2, .leaf 0)) := by
    unfold gs_pr gs_pre
    rcases hk4 with c | c | c <;> rw [c] <;> rfl
  rw [epr] at P Q2
  unfold wpX_partType
  refine gx_opT (k := 0) W c36 hi ar0 st ?_
  by_cases h2 : gd_hd (gs_t kd vl nm cnt i 0) = 2
  · rw [if_pos h2] at P
    exact br_t ((gx_2 t0).mpr h2) (P rfl)
  rw [if_neg h2] at P Q2
  refine br_f (fun z => h2 ((gx_2 t0).mp z)) (gx_typeHead t0 ?_)
  have main : ∀ w, w = (if kd i = 4 then 3 else 4) → wX_partType_33 post (nI i) (nI (gd_en (gs_t kd vl nm cnt i 0))) (nI w) (nI (gd_hd (gs_t kd vl nm cnt i 0))) x_typeDraft x_typeCount x_count x_wrongAt x_keptPlace x_cellCount x_scopeCount x_frameCount x_mode x_atToken x_scope x_current x_callee x_side x_ending x_faultLabel x_stepsTaken x_runVerdict x_runBlame x_result x_named x_kinds x_values x_ends x_types x_operands x_targets x_cellShape x_cellLabel x_cellOne x_cellTwo x_cellThree x_scopeValue x_scopeOuter x_frameKind x_frameOne x_frameTwo x_frameThree 32768 32768 32768 32768 := by
    intro w ew
    rw [← ew] at P Q2
    have w5 : w < 5 := by rw [ew]; split <;> decide
    refine pk_eq (gd_hd (gs_t kd vl nm cnt i 0)) w (fun z => ?_) (fun z => ?_)
    · rw [if_pos z] at P
      have p := P rfl
      have h34 : 3 ≤ gd_hd (gs_t kd vl nm cnt i 0) := by rw [z, ew]; split <;> decide
      obtain ⟨l, r, e, _⟩ := gm_br_of h34 t0.1
      rw [nI_clamp (show i < 2 ^ 31 by omega), k1]
      refine And.intro vin ?_
      have tb : gd_TY (.branch (gd_hd (gs_t kd vl nm cnt i 0)) l r) := e ▸ t0
      refine pk_eq (kd i) 9 (fun c => ?_) (fun c => ?_)
      · rw [if_pos c] at p
        have el : gd_lf (gs_t kd vl nm cnt i 0) = l := by rw [e]; rfl
        rw [el] at p
        rw [e]
        exact gx_leftOf tb p
      · rw [if_neg c] at p
        have er : gd_rt (gs_t kd vl nm cnt i 0) = r := by rw [e]; rfl
        rw [er] at p
        rw [e]
        exact gx_rightOf tb p
    · rw [if_neg z] at Q2
      exact Q2 rfl
  rw [nI_clamp (show i < 2 ^ 31 by omega), k1]
  refine And.intro vin (pk_eq (kd i) 4 (fun c => main 3 (by rw [if_pos c])) (fun c => main 4 (by rw [if_neg c])))
theorem gx_targetOf {post : Int32 → Prop} {i k : Nat} {ti : Lean.RArray Nat} (W : gs_WF kd cnt) (hd : gx_DR kd vl nm cnt x_named x_kinds x_values) (hi : i < cnt) (hk : k < gs_ar (kd i)) (st : gx_ST kd vl nm cnt x_types x_operands i) (hti : x_types i = nI (gd_en ti)) (h4 : kd i = 4 → gd_hd (gs_t kd vl nm cnt i 0) = 2 ∨ gd_hd (gs_t kd vl nm cnt i 0) = 3)
    (P : post (nI (gd_en (gs_tg (kd i) k ti (gs_t kd vl nm cnt i 0) (gs_t kd vl nm cnt i k))))) : wpX_targetOf post (x_typeDraft, x_typeCount, x_count, x_wrongAt, x_keptPlace, x_cellCount, x_scopeCount, x_frameCount, x_mode, x_atToken, x_scope, x_current, x_callee, x_side, x_ending, x_faultLabel, x_stepsTaken, x_runVerdict, x_runBlame, x_result, x_named, x_kinds, x_values, x_ends, x_types, x_operands, x_targets, x_cellShape, x_cellLabel, x_cellOne, x_cellTwo, x_cellThree, x_scopeValue, x_scopeOuter, x_frameKind, x_frameOne, x_frameTwo, x_frameThree, 32768, 32768, 32768, 32768) (nI i) (nI k) := by
  obtain ⟨c36, hn, hnm, hk'⟩ := hd
  obtain ⟨k1, k2, k3, k4⟩ := hk' i hi
  have vin : vp_in (nI i) 36 := vp_in_nI (by omega) (by decide)
  have t0 := gs_t_TY (vl := vl) (nm := nm) W hn hi 0
  have tk := gs_t_TY (vl := vl) (nm := nm) W hn hi k
  have a3 := gs_ar3 (kd i)
  unfold wpX_targetOf
  refine gx_opT W c36 hi hk st ?_
  refine gx_opT (k := 0) W c36 hi (by omega) st ?_
  rw [nI_clamp (show i < 2 ^ 31 by omega), k1, hti]
  refine And.intro vin (nm_e ?_)
  have own : ∀ g : Lean.RArray Nat, post (nI (gd_en (if gd_hd (gs_t kd vl nm cnt i k) = 2 then g else gs_t kd vl nm cnt i k))) → (nI (gd_en (gs_t kd vl nm cnt i k)) = 2 → post (nI (gd_en g))) ∧ (¬ nI (gd_en (gs_t kd vl nm cnt i k)) = 2 → post (nI (gd_en (gs_t kd vl nm cnt i k)))) := by
    intro g p
    by_cases h2 : gd_hd (gs_t kd vl nm cnt i k) = 2
    · rw [if_pos h2] at p
      exact br_t ((gx_2 tk).mpr h2) p
    · rw [if_neg h2] at p
      exact br_f (fun z => h2 ((gx_2 tk).mp z)) p
  rcases gs_k12 k2 with c | c | c | c | c | c | c | c | c | c | c | c
  · rw [c] at hk; exact absurd (show k < 0 from hk) (Nat.not_lt_zero _)
  · rw [c] at hk; exact absurd (show k < 0 from hk) (Nat.not_lt_zero _)
  · rw [c] at hk; exact absurd (show k < 0 from hk) (Nat.not_lt_zero _)
  · rw [c] at P ⊢
    exact br_t (by decide) P
  · rw [c] at P ⊢
    refine br_f (by decide) (br_f (by decide) (br_t rfl (pk_eq k 0 (fun z => ?_) (fun z => ?_))))
    · subst z
      rw [gs_tg40] at P
      exact own _ P
    · have k1' : k = 1 := by rw [c] at hk; have : gs_ar 4 = 2 := rfl; omega
      subst k1'
      rw [gs_tg41] at P
      by_cases h2 : gd_hd (gs_t kd vl nm cnt i 0) = 2
      · rw [if_pos h2] at P
        exact br_t ((gx_2 t0).mpr h2) P
      · rw [if_neg h2] at P
        have h3 := (h4 c).resolve_left h2
        have eb := gs_hd3 t0.1 h3
        refine br_f (fun z => h2 ((gx_2 t0).mp z)) ?_
        rw [eb]
        rw [eb] at P
        exact gx_leftOf (eb ▸ t0) P
  · rw [c] at P ⊢
    refine br_f (by decide) (br_f (by decide) (br_f (by decide) (br_t rfl (pk_eq k 0 (fun z => ?_) (fun z => ?_)))))
    · subst z
      exact P
    · have e : gs_tg 5 k ti (gs_t kd vl nm cnt i 0) (gs_t kd vl nm cnt i k) = ti := by
        show (if k = 0 then _ else ti) = ti
        rw [if_neg z]
      rw [e] at P
      exact And.intro vin P
  · rw [c] at P ⊢
    exact br_f (by decide) (br_f (by decide) (br_f (by decide) (br_f (by decide) (br_t rfl P))))
  · rw [c] at P ⊢
    exact br_f (by decide) (br_f (by decide) (br_f (by decide) (br_f (by decide) (br_f (by decide) (br_t rfl P)))))
  · rw [c] at P ⊢
    exact br_f (by decide) (br_f (by decide) (br_f (by decide) (br_f (by decide) (br_f (by decide) (br_f (by decide) (br_t rfl P))))))
  · rw [c] at P ⊢
    exact br_f (by decide) (br_f (by decide) (br_f (by decide) (br_f (by decide) (br_f (by decide) (br_f (by decide) (br_f (by decide) (br_t rfl (own _ P))))))))
  · rw [c] at P ⊢
    exact br_f (by decide) (br_f (by decide) (br_f (by decide) (br_f (by decide) (br_f (by decide) (br_f (by decide) (br_f (by decide) (br_f (by decide) (br_t rfl (own _ P)))))))))
  · rw [c] at P ⊢
    exact br_f (by decide) (br_f (by decide) (br_f (by decide) (br_f (by decide) (br_f (by decide) (br_f (by decide) (br_f (by decide) (br_f (by decide) (br_f (by decide) (br_t rfl (And.intro vin P))))))))))
end
