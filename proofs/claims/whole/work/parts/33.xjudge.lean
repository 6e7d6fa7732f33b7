/-! ===== 33: X's check ===== -/
theorem gs_pr_rho {kd : Nat → Nat} {vl : Nat → Int32} {nm : Nat → Lean.RArray Nat} {cnt i : Nat} (W : gs_WF kd cnt) (hi : i < cnt) (ok : ∀ m, m < gs_ar (kd i) → (gs_R kd vl nm cnt (gs_op (gs_en kd cnt) i m)).1 = 0) : gs_R kd vl nm cnt i = gs_typ nm (kd i) (vl i).toNatClampNeg (gs_col kd (fun j => (vl j).toNatClampNeg) (gs_en kd cnt) i i) (gs_t kd vl nm cnt i 0) (gs_t kd vl nm cnt i 1) (gs_t kd vl nm cnt i 2) := gs_snd_rho W hi ok
theorem gs_sel_t {kd : Nat → Nat} {vl : Nat → Int32} {nm : Nat → Lean.RArray Nat} {cnt i k : Nat} (hk : k < 3) : gs_sel k (gs_t kd vl nm cnt i 0) (gs_t kd vl nm cnt i 1) (gs_t kd vl nm cnt i 2) = gs_t kd vl nm cnt i k := by
  unfold gs_sel
  by_cases a : k = 0
  · rw [if_pos a, a]
  · rw [if_neg a]
    by_cases b : k = 1
    · rw [if_pos b, b]
    · rw [if_neg b, show k = 2 by omega]
section
variable {x_typeDraft x_typeCount x_count x_wrongAt x_keptPlace x_cellCount x_scopeCount x_frameCount x_mode x_atToken x_scope x_current x_callee x_side x_ending x_faultLabel x_stepsTaken x_runVerdict x_runBlame x_result : Int32} {x_named x_kinds x_values x_ends x_types x_operands x_targets x_cellShape x_cellLabel x_cellOne x_cellTwo x_cellThree x_scopeValue x_scopeOuter x_frameKind x_frameOne x_frameTwo x_frameThree : Nat → Int32}
variable {kd : Nat → Nat} {vl : Nat → Int32} {nm : Nat → Lean.RArray Nat} {cnt : Nat}
theorem gx_se_l {post : Int32 → SX → Prop} {i : Nat} {ti : Lean.RArray Nat} {g0 : Nat → Int32} (W : gs_WF kd cnt) (hd : gx_DR kd vl nm cnt x_named x_kinds x_values) (hi : i < cnt) (st : gx_ST kd vl nm cnt x_types x_operands i) (hti : x_types i = nI (gd_en ti)) (tti : gd_TY ti) (h4 : kd i = 4 → gd_hd (gs_t kd vl nm cnt i 0) = 2 ∨ gd_hd (gs_t kd vl nm cnt i 0) = 3)
    (ttg : ∀ k, k < gs_ar (kd i) → gd_TY (gs_tg (kd i) k ti (gs_t kd vl nm cnt i 0) (gs_t kd vl nm cnt i k)))
    (OK : gs_all (kd i) ti (gs_t kd vl nm cnt i 0) (gs_t kd vl nm cnt i 1) (gs_t kd vl nm cnt i 2) → ∀ g', (∀ k, k < gs_ar (kd i) → g' (3 * i + k) = nI (gd_en (gs_tg (kd i) k ti (gs_t kd vl nm cnt i 0) (gs_t kd vl nm cnt i k)))) → (∀ q, (q < 3 * i ∨ 3 * i + 3 ≤ q) → g' q = g0 q) → post 0 (x_typeDraft, x_typeCount, x_count, x_wrongAt, x_keptPlace, x_cellCount, x_scopeCount, x_frameCount, x_mode, x_atToken, x_scope, x_current, x_callee, x_side, x_ending, x_faultLabel, x_stepsTaken, x_runVerdict, x_runBlame, x_result, x_named, x_kinds, x_values, x_ends, x_types, x_operands, g', x_cellShape, x_cellLabel, x_cellOne, x_cellTwo, x_cellThree, x_scopeValue, x_scopeOuter, x_frameKind, x_frameOne, x_frameTwo, x_frameThree, 32768, 32768, 32768, 32768))
    (BAD : ¬ gs_all (kd i) ti (gs_t kd vl nm cnt i 0) (gs_t kd vl nm cnt i 1) (gs_t kd vl nm cnt i 2) → ∀ g', post 2 (x_typeDraft, x_typeCount, x_count, x_wrongAt, x_keptPlace, x_cellCount, x_scopeCount, x_frameCount, x_mode, x_atToken, x_scope, x_current, x_callee, x_side, x_ending, x_faultLabel, x_stepsTaken, x_runVerdict, x_runBlame, x_result, x_named, x_kinds, x_values, x_ends, x_types, x_operands, g', x_cellShape, x_cellLabel, x_cellOne, x_cellTwo, x_cellThree, x_scopeValue, x_scopeOuter, x_frameKind, x_frameOne, x_frameTwo, x_frameThree, 32768, 32768, 32768, 32768)) :
    ∀ d k, k + d = gs_ar (kd i) → ∀ g, (∀ m, m < k → g (3 * i + m) = nI (gd_en (gs_tg (kd i) m ti (gs_t kd vl nm cnt i 0) (gs_t kd vl nm cnt i m))) ∧ gd_cb (gs_t kd vl nm cnt i m) (gs_tg (kd i) m ti (gs_t kd vl nm cnt i 0) (gs_t kd vl nm cnt i m)) = true) → (∀ q, (q < 3 * i ∨ 3 * i + 3 ≤ q) → g q = g0 q) → wX_settleType_84 post (nI i) (nI (gs_ar (kd i))) x_typeDraft x_typeCount x_count x_wrongAt x_keptPlace x_cellCount x_scopeCount x_frameCount x_mode x_atToken x_scope x_current x_callee x_side x_ending x_faultLabel x_stepsTaken x_runVerdict x_runBlame x_result 32768 32768 32768 32768 (d + 1) (nI k) x_named x_kinds x_values x_ends x_types x_operands g x_cellShape x_cellLabel x_cellOne x_cellTwo x_cellThree x_scopeValue x_scopeOuter x_frameKind x_frameOne x_frameTwo x_frameThree := by
  have hd0 := hd
  obtain ⟨c36, hn, hnm, hk'⟩ := hd
  have a3 := gs_ar3 (kd i)
  intro d
  induction d with
  | zero =>
    intro k e g h1 h2
    have e' : k = gs_ar (kd i) := by omega
    subst e'
    refine br_t (Int32.le_refl _) (OK ?_ g (fun m hm => (h1 m hm).1) h2)
    intro j hj
    rw [gs_sel_t (by omega)]
    exact (h1 j hj).2
  | succ d ih =>
    intro k e g h1 h2
    have kk : k < gs_ar (kd i) := by omega
    obtain ⟨s1, s2⟩ := st k kk
    have ol := gs_op_lt W hi kk
    have e3 : (3 : Int32) * nI i + nI k = nI (3 * i + k) := by rw [show (3 : Int32) * nI i = nI (3 * i) from pk_mul 3 i, nI_add]
    have vin : vp_in (nI (3 * i + k)) 108 := vp_in_nI (by omega) (by decide)
    refine br_f (nI_ge (by omega) (by omega)) (nm_r e3 (gx_targetOf W hd0 hi kk st hti h4 ?_))
    rw [nI_clamp (show 3 * i + k < 2 ^ 31 by omega), s1, nI_clamp (show gs_op (gs_en kd cnt) i k < 2 ^ 31 by omega), s2]
    refine And.intro vin (nm_e (And.intro vin (And.intro (vp_in_nI (by omega) (by decide)) (And.intro vin ?_))))
    rw [pk_us]
    refine gx_consistent (gs_t_TY W hn hi k) (ttg k kk) (fun z => ?_) (fun z => ?_)
    · refine br_f (show ¬ (1 : Int32) = 0 by decide) (nm_r (nI_1 k) (ih (k + 1) (by omega) _ ?_ ?_))
      · intro m hm
        by_cases c : m = k
        · subst c
          exact ⟨pk_us, z⟩
        · rw [pk_un (by omega)]
          exact h1 m (by omega)
      · intro q hq
        rw [pk_un (by omega)]
        exact h2 q hq
    · refine br_t rfl (BAD (fun all => ?_) _)
      have := all k kk
      rw [gs_sel_t (by omega), z] at this
      exact absurd this (by decide)
theorem gs_pr_hd4 {i : Nat} (c : kd i = 4) (h : (gs_pr kd vl nm cnt i).1 = 0) : gd_hd (gs_t kd vl nm cnt i 0) = 2 ∨ gd_hd (gs_t kd vl nm cnt i 0) = 3 := by
  unfold gs_pr at h
  rw [c] at h
  change (if gd_hd (gs_t kd vl nm cnt i 0) = 2 then ((0 : Nat), Lean.RArray.leaf 2) else if gd_hd (gs_t kd vl nm cnt i 0) = 3 then (0, gd_rt (gs_t kd vl nm cnt i 0)) else (2, .leaf 0)).1 = 0 at h
  by_cases a : gd_hd (gs_t kd vl nm cnt i 0) = 2
  · exact Or.inl a
  · rw [if_neg a] at h
    by_cases b : gd_hd (gs_t kd vl nm cnt i 0) = 3
    · exact Or.inr b
    · rw [if_neg b] at h
      exact absurd h (by decide)
theorem gs_tg_TY {k j : Nat} {ti t0 own : Lean.RArray Nat} (hi : gd_TY ti) (h0 : gd_TY t0) (ho : gd_TY own) : gd_TY (gs_tg k j ti t0 own) := by
  have L0 := gs_TY0 0 (by decide)
  have L1 := gs_TY0 1 (by decide)
  have L2 := gs_TY0 2 (by decide)
  unfold gs_tg
  by_cases c : k = 4
  · rw [if_pos c]
    by_cases d : j = 0
    · rw [if_pos d]
      split
      · exact ⟨⟨Or.inl rfl, L2.1, L2.1⟩, by decide⟩
      · exact ho
    · rw [if_neg d]
      split
      · exact L2
      · exact gs_lf_TY h0
  rw [if_neg c]
  by_cases c : k = 9 ∨ k = 10
  · rw [if_pos c]
    split
    · exact ⟨⟨Or.inr rfl, L2.1, L2.1⟩, by decide⟩
    · exact ho
  rw [if_neg c]
  by_cases c : k = 5
  · rw [if_pos c]
    split
    · exact L1
    · exact hi
  rw [if_neg c]
  by_cases c : k = 6 ∨ k = 7
  · rw [if_pos c]; exact L0
  rw [if_neg c]
  by_cases c : k = 11
  · rw [if_pos c]; exact hi
  · rw [if_neg c]; exact ho
theorem gx_settle {post : Int32 → SX → Prop} {i : Nat} (W : gs_WF kd cnt) (hd : gx_DR kd vl nm cnt x_named x_kinds x_values) (hi : i < cnt) (he : ∀ j, j < cnt → x_ends j = nI (gs_en kd cnt j)) (st : gx_ST kd vl nm cnt x_types x_operands i) (ok : ∀ m, m < gs_ar (kd i) → (gs_R kd vl nm cnt (gs_op (gs_en kd cnt) i m)).1 = 0)
    (OK : (gs_R kd vl nm cnt i).1 = 0 → ∀ g', (∀ k, k < gs_ar (kd i) → g' (3 * i + k) = nI (gd_en (gm_tg (gs_P kd vl nm cnt) i k))) → (∀ q, (q < 3 * i ∨ 3 * i + 3 ≤ q) → g' q = x_targets q) → post 0 (x_typeDraft, x_typeCount, x_count, x_wrongAt, x_keptPlace, x_cellCount, x_scopeCount, x_frameCount, x_mode, x_atToken, x_scope, x_current, x_callee, x_side, x_ending, x_faultLabel, x_stepsTaken, x_runVerdict, x_runBlame, x_result, x_named, x_kinds, x_values, x_ends, upd x_types i (nI (gd_en (gs_R kd vl nm cnt i).2)), x_operands, g', x_cellShape, x_cellLabel, x_cellOne, x_cellTwo, x_cellThree, x_scopeValue, x_scopeOuter, x_frameKind, x_frameOne, x_frameTwo, x_frameThree, 32768, 32768, 32768, 32768))
    (BAD : (gs_R kd vl nm cnt i).1 ≠ 0 → (gs_R kd vl nm cnt i).1 ≠ 4 → ∀ t' g', post (nI (gs_R kd vl nm cnt i).1) (x_typeDraft, x_typeCount, x_count, x_wrongAt, x_keptPlace, x_cellCount, x_scopeCount, x_frameCount, x_mode, x_atToken, x_scope, x_current, x_callee, x_side, x_ending, x_faultLabel, x_stepsTaken, x_runVerdict, x_runBlame, x_result, x_named, x_kinds, x_values, x_ends, t', x_operands, g', x_cellShape, x_cellLabel, x_cellOne, x_cellTwo, x_cellThree, x_scopeValue, x_scopeOuter, x_frameKind, x_frameOne, x_frameTwo, x_frameThree, 32768, 32768, 32768, 32768)) : wpX_settleType post (x_typeDraft, x_typeCount, x_count, x_wrongAt, x_keptPlace, x_cellCount, x_scopeCount, x_frameCount, x_mode, x_atToken, x_scope, x_current, x_callee, x_side, x_ending, x_faultLabel, x_stepsTaken, x_runVerdict, x_runBlame, x_result, x_named, x_kinds, x_values, x_ends, x_types, x_operands, x_targets, x_cellShape, x_cellLabel, x_cellOne, x_cellTwo, x_cellThree, x_scopeValue, x_scopeOuter, x_frameKind, x_frameOne, x_frameTwo, x_frameThree, 32768, 32768, 32768, 32768) (nI i) := by
  have hd0 := hd
  obtain ⟨c36, hn, hnm, hk'⟩ := hd
  obtain ⟨k1, k2, k3, k4⟩ := hk' i hi
  have vin : vp_in (nI i) 36 := vp_in_nI (by omega) (by decide)
  have t0 := gs_t_TY (vl := vl) (nm := nm) W hn hi 0
  have t1 := gs_t_TY (vl := vl) (nm := nm) W hn hi 1
  have rho := gs_pr_rho (vl := vl) (nm := nm) W hi ok
  have a3 := gs_ar3 (kd i)
  have P : (gs_pr kd vl nm cnt i).1 = 0 → wX_settleType_47 post (nI i) (nI (kd i)) (nI (gd_en (gs_pr kd vl nm cnt i).2)) x_typeDraft x_typeCount x_count x_wrongAt x_keptPlace x_cellCount x_scopeCount x_frameCount x_mode x_atToken x_scope x_current x_callee x_side x_ending x_faultLabel x_stepsTaken x_runVerdict x_runBlame x_result x_named x_kinds x_values x_ends x_types x_operands x_targets x_cellShape x_cellLabel x_cellOne x_cellTwo x_cellThree x_scopeValue x_scopeOuter x_frameKind x_frameOne x_frameTwo x_frameThree 32768 32768 32768 32768 := by
    intro z
    have tp : gd_TY (gs_pr kd vl nm cnt i).2 := gs_pre_TY hn k2 t0 t1 z
    have e2 : (gs_R kd vl nm cnt i).2 = (gs_pr kd vl nm cnt i).2 := by rw [rho]; exact gs_pre_ty k2 z
    have po := gs_pre_ok (nm := nm) (v := (vl i).toNatClampNeg) (l := gs_col kd (fun j => (vl j).toNatClampNeg) (gs_en kd cnt) i i) (t1 := gs_t kd vl nm cnt i 1) (t2 := gs_t kd vl nm cnt i 2) k2 t0.1 z
    rw [← rho] at po
    refine br_t (nI_pos' (gx_en tp)) ?_
    rw [nI_clamp (show i < 2 ^ 31 by omega)]
    refine And.intro vin (nm_e (gx_arity k2 (Exists.intro (gs_ar (kd i) + 1) ?_)))
    refine gx_se_l (x_types := upd x_types i (nI (gd_en (gs_pr kd vl nm cnt i).2))) (g0 := x_targets) (ti := (gs_pr kd vl nm cnt i).2) W hd0 hi ?_ pk_us tp (fun c => gs_pr_hd4 c z) (fun k hk => gs_tg_TY tp t0 (gs_t_TY W hn hi k)) ?_ ?_ (gs_ar (kd i)) 0 (Nat.zero_add _) x_targets (fun m hm => absurd hm (Nat.not_lt_zero _)) (fun q _ => rfl)
    · intro k hk
      obtain ⟨s1, s2⟩ := st k hk
      have ol := gs_op_lt W hi hk
      exact ⟨s1, by rw [pk_un (by omega)]; exact s2⟩
    · intro all g' g1 g2
      have c0 := po.1.mpr all
      have := OK c0 g' ?_ g2
      · rw [e2] at this
        exact this
      · intro k hk
        rw [g1 k hk]
        show _ = nI (gd_en (gs_tg (kd i) k (gs_R kd vl nm cnt i).2 (gs_R kd vl nm cnt (gs_op (gs_en kd cnt) i 0)).2 (gs_R kd vl nm cnt (gs_op (gs_en kd cnt) i k)).2))
        rw [e2, gs_t_k hk, gs_t_k (show 0 < gs_ar (kd i) by omega)]
    · intro nall g'
      have nz : (gs_R kd vl nm cnt i).1 ≠ 0 := fun y => nall (po.1.mp y)
      have c2 : (gs_R kd vl nm cnt i).1 = 2 := po.2 nz
      have := BAD nz (by rw [c2]; decide) (upd x_types i (nI (gd_en (gs_pr kd vl nm cnt i).2))) g'
      rw [c2] at this
      exact this
  have Q : ∀ n, (gs_pr kd vl nm cnt i).1 = n → n = 2 ∨ n = 3 → post (nI n) (x_typeDraft, x_typeCount, x_count, x_wrongAt, x_keptPlace, x_cellCount, x_scopeCount, x_frameCount, x_mode, x_atToken, x_scope, x_current, x_callee, x_side, x_ending, x_faultLabel, x_stepsTaken, x_runVerdict, x_runBlame, x_result, x_named, x_kinds, x_values, x_ends, x_types, x_operands, x_targets, x_cellShape, x_cellLabel, x_cellOne, x_cellTwo, x_cellThree, x_scopeValue, x_scopeOuter, x_frameKind, x_frameOne, x_frameTwo, x_frameThree, 32768, 32768, 32768, 32768) := by
    intro n e h
    have ne : (gs_pr kd vl nm cnt i).1 ≠ 0 := by rw [e]; omega
    have c := gs_pre_bad (t2 := gs_t kd vl nm cnt i 2) k2 ne
    rw [← rho] at c
    have cn : (gs_R kd vl nm cnt i).1 = n := c.trans e
    have := BAD (by rw [cn]; omega) (by rw [cn]; omega) x_types x_targets
    rw [cn] at this
    exact this
  have Q2 : (gs_pr kd vl nm cnt i).1 = 2 → wX_settleType_47 post (nI i) (nI (kd i)) (-1) x_typeDraft x_typeCount x_count x_wrongAt x_keptPlace x_cellCount x_scopeCount x_frameCount x_mode x_atToken x_scope x_current x_callee x_side x_ending x_faultLabel x_stepsTaken x_runVerdict x_runBlame x_result x_named x_kinds x_values x_ends x_types x_operands x_targets x_cellShape x_cellLabel x_cellOne x_cellTwo x_cellThree x_scopeValue x_scopeOuter x_frameKind x_frameOne x_frameTwo x_frameThree 32768 32768 32768 32768 := fun z => br_f (by decide) (br_f (by decide) (Q 2 z (Or.inl rfl)))
  have Q3 : (gs_pr kd vl nm cnt i).1 = 3 → wX_settleType_47 post (nI i) (nI (kd i)) (-2) x_typeDraft x_typeCount x_count x_wrongAt x_keptPlace x_cellCount x_scopeCount x_frameCount x_mode x_atToken x_scope x_current x_callee x_side x_ending x_faultLabel x_stepsTaken x_runVerdict x_runBlame x_result x_named x_kinds x_values x_ends x_types x_operands x_targets x_cellShape x_cellLabel x_cellOne x_cellTwo x_cellThree x_scopeValue x_scopeOuter x_frameKind x_frameOne x_frameTwo x_frameThree 32768 32768 32768 32768 := fun z => br_f (by decide) (br_t rfl (Q 3 z (Or.inr rfl)))
  show vp_in (nI i) 36 ∧ _
  rw [nI_clamp (show i < 2 ^ 31 by omega), k1]
  have part : kd i = 4 ∨ kd i = 9 ∨ kd i = 10 → wX_settleType_24 post (nI i) (nI (kd i)) x_typeDraft x_typeCount x_count x_wrongAt x_keptPlace x_cellCount x_scopeCount x_frameCount x_mode x_atToken x_scope x_current x_callee x_side x_ending x_faultLabel x_stepsTaken x_runVerdict x_runBlame x_result x_named x_kinds x_values x_ends x_types x_operands x_targets x_cellShape x_cellLabel x_cellOne x_cellTwo x_cellThree x_scopeValue x_scopeOuter x_frameKind x_frameOne x_frameTwo x_frameThree 32768 32768 32768 32768 := fun c => br_f (show ¬ (1 : Int32) = 0 by decide) (gx_partType W hd0 hi st c P Q2)
  exact And.intro vin (nm_e (pk_eq (kd i) 4 (fun c => part (Or.inl c)) (fun n4 => pk_eq (kd i) 9 (fun c => part (Or.inr (Or.inl c))) (fun n9 => pk_eq (kd i) 10 (fun c => part (Or.inr (Or.inr c))) (fun n10 => br_t rfl (gx_typeOf W hd0 hi he st n4 n9 n10 P Q2 Q3))))))
end
