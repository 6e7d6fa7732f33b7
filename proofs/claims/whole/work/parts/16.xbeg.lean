/-! ===== 16: new cells and variables of a turn ===== -/
section
variable {x_typeDraft x_typeCount x_count x_wrongAt x_keptPlace x_cellCount x_scopeCount x_frameCount x_mode x_atToken x_scope x_current x_callee x_side x_ending x_faultLabel x_stepsTaken x_runVerdict x_runBlame x_result : Int32} {x_named x_kinds x_values x_ends x_types x_operands x_targets x_cellShape x_cellLabel x_cellOne x_cellTwo x_cellThree x_scopeValue x_scopeOuter x_frameKind x_frameOne x_frameTwo x_frameThree : Nat → Int32}
variable {post : SX → Prop}
theorem gx_C_n {c : gm_Cell} {k : Nat} {sh o1 o2 o3 : Int32} (hk : gm_ck c = k) (k3 : k < 3) (hs : sh = nI (gm_sh k)) (h1 : o1 = gm_ci c) : gx_C c sh 0 o1 o2 o3 := by
  unfold gx_C
  rw [hk]
  exact ⟨hs, by omega, fun _ => h1, fun z => by omega, fun z => by omega, fun z => by omega⟩
theorem gx_C_3 {c : gm_Cell} {o1 o2 o3 : Int32} (hk : gm_ck c = 3) (h1 : o1 = nI (gm_ca c)) (h2 : o2 = nI (gm_cb c)) : gx_C c 3 0 o1 o2 o3 := by
  unfold gx_C
  rw [hk]
  exact ⟨rfl, by omega, fun z => by omega, fun _ => ⟨rfl, h1, h2⟩, fun z => by omega, fun z => by omega⟩
theorem gx_C_5 {c : gm_Cell} {o1 o2 o3 : Int32} (hk : gm_ck c = 5) (h1 : o1 = nI (gm_xv (gm_ca c))) (h2 : o2 = nI (gm_xv (gm_cb c))) : gx_C c 4 0 o1 o2 o3 := by
  unfold gx_C
  rw [hk]
  exact ⟨rfl, by omega, fun z => by omega, fun z => by omega, fun _ => ⟨rfl, h1, h2⟩, fun z => by omega⟩
/-- D' returns the value v -/
def gx_Rt (s : gm_S) (D D' : gx_D) (v : Nat) : Prop := gx_H s D' ∧ gx_fc D' = gx_fc D ∧ (∀ j, gx_fr D' j = gx_fr D j) ∧ gx_mode D' = 1 ∧ gx_cur D' = nI (gm_xv v)
theorem gx_combined {post : Int32 → SX → Prop} {s : gm_S} {k v v' r : Nat} {t : Lean.RArray Nat} {out : gm_O} (hH : gx_H0 s x_cellCount x_cellShape x_cellLabel x_cellOne x_cellTwo x_cellThree)
    (H : (if k = 6 then gm_num s v (fun x => gm_num s v' (fun y => gm_new s (1, x + y, 0, 0, .leaf 0, .leaf 0, 0, 0, 0, 0, 0) 0))
    else if k = 7 then gm_num s v (fun x => gm_num s v' (fun y => gm_new s (2, if x < y then 1 else 0, 0, 0, .leaf 1, .leaf 1, 0, 0, 0, 0, 0) 0))
    else if k = 8 then (if v / 8 < gm_n s ∧ v' / 8 < gm_n s then gm_new s (5, 0, v, v', t, t, 0, 0, 0, 0, r) 0 else none) else none) = some out)
    (K : ∀ w s' cc cSh cLb c1 c2, out = (0, w, 0, s') → gm_m s' = gm_m s ∧ gm_e s' = gm_e s ∧ gm_T s' = gm_T s → gx_H0 s' cc cSh cLb c1 c2 x_cellThree → post (nI (gm_xv w)) (x_typeDraft, x_typeCount, x_count, x_wrongAt, x_keptPlace, cc, x_scopeCount, x_frameCount, x_mode, x_atToken, x_scope, x_current, x_callee, x_side, x_ending, x_faultLabel, x_stepsTaken, x_runVerdict, x_runBlame, x_result, x_named, x_kinds, x_values, x_ends, x_types, x_operands, x_targets, cSh, cLb, c1, c2, x_cellThree, x_scopeValue, x_scopeOuter, x_frameKind, x_frameOne, x_frameTwo, x_frameThree, 32768, 32768, 32768, 32768)) :
    wpX_combined post (x_typeDraft, x_typeCount, x_count, x_wrongAt, x_keptPlace, x_cellCount, x_scopeCount, x_frameCount, x_mode, x_atToken, x_scope, x_current, x_callee, x_side, x_ending, x_faultLabel, x_stepsTaken, x_runVerdict, x_runBlame, x_result, x_named, x_kinds, x_values, x_ends, x_types, x_operands, x_targets, x_cellShape, x_cellLabel, x_cellOne, x_cellTwo, x_cellThree, x_scopeValue, x_scopeOuter, x_frameKind, x_frameOne, x_frameTwo, x_frameThree, 32768, 32768, 32768, 32768) (nI k) (nI (gm_xv v)) (nI (gm_xv v')) := by
  have hH1 := hH
  obtain ⟨h1, h2, h3⟩ := hH
  subst h1
  have fin : ∀ (c : gm_Cell) (p0 p1 p2 : Int32) (q : Int32), (∀ o3, gx_C c p0 0 p1 p2 o3) → gm_new s c 0 = some out → wpX_newCell post (x_typeDraft, x_typeCount, x_count, x_wrongAt, x_keptPlace, nI (gm_n s), x_scopeCount, x_frameCount, x_mode, x_atToken, x_scope, x_current, x_callee, x_side, x_ending, x_faultLabel, x_stepsTaken, x_runVerdict, x_runBlame, x_result, x_named, x_kinds, x_values, x_ends, x_types, x_operands, x_targets, x_cellShape, x_cellLabel, x_cellOne, x_cellTwo, x_cellThree, x_scopeValue, x_scopeOuter, x_frameKind, x_frameOne, x_frameTwo, x_frameThree, 32768, 32768, 32768, 32768) p0 p1 p2 := by
    intro c p0 p1 p2 q hc hn
    obtain ⟨n5, e⟩ := gm_new_e hn
    refine gx_newCell (by omega) ?_
    have := K (8 * gm_n s) (gm_push s c) (nI (gm_n s + 1)) (upd x_cellShape (gm_n s) p0) (upd x_cellLabel (gm_n s) 0) (upd x_cellOne (gm_n s) p1) (upd x_cellTwo (gm_n s) p2) e ⟨rfl, rfl, rfl⟩ (gx_H0_push hH1 n5 (by rw [pk_us, pk_us, pk_us, pk_us]; exact hc _) (fun j hj => by rw [pk_un hj, pk_un hj, pk_un hj, pk_un hj]; exact ⟨rfl, rfl, rfl, rfl, rfl⟩))
    rw [gm_xv_8] at this
    exact this
  have num : ∀ {u : Nat} {g : Int32 → Option gm_O}, gm_num s u g = some out → u / 8 < gm_n s ∧ x_cellOne (u / 8) = gm_ci (gm_h s (u / 8)) ∧ g (gm_ci (gm_h s (u / 8))) = some out := by
    intro u g hu
    obtain ⟨⟨a, b⟩, c⟩ := gm_num_e hu
    exact ⟨a, (h3 _ a).2.2.1 b, c⟩
  by_cases k6 : k = 6
  · subst k6
    rw [if_pos rfl] at H
    obtain ⟨a1, a2, H⟩ := num H
    obtain ⟨b1, b2, H⟩ := num H
    refine br_f (show ¬ nI 6 = 8 by decide) ?_
    rw [gx_shr (v := v) (by omega), gx_shr (v := v') (by omega), nI_clamp (show v / 8 < 2 ^ 31 by omega), nI_clamp (show v' / 8 < 2 ^ 31 by omega), a2, b2]
    refine And.intro (vp_in_nI (by omega) (by decide)) (nm_e (And.intro (vp_in_nI (by omega) (by decide)) (nm_e (br_t rfl ?_))))
    exact fin _ _ _ _ 0 (fun o3 => gx_C_n (k := 1) rfl (by decide) rfl rfl) H
  rw [if_neg k6] at H
  by_cases k7 : k = 7
  · subst k7
    rw [if_pos rfl] at H
    obtain ⟨a1, a2, H⟩ := num H
    obtain ⟨b1, b2, H⟩ := num H
    refine br_f (show ¬ nI 7 = 8 by decide) ?_
    rw [gx_shr (v := v) (by omega), gx_shr (v := v') (by omega), nI_clamp (show v / 8 < 2 ^ 31 by omega), nI_clamp (show v' / 8 < 2 ^ 31 by omega), a2, b2]
    refine And.intro (vp_in_nI (by omega) (by decide)) (nm_e (And.intro (vp_in_nI (by omega) (by decide)) (nm_e (br_f (show ¬ nI 7 = 6 by decide) (br_c (fun z => ?_) (fun z => ?_))))))
    · rw [if_neg (Int32.not_lt.mpr z)] at H
      exact fin _ _ _ _ 0 (fun o3 => gx_C_n (k := 2) rfl (by decide) rfl rfl) H
    · rw [if_pos (Int32.not_le.mp z)] at H
      exact fin _ _ _ _ 0 (fun o3 => gx_C_n (k := 2) rfl (by decide) rfl rfl) H
  rw [if_neg k7] at H
  obtain ⟨k8, H8⟩ := gm_if_e H
  obtain ⟨_, H9⟩ := gm_if_e H8
  subst k8
  refine br_t rfl ?_
  exact fin _ _ _ _ 0 (fun o3 => gx_C_5 rfl rfl rfl) H9
theorem gx_finComb {P : gm_P} {s : gm_S} {D : gx_D} {i v v' : Nat} {w : Int32} {out : gm_O} {t : Lean.RArray Nat} {r : Nat} (hP : gx_P P x_kinds x_values x_types x_operands x_targets) (hi : i < gm_cn P) (hk : gm_kd P i = 6 ∨ gm_kd P i = 7 ∨ gm_kd P i = 8) (hH : gx_H s D) (hm : gx_mode D = 1) (hc : gx_cur D = nI (gm_xv v'))
    (H : (if gm_kd P i = 6 then gm_num s v (fun x => gm_num s v' (fun y => gm_new s (1, x + y, 0, 0, .leaf 0, .leaf 0, 0, 0, 0, 0, 0) 0))
    else if gm_kd P i = 7 then gm_num s v (fun x => gm_num s v' (fun y => gm_new s (2, if x < y then 1 else 0, 0, 0, .leaf 1, .leaf 1, 0, 0, 0, 0, 0) 0))
    else if gm_kd P i = 8 then (if v / 8 < gm_n s ∧ v' / 8 < gm_n s then gm_new s (5, 0, v, v', t, t, 0, 0, 0, 0, r) 0 else none) else none) = some out) :
    gx_M (fun P X => wpX_finishOperand P X (nI i) (nI 1) w (nI (gm_xv v))) x_typeDraft x_typeCount x_count x_wrongAt x_keptPlace x_runVerdict x_runBlame x_result x_named x_kinds x_values x_ends x_types x_operands x_targets D (fun D' => out.1 = 0 ∧ gx_Rt out.2.2.2 D D' out.2.1) := by
  intro post HP
  obtain ⟨c36, hP⟩ := hP
  obtain ⟨p1, p2, p3, p4, p5, p6, p7⟩ := hP i hi
  have ar : gs_ar (gm_kd P i) = 2 := by
    rcases hk with c | c | c <;> rw [c] <;> rfl
  obtain ⟨x_cellCount, x_scopeCount, x_frameCount, x_mode, x_atToken, x_scope, x_current, x_callee, x_side, x_ending, x_faultLabel, x_stepsTaken, x_cellShape, x_cellLabel, x_cellOne, x_cellTwo, x_cellThree, x_scopeValue, x_scopeOuter, x_frameKind, x_frameOne, x_frameTwo, x_frameThree⟩ := D
  have hc' : x_current = nI (gm_xv v') := hc
  have hm' : x_mode = 1 := hm
  subst hc' hm'
  obtain ⟨h1, h4, h5, h6, h7, h8⟩ := hH
  refine And.intro (vp_in_nI (by omega) (by decide)) ?_
  rw [nI_clamp (show i < 2 ^ 31 by omega), p1]
  refine nm_e (pk_eq (gm_kd P i) 9 (fun z => by omega) (fun _ => pk_eq (gm_kd P i) 10 (fun z => by omega) (fun _ => pk_eq (gm_kd P i) 5 (fun z => by omega) (fun _ => ?_))))
  refine gx_arity p2 ?_
  rw [ar]
  refine br_t rfl (br_f (show ¬ nI 1 = 0 by decide) (pk_eq (gm_kd P i) 4 (fun z => by omega) (fun _ => gx_arity p2 ?_)))
  rw [ar]
  refine br_t rfl (gx_combined h1 H ?_)
  intro u s' cc cSh cLb c1 c2 eo m hH'
  subst eo
  refine HP (cc, x_scopeCount, x_frameCount, 1, x_atToken, x_scope, nI (gm_xv u), x_callee, x_side, x_ending, x_faultLabel, x_stepsTaken, cSh, cLb, c1, c2, x_cellThree, x_scopeValue, x_scopeOuter, x_frameKind, x_frameOne, x_frameTwo, x_frameThree) ⟨rfl, ⟨hH', ?_, ?_, ?_, ?_, ?_⟩, rfl, fun _ => rfl, rfl, rfl⟩
  · exact h4.trans (congrArg nI m.1.symm)
  · show gm_m s' ≤ 64
    rw [m.1]; exact h5
  · exact h6.trans (congrArg nI m.2.2.symm)
  · show gm_T s' ≤ 40
    rw [m.2.2]; exact h7
  · intro w' y1 y2
    show x_scopeValue w' = nI (gm_xv (gm_e s' w').1) ∧ x_scopeOuter w' = nI (gm_e s' w').2
    rw [m.2.1]
    exact h8 w' y1 (by rw [← m.1]; exact y2)
theorem gx_variable_l {post : Int32 → Prop} {s : gm_S} {v : Nat} (h64 : gm_m s ≤ 64) (hsc : ∀ w, 0 < w → w < gm_m s → x_scopeValue w = nI (gm_xv (gm_e s w).1) ∧ x_scopeOuter w = nI (gm_e s w).2) {K : Nat} (hK : K < 100) (P : post (nI (gm_xv v))) : ∀ k w j : Nat, j + k = K → gm_var s k w = some v → wX_variable_7 post (nI K) x_typeDraft x_typeCount x_count x_wrongAt x_keptPlace x_cellCount x_scopeCount x_frameCount x_mode x_atToken x_scope x_current x_callee x_side x_ending x_faultLabel x_stepsTaken x_runVerdict x_runBlame x_result x_named x_kinds x_values x_ends x_types x_operands x_targets x_cellShape x_cellLabel x_cellOne x_cellTwo x_cellThree x_scopeValue x_scopeOuter x_frameKind x_frameOne x_frameTwo x_frameThree 32768 32768 32768 32768 (k + 1) (nI w) (nI j) := by
  intro k
  induction k with
  | zero =>
    intro w j hj H
    simp only [gm_var] at H
    by_cases c : 0 < w ∧ w < gm_m s
    · rw [if_pos c] at H
      injection H with H
      refine br_t (nI_le (by omega) (by omega)) ?_
      rw [nI_clamp (show w < 2 ^ 31 by omega), (hsc w c.1 c.2).1, H]
      exact And.intro (vp_in_nI (by omega) (by decide)) P
    · rw [if_neg c] at H
      exact absurd H (by simp)
  | succ k ih =>
    intro w j hj H
    simp only [gm_var] at H
    by_cases c : 0 < w ∧ w < gm_m s
    · rw [if_pos c] at H
      refine br_f (nI_ge (by omega) (by omega)) ?_
      rw [nI_clamp (show w < 2 ^ 31 by omega), (hsc w c.1 c.2).2]
      exact And.intro (vp_in_nI (by omega) (by decide)) (nm_e (nm_r (nI_1 j) (ih (gm_e s w).2 (j + 1) (by omega) H)))
    · rw [if_neg c] at H
      exact absurd H (by simp)
theorem gx_bLong {s : gm_S} {D : gx_D} (hH : gx_H s D) (hT : 40 ≤ gm_T s) : gx_M wpX_beginToken x_typeDraft x_typeCount x_count x_wrongAt x_keptPlace x_runVerdict x_runBlame x_result x_named x_kinds x_values x_ends x_types x_operands x_targets D (fun D' => gx_E (5, 0, 0, s) D') := by
  intro post HP
  obtain ⟨x_cellCount, x_scopeCount, x_frameCount, x_mode, x_atToken, x_scope, x_current, x_callee, x_side, x_ending, x_faultLabel, x_stepsTaken, x_cellShape, x_cellLabel, x_cellOne, x_cellTwo, x_cellThree, x_scopeValue, x_scopeOuter, x_frameKind, x_frameOne, x_frameTwo, x_frameThree⟩ := D
  obtain ⟨h1, h4, h5, h6, h7, h8⟩ := hH
  subst h6
  refine br_f (nI_nlt (b := 40) hT (by omega)) ?_
  exact HP (x_cellCount, x_scopeCount, x_frameCount, 4, x_atToken, x_scope, x_current, x_callee, x_side, 5, x_faultLabel, nI (gm_T s), x_cellShape, x_cellLabel, x_cellOne, x_cellTwo, x_cellThree, x_scopeValue, x_scopeOuter, x_frameKind, x_frameOne, x_frameTwo, x_frameThree) ⟨rfl, rfl, rfl, fun z => absurd (show (5 : Nat) = 4 from z) (by decide), h1, h4, h5, rfl, h7, h8⟩
theorem gx_bOp {P : gm_P} {s : gm_S} {D : gx_D} {fc i w : Nat} (hP : gx_P P x_kinds x_values x_types x_operands x_targets) (hi : i < gm_cn P) (hk : 4 ≤ gm_kd P i) (hf : fc + 1 < 32768) (hF : gx_fc D = nI fc) (hH : gx_H s D) (hT : gm_T s < 40) (ht : gx_att D = nI i) (hw : gx_scp D = nI w) :
    gx_M wpX_beginToken x_typeDraft x_typeCount x_count x_wrongAt x_keptPlace x_runVerdict x_runBlame x_result x_named x_kinds x_values x_ends x_types x_operands x_targets D (fun D' => gx_W P (gm_st s) D D' fc i 0 w 0) := by
  intro post HP
  have hP0 := hP
  obtain ⟨c36, hP⟩ := hP
  obtain ⟨p1, p2, p3, p4, p5, p6, p7⟩ := hP i hi
  obtain ⟨x_cellCount, x_scopeCount, x_frameCount, x_mode, x_atToken, x_scope, x_current, x_callee, x_side, x_ending, x_faultLabel, x_stepsTaken, x_cellShape, x_cellLabel, x_cellOne, x_cellTwo, x_cellThree, x_scopeValue, x_scopeOuter, x_frameKind, x_frameOne, x_frameTwo, x_frameThree⟩ := D
  have hF' : x_frameCount = nI fc := hF
  have ht' : x_atToken = nI i := ht
  have hw' : x_scope = nI w := hw
  subst hF' ht' hw'
  obtain ⟨h1, h4, h5, h6, h7, h8⟩ := hH
  subst h6
  have m0 : gx_M (fun P X => wpX_startOperand P X (nI i) (nI 0) (nI w) 0) x_typeDraft x_typeCount x_count x_wrongAt x_keptPlace x_runVerdict x_runBlame x_result x_named x_kinds x_values x_ends x_types x_operands x_targets (x_cellCount, x_scopeCount, nI fc, 1, nI i, nI w, x_current, x_callee, x_side, x_ending, x_faultLabel, nI (gm_T s + 1), x_cellShape, x_cellLabel, x_cellOne, x_cellTwo, x_cellThree, x_scopeValue, x_scopeOuter, x_frameKind, x_frameOne, x_frameTwo, x_frameThree) (fun D' => gx_W P (gm_st s) (x_cellCount, x_scopeCount, nI fc, 1, nI i, nI w, x_current, x_callee, x_side, x_ending, x_faultLabel, nI (gm_T s + 1), x_cellShape, x_cellLabel, x_cellOne, x_cellTwo, x_cellThree, x_scopeValue, x_scopeOuter, x_frameKind, x_frameOne, x_frameTwo, x_frameThree) D' fc i 0 w 0) := gx_startM hP0 hi (gs_ar_k hk (Or.inl rfl)) (by decide) hf rfl ⟨h1, h4, h5, rfl, hT, h8⟩
  refine br_t (nI_lt (b := 40) hT (by decide)) (nm_r (nI_1 _) ?_)
  rw [nI_clamp (show i < 2 ^ 31 by omega), p1]
  refine And.intro (vp_in_nI (by omega) (by decide)) (nm_e (br_f (nI_pos (by omega)) (br_t (nI_lt (a := 3) (by omega) (by omega)) (m0 _ ?_))))
  intro D' c
  have := HP D' c
  obtain ⟨x_cellCount, x_scopeCount, x_frameCount, x_mode, x_atToken, x_scope, x_current, x_callee, x_side, x_ending, x_faultLabel, x_stepsTaken, x_cellShape, x_cellLabel, x_cellOne, x_cellTwo, x_cellThree, x_scopeValue, x_scopeOuter, x_frameKind, x_frameOne, x_frameTwo, x_frameThree⟩ := D'
  exact this
theorem gx_bNew {P : gm_P} {s : gm_S} {D : gx_D} {i w : Nat} {out : gm_O} {t : Lean.RArray Nat} (hP : gx_P P x_kinds x_values x_types x_operands x_targets) (hi : i < gm_cn P) (hH : gx_H s D) (hT : gm_T s < 40) (ht : gx_att D = nI i) (hw : gx_scp D = nI w)
    (H : (if gm_kd P i = 0 then gm_new (gm_st s) (1, gm_vl P i, 0, 0, .leaf 0, .leaf 0, 0, 0, 0, 0, 0) 0
          else if gm_kd P i = 1 then gm_new (gm_st s) (2, gm_vl P i, 0, 0, .leaf 1, .leaf 1, 0, 0, 0, 0, 0) 0
          else if gm_kd P i = 2 then (match gm_var (gm_st s) (gm_vl P i).toNatClampNeg w with | none => none | some v => some (0, v, 0, gm_st s))
          else if gm_kd P i = 3 then gm_new (gm_st s) (3, 0, i, w, t, t, 0, 0, 0, 0, 0) 0 else none) = some out) :
    gx_M wpX_beginToken x_typeDraft x_typeCount x_count x_wrongAt x_keptPlace x_runVerdict x_runBlame x_result x_named x_kinds x_values x_ends x_types x_operands x_targets D (fun D' => out.1 = 0 ∧ gx_Rt out.2.2.2 D D' out.2.1) := by
  intro post HP
  obtain ⟨c36, hP⟩ := hP
  obtain ⟨p1, p2, p3, p4, p5, p6, p7⟩ := hP i hi
  obtain ⟨x_cellCount, x_scopeCount, x_frameCount, x_mode, x_atToken, x_scope, x_current, x_callee, x_side, x_ending, x_faultLabel, x_stepsTaken, x_cellShape, x_cellLabel, x_cellOne, x_cellTwo, x_cellThree, x_scopeValue, x_scopeOuter, x_frameKind, x_frameOne, x_frameTwo, x_frameThree⟩ := D
  have ht' : x_atToken = nI i := ht
  have hw' : x_scope = nI w := hw
  subst ht' hw'
  obtain ⟨h1, h4, h5, h6, h7, h8⟩ := hH
  subst h6
  have hH1 : gx_H0 (gm_st s) x_cellCount x_cellShape x_cellLabel x_cellOne x_cellTwo x_cellThree := h1
  obtain ⟨hc, hn, h3⟩ := h1
  subst hc
  have vin : vp_in (nI i) 36 := vp_in_nI (by omega) (by decide)
  refine br_t (nI_lt (b := 40) hT (by decide)) (nm_r (nI_1 _) ?_)
  rw [nI_clamp (show i < 2 ^ 31 by omega), p1]
  have fin : ∀ (c : gm_Cell) (p0 p1 p2 : Int32) (R : Int32 → SX → Prop), (∀ o3, gx_C c p0 0 p1 p2 o3) → gm_new (gm_st s) c 0 = some out → (post (gx_X x_typeDraft x_typeCount x_count x_wrongAt x_keptPlace x_runVerdict x_runBlame x_result x_named x_kinds x_values x_ends x_types x_operands x_targets (nI (gm_n s + 1), x_scopeCount, x_frameCount, 1, nI i, nI w, nI (2 * gm_n s), x_callee, x_side, x_ending, x_faultLabel, nI (gm_T s + 1), upd x_cellShape (gm_n s) p0, upd x_cellLabel (gm_n s) 0, upd x_cellOne (gm_n s) p1, upd x_cellTwo (gm_n s) p2, x_cellThree, x_scopeValue, x_scopeOuter, x_frameKind, x_frameOne, x_frameTwo, x_frameThree)) → R (nI (2 * gm_n s)) (x_typeDraft, x_typeCount, x_count, x_wrongAt, x_keptPlace, nI (gm_n s + 1), x_scopeCount, x_frameCount, 1, nI i, nI w, x_current, x_callee, x_side, x_ending, x_faultLabel, nI (gm_T s + 1), x_runVerdict, x_runBlame, x_result, x_named, x_kinds, x_values, x_ends, x_types, x_operands, x_targets, upd x_cellShape (gm_n s) p0, upd x_cellLabel (gm_n s) 0, upd x_cellOne (gm_n s) p1, upd x_cellTwo (gm_n s) p2, x_cellThree, x_scopeValue, x_scopeOuter, x_frameKind, x_frameOne, x_frameTwo, x_frameThree, 32768, 32768, 32768, 32768)) → wpX_newCell R (x_typeDraft, x_typeCount, x_count, x_wrongAt, x_keptPlace, nI (gm_n s), x_scopeCount, x_frameCount, 1, nI i, nI w, x_current, x_callee, x_side, x_ending, x_faultLabel, nI (gm_T s + 1), x_runVerdict, x_runBlame, x_result, x_named, x_kinds, x_values, x_ends, x_types, x_operands, x_targets, x_cellShape, x_cellLabel, x_cellOne, x_cellTwo, x_cellThree, x_scopeValue, x_scopeOuter, x_frameKind, x_frameOne, x_frameTwo, x_frameThree, 32768, 32768, 32768, 32768) p0 p1 p2 := by
    intro c p0 p1 p2 R hc hnew hR
    obtain ⟨n5, e⟩ := gm_new_e hnew
    have n5' : gm_n s < 5000 := n5
    refine gx_newCell (by omega) (hR (HP _ ?_))
    subst e
    have ex : gm_xv (8 * gm_n s) = 2 * gm_n s := gm_xv_8 _
    have hnew' : gx_H0 (gm_push (gm_st s) c) (nI (gm_n s + 1)) (upd x_cellShape (gm_n s) p0) (upd x_cellLabel (gm_n s) 0) (upd x_cellOne (gm_n s) p1) (upd x_cellTwo (gm_n s) p2) x_cellThree := by
      refine gx_H0_push hH1 n5 ?_ ?_
      · show gx_C c (upd x_cellShape (gm_n s) p0 (gm_n s)) (upd x_cellLabel (gm_n s) 0 (gm_n s)) (upd x_cellOne (gm_n s) p1 (gm_n s)) (upd x_cellTwo (gm_n s) p2 (gm_n s)) (x_cellThree (gm_n s))
        rw [pk_us, pk_us, pk_us, pk_us]
        exact hc _
      · intro j hj
        have hj' : j ≠ gm_n s := hj
        rw [pk_un hj', pk_un hj', pk_un hj', pk_un hj']
        exact ⟨rfl, rfl, rfl, rfl, rfl⟩
    exact ⟨rfl, ⟨hnew', h4, h5, rfl, hT, h8⟩, rfl, fun _ => rfl, rfl, congrArg nI ex.symm⟩
  by_cases k0 : gm_kd P i = 0
  · rw [if_pos k0] at H
    rw [k0, p3]
    refine And.intro vin (nm_e (br_f (by decide) (br_f (by decide) (br_t rfl (And.intro vin ?_)))))
    exact fin _ _ _ _ _ (fun o3 => gx_C_n (k := 1) rfl (by decide) rfl rfl) H (fun z => z)
  rw [if_neg k0] at H
  by_cases k1 : gm_kd P i = 1
  · rw [if_pos k1] at H
    rw [k1, p3]
    refine And.intro vin (nm_e (br_f (by decide) (br_f (by decide) (br_f (by decide) (br_t rfl (And.intro vin ?_))))))
    exact fin _ _ _ _ _ (fun o3 => gx_C_n (k := 2) rfl (by decide) rfl rfl) H (fun z => z)
  rw [if_neg k1] at H
  by_cases k2 : gm_kd P i = 2
  · rw [if_pos k2] at H
    obtain ⟨n, n10, en⟩ := p6 k2
    rw [k2, p3]
    refine And.intro vin (nm_e (br_f (by decide) (br_f (by decide) (br_f (by decide) (br_f (by decide) (br_t rfl (And.intro vin ?_)))))))
    rw [en] at H ⊢
    rw [nI_clamp (by omega)] at H
    cases hv : gm_var (gm_st s) n w with
    | none => rw [hv] at H; exact absurd H (by simp)
    | some v =>
      rw [hv] at H
      injection H with H
      subst H
      refine Exists.intro (n + 1) (gx_variable_l (s := gm_st s) (v := v) h5 h8 (by omega) ?_ n w 0 (Nat.zero_add n) hv)
      exact HP (nI (gm_n s), x_scopeCount, x_frameCount, 1, nI i, nI w, nI (gm_xv v), x_callee, x_side, x_ending, x_faultLabel, nI (gm_T s + 1), x_cellShape, x_cellLabel, x_cellOne, x_cellTwo, x_cellThree, x_scopeValue, x_scopeOuter, x_frameKind, x_frameOne, x_frameTwo, x_frameThree) ⟨rfl, ⟨hH1, h4, h5, rfl, hT, h8⟩, rfl, fun _ => rfl, rfl, rfl⟩
  rw [if_neg k2] at H
  obtain ⟨k3, H⟩ := gm_if_e H
  rw [k3]
  refine And.intro vin (nm_e (br_f (by decide) (br_f (by decide) (br_f (by decide) (br_f (by decide) (br_f (by decide) (br_t rfl ?_)))))))
  exact fin _ _ _ _ _ (fun o3 => gx_C_3 rfl rfl rfl) H (fun z => z)
end
