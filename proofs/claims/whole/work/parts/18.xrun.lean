/-! ===== 18: the evaluator's tokens ===== -/
section
variable {x_typeDraft x_typeCount x_count x_wrongAt x_keptPlace x_cellCount x_scopeCount x_frameCount x_mode x_atToken x_scope x_current x_callee x_side x_ending x_faultLabel x_stepsTaken x_runVerdict x_runBlame x_result : Int32} {x_named x_kinds x_values x_ends x_types x_operands x_targets x_cellShape x_cellLabel x_cellOne x_cellTwo x_cellThree x_scopeValue x_scopeOuter x_frameKind x_frameOne x_frameTwo x_frameThree : Nat → Int32}
variable {post : SX → Prop}
theorem gx_set_H {s : gm_S} {D : gx_D} {x : Int32} (h : gx_H s D) : gx_H s (gx_setfc D x) := by
  obtain ⟨x_cellCount, x_scopeCount, x_frameCount, x_mode, x_atToken, x_scope, x_current, x_callee, x_side, x_ending, x_faultLabel, x_stepsTaken, x_cellShape, x_cellLabel, x_cellOne, x_cellTwo, x_cellThree, x_scopeValue, x_scopeOuter, x_frameKind, x_frameOne, x_frameTwo, x_frameThree⟩ := D
  exact h
theorem gx_set_fc {D : gx_D} {x : Int32} : gx_fc (gx_setfc D x) = x := by
  obtain ⟨x_cellCount, x_scopeCount, x_frameCount, x_mode, x_atToken, x_scope, x_current, x_callee, x_side, x_ending, x_faultLabel, x_stepsTaken, x_cellShape, x_cellLabel, x_cellOne, x_cellTwo, x_cellThree, x_scopeValue, x_scopeOuter, x_frameKind, x_frameOne, x_frameTwo, x_frameThree⟩ := D
  rfl
theorem gx_set_fr {D : gx_D} {x : Int32} (j : Nat) : gx_fr (gx_setfc D x) j = gx_fr D j := by
  obtain ⟨x_cellCount, x_scopeCount, x_frameCount, x_mode, x_atToken, x_scope, x_current, x_callee, x_side, x_ending, x_faultLabel, x_stepsTaken, x_cellShape, x_cellLabel, x_cellOne, x_cellTwo, x_cellThree, x_scopeValue, x_scopeOuter, x_frameKind, x_frameOne, x_frameTwo, x_frameThree⟩ := D
  rfl
theorem gx_set_cur {D : gx_D} {x : Int32} : gx_cur (gx_setfc D x) = gx_cur D := by
  obtain ⟨x_cellCount, x_scopeCount, x_frameCount, x_mode, x_atToken, x_scope, x_current, x_callee, x_side, x_ending, x_faultLabel, x_stepsTaken, x_cellShape, x_cellLabel, x_cellOne, x_cellTwo, x_cellThree, x_scopeValue, x_scopeOuter, x_frameKind, x_frameOne, x_frameTwo, x_frameThree⟩ := D
  rfl
theorem gx_set_mode {D : gx_D} {x : Int32} : gx_mode (gx_setfc D x) = gx_mode D := by
  obtain ⟨x_cellCount, x_scopeCount, x_frameCount, x_mode, x_atToken, x_scope, x_current, x_callee, x_side, x_ending, x_faultLabel, x_stepsTaken, x_cellShape, x_cellLabel, x_cellOne, x_cellTwo, x_cellThree, x_scopeValue, x_scopeOuter, x_frameKind, x_frameOne, x_frameTwo, x_frameThree⟩ := D
  rfl
/-- before the turn in which operand k of i is taken -/
def gx_B (s : gm_S) (D0 D : gx_D) (h fc i k w : Nat) (hd : Int32) (v : Nat) : Prop :=
  (gm_u s < 1000000 ∧ gm_m s < 64 ∧ h < 32766) ∧ gx_H s D ∧ gx_fc D = nI (fc + 1) ∧ (gx_fr D fc).1 = nI (3 * i + k) ∧ (gx_fr D fc).2.1 = nI w ∧ (gx_fr D fc).2.2.1 = hd ∧ gx_A fc D0 D ∧ gx_mode D = 1 ∧ gx_cur D = nI (gm_xv v)
theorem gx_fin {s : gm_S} {D0 D : gx_D} {h fc i k w v : Nat} {hd : Int32} {C : gx_D → Prop} (hB : gx_B s D0 D h fc i k w hd v) (hi : i < 36) (hk : k < 3) (hh : fc ≤ h) (hM : gx_M (fun P X => wpX_finishOperand P X (nI i) (nI k) (nI w) hd) x_typeDraft x_typeCount x_count x_wrongAt x_keptPlace x_runVerdict x_runBlame x_result x_named x_kinds x_values x_ends x_types x_operands x_targets (gx_setfc D (nI fc)) C) (K : ∀ D', C D' → gx_go post x_typeDraft x_typeCount x_count x_wrongAt x_keptPlace x_runVerdict x_runBlame x_result x_named x_kinds x_values x_ends x_types x_operands x_targets (gm_tk s) D') : gx_go post x_typeDraft x_typeCount x_count x_wrongAt x_keptPlace x_runVerdict x_runBlame x_result x_named x_kinds x_values x_ends x_types x_operands x_targets s D := by
  obtain ⟨⟨r1, r2, r3⟩, b1, b2, b3, b4, b5, b6, b7, b8⟩ := hB
  exact gx_t1 r1 r2 (by omega) b1 b2 b7 (gx_resumeOp hi hk (by omega) b2 b3 b4 b5 hM) K
theorem gx_rest_sim {P : gm_P} {f : Nat → Nat → Nat → gm_S → Option gm_O} (hP : gx_P P x_kinds x_values x_types x_operands x_targets) (hf : gx_IH post x_typeDraft x_typeCount x_count x_wrongAt x_keptPlace x_runVerdict x_runBlame x_result x_named x_kinds x_values x_ends x_types x_operands x_targets f) {h i w v fc : Nat} {s : gm_S} {out : gm_O} {D0 D : gx_D} {hd : Int32} (H : gm_rest P f h i w v (gm_tk s) = some out) (hi : i < gm_cn P) (h4 : 4 ≤ gm_kd P i) (hh : fc ≤ h) (hB : gx_B s D0 D h fc i 0 w hd v) (K0 : gx_K0 post x_typeDraft x_typeCount x_count x_wrongAt x_keptPlace x_runVerdict x_runBlame x_result x_named x_kinds x_values x_ends x_types x_operands x_targets fc D0 out) (KB : gx_KB post x_typeDraft x_typeCount x_count x_wrongAt x_keptPlace x_runVerdict x_runBlame x_result x_named x_kinds x_values x_ends x_types x_operands x_targets out) : gx_go post x_typeDraft x_typeCount x_count x_wrongAt x_keptPlace x_runVerdict x_runBlame x_result x_named x_kinds x_values x_ends x_types x_operands x_targets s D := by
  have c36 : gm_cn P ≤ 36 := hP.1
  have i36 : i < 36 := by omega
  obtain ⟨⟨r1, r2, r3⟩, b1, b2, b3, b4, b5, b6, b7, b8⟩ := id hB
  have A0 : gx_A fc D0 (gx_setfc D (nI fc)) := fun j hj => (gx_set_fr j).trans (b6 j hj)
  have H0 : gx_H (gm_tk s) (gx_setfc D (nI fc)) := gx_set_H b1
  have k12 : gm_kd P i < 12 := (hP.2 i hi).2.1
  unfold gm_rest at H
  by_cases c9 : gm_kd P i = 9 ∨ gm_kd P i = 10
  · rw [if_pos c9] at H
    refine gx_fin hB i36 (by decide) hh (gx_finTake hP hi c9 H0) ?_
    rintro D' ⟨a1, a2, a3, a4, a5, a6⟩
    refine gx_take_sim (side := gm_kd P i - 9) (by omega) _ h v (gm_tk s) out D' fc H hh a1 (a2.trans gx_set_fc) a4 a5 (a6.trans (gx_set_cur.trans b8)) ?_ KB
    exact gx_K0_A K0 rfl (gx_A_trans A0 (gx_fr_A a3) (Nat.le_refl _))
  rw [if_neg c9] at H
  by_cases c5 : gm_kd P i = 5
  · rw [if_pos c5] at H
    obtain ⟨hv, H⟩ := gm_num_e H
    refine gx_fin hB i36 (by decide) hh (gx_finIf hP hi c5 (by omega) gx_set_fc H0 (gx_set_cur.trans b8) hv) ?_
    intro D' hW
    have kk : (if gm_ci (gm_h (gm_tk s) (v / 8)) = 0 then 2 else 1) < 3 ∧ 0 < (if gm_ci (gm_h (gm_tk s) (v / 8)) = 0 then 2 else 1) := by
      split <;> decide
    refine gx_opr_sim hf H i36 kk.1 hh hW ?_ KB
    intro s2 D2 o0 o1 o2 o3 o4 o5 o6 o7 o8 o9 o10
    refine gx_fin ⟨o2, o3, o4, o5, o6, o7, o8, o9, o10⟩ i36 kk.1 hh (gx_finSame (s := s2) hP hi (Or.inr ⟨c5, kk.2⟩) kk.1 (gx_set_H o3)) ?_
    intro D3 e
    subst e
    have := K0 (gx_setfc D2 (nI fc)) o0 (by rw [o1]; exact gx_set_H o3) gx_set_fc (gx_A_trans (gx_A_trans A0 o8 (Nat.le_refl _)) (gx_fr_A gx_set_fr) (Nat.le_refl _)) (gx_set_mode.trans o9) (gx_set_cur.trans o10)
    rw [o1] at this
    exact this
  rw [if_neg c5] at H
  by_cases c11 : gm_kd P i = 11
  · rw [if_pos c11] at H
    injection H with H
    subst H
    refine gx_fin hB i36 (by decide) hh (gx_finSame (s := s) hP hi (Or.inl c11) (by decide) (gx_set_H b1)) ?_
    intro D3 e
    subst e
    exact K0 (gx_setfc D (nI fc)) rfl H0 gx_set_fc A0 (gx_set_mode.trans b7) (gx_set_cur.trans b8)
  rw [if_neg c11] at H
  have hk4 : gm_kd P i = 4 ∨ gm_kd P i = 6 ∨ gm_kd P i = 7 ∨ gm_kd P i = 8 := by omega
  refine gx_fin hB i36 (by decide) hh (gx_finTwo hP hi hk4 (by omega) gx_set_fc H0) ?_
  intro D' hW
  refine gm_bd_e H ?_ ?_
  · intro v' p' s' e1 H1
    refine gx_opr_sim (out := (0, v', p', s')) hf e1 i36 (by decide) hh hW ?_ (fun z => absurd rfl z)
    intro s2 D2 o0 o1 o2 o3 o4 o5 o6 o7 o8 o9 o10
    have o1' : s' = gm_tk s2 := o1
    subst o1'
    have o7' : (gx_fr D2 fc).2.2.1 = nI (gm_xv v) := o7.trans (gx_set_cur.trans b8)
    have H2 : gx_H (gm_tk s2) (gx_setfc D2 (nI fc)) := gx_set_H o3
    have A2 : gx_A fc D0 (gx_setfc D2 (nI fc)) := gx_A_trans (gx_A_trans A0 o8 (Nat.le_refl _)) (gx_fr_A gx_set_fr) (Nat.le_refl _)
    by_cases c4 : gm_kd P i = 4
    · rw [if_pos c4] at H1
      obtain ⟨_, H1⟩ := gm_if_e H1
      refine gx_fin ⟨o2, o3, o4, o5, o6, o7', o8, o9, o10⟩ i36 (by decide) hh (gx_finApp (s := gm_tk s2) hP hi c4 H2) ?_
      rintro D3 ⟨a1, a2, a3, a4, a5, a6⟩
      refine gx_call_sim hf _ h v v' (gm_tk s2) out D3 fc H1 hh a1 (a2.trans gx_set_fc) a4 a5 (a6.trans (gx_set_cur.trans o10)) ?_ KB
      exact gx_K0_A K0 rfl (gx_A_trans A2 (gx_fr_A a3) (Nat.le_refl _))
    · rw [if_neg c4] at H1
      refine gx_fin ⟨o2, o3, o4, o5, o6, o7', o8, o9, o10⟩ i36 (by decide) hh (gx_finComb (s := gm_tk s2) (v := v) (v' := v') hP hi (by omega) H2 (gx_set_mode.trans o9) (gx_set_cur.trans o10) H1) ?_
      rintro D3 ⟨z, a1, a2, a3, a4, a5⟩
      have g := K0 D3 z a1 (a2.trans gx_set_fc) (gx_A_trans A2 (gx_fr_A a3) (Nat.le_refl _)) a4 a5
      have eu : gm_u out.2.2.2 = gm_u (gm_tk s2) := by
        by_cases c6 : gm_kd P i = 6
        · rw [if_pos c6] at H1
          exact (gm_new_same (gm_num_e (gm_num_e H1).2).2).2.2.2
        rw [if_neg c6] at H1
        by_cases c7 : gm_kd P i = 7
        · rw [if_pos c7] at H1
          exact (gm_new_same (gm_num_e (gm_num_e H1).2).2).2.2.2
        rw [if_neg c7] at H1
        exact (gm_new_same (gm_if_e (gm_if_e H1).2).2).2.2.2
      intro N hN
      have := g N (by rw [eu]; exact hN)
      rw [eu] at this
      exact this
  · intro e1 nz
    exact gx_opr_sim hf e1 i36 (by decide) hh hW (fun _ _ z => absurd z nz) KB
theorem gx_ev_sim {P : gm_P} (hP : gx_P P x_kinds x_values x_types x_operands x_targets) : ∀ d, gx_IH post x_typeDraft x_typeCount x_count x_wrongAt x_keptPlace x_runVerdict x_runBlame x_result x_named x_kinds x_values x_ends x_types x_operands x_targets (gm_ev P d) := by
  intro d
  have c36 : gm_cn P ≤ 36 := hP.1
  induction d with
  | zero =>
    intro h i w s out D fc H
    exact absurd H (by simp [gm_ev])
  | succ d ih =>
    intro h i w s out D fc H hh hH hF hm ht hw K0 KB
    simp only [gm_ev] at H
    obtain ⟨hi, H⟩ := gm_if_e H
    obtain ⟨⟨r1, r2, r3, r4⟩, H⟩ := gm_tick_e H
    have H0 : gx_H (gm_tk s) D := hH
    have i36 : i < 36 := by omega
    by_cases hT : 40 ≤ gm_T (gm_tk s)
    · rw [if_pos hT] at H
      injection H with H
      subst H
      refine gx_t0 r1 r3 (by omega) hH hF hm (gx_bLong H0 hT) ?_
      intro D' hE N hN
      have eu : gm_u (gm_tk s) = gm_u s + 1 := rfl
      exact gx_halt (by omega) hE.1 (KB (show (5 : Nat) ≠ 0 by decide) D' hE)
    rw [if_neg hT] at H
    have hT' : gm_T (gm_tk s) < 40 := Nat.lt_of_not_le hT
    by_cases k4 : 4 ≤ gm_kd P i
    · rw [if_neg (by omega), if_neg (by omega), if_neg (by omega), if_neg (by omega)] at H
      refine gx_t0 r1 r3 (by omega) hH hF hm (gx_bOp hP hi k4 (by omega) hF H0 hT' ht hw) ?_
      intro D' hW
      have goW : gx_go post x_typeDraft x_typeCount x_count x_wrongAt x_keptPlace x_runVerdict x_runBlame x_result x_named x_kinds x_values x_ends x_types x_operands x_targets (gm_st (gm_tk s)) D' := by
        refine gm_bd_e H ?_ ?_
        · intro v p s1 e1 H1
          refine gx_opr_sim (out := (0, v, p, s1)) ih e1 i36 (by decide) hh hW ?_ (fun z => absurd rfl z)
          intro s2 D2 o0 o1 o2 o3 o4 o5 o6 o7 o8 o9 o10
          have o1' : s1 = gm_tk s2 := o1
          subst o1'
          exact gx_rest_sim hP ih H1 hi k4 hh ⟨o2, o3, o4, o5, o6, o7, o8, o9, o10⟩ K0 KB
        · intro e1 nz
          exact gx_opr_sim ih e1 i36 (by decide) hh hW (fun _ _ z => absurd z nz) KB
      exact goW
    · have H' : (if gm_kd P i = 0 then gm_new (gm_st (gm_tk s)) (1, gm_vl P i, 0, 0, .leaf 0, .leaf 0, 0, 0, 0, 0, 0) 0
          else if gm_kd P i = 1 then gm_new (gm_st (gm_tk s)) (2, gm_vl P i, 0, 0, .leaf 1, .leaf 1, 0, 0, 0, 0, 0) 0
          else if gm_kd P i = 2 then (match gm_var (gm_st (gm_tk s)) (gm_vl P i).toNatClampNeg w with | none => none | some v => some (0, v, 0, gm_st (gm_tk s)))
          else if gm_kd P i = 3 then gm_new (gm_st (gm_tk s)) (3, 0, i, w, gm_ty P i, gm_ty P i, 0, 0, 0, 0, 0) 0 else none) = some out := by
        by_cases k0 : gm_kd P i = 0
        · rw [if_pos k0] at H ⊢; exact H
        rw [if_neg k0] at H ⊢
        by_cases k1 : gm_kd P i = 1
        · rw [if_pos k1] at H ⊢; exact H
        rw [if_neg k1] at H ⊢
        by_cases k2 : gm_kd P i = 2
        · rw [if_pos k2] at H ⊢; exact H
        rw [if_neg k2] at H ⊢
        have k3 : gm_kd P i = 3 := by omega
        rw [if_pos k3] at H ⊢
        exact H
      refine gx_t0 r1 r3 (by omega) hH hF hm (gx_bNew (s := gm_tk s) hP hi H0 hT' ht hw H') ?_
      rintro D' ⟨z, a1, a2, a3, a4, a5⟩
      have g := K0 D' z a1 (a2.trans hF) (gx_fr_A a3) a4 a5
      have eu : gm_u out.2.2.2 = gm_u (gm_tk s) := by
        by_cases k0 : gm_kd P i = 0
        · rw [if_pos k0] at H'
          exact (gm_new_same H').2.2.2
        rw [if_neg k0] at H'
        by_cases k1 : gm_kd P i = 1
        · rw [if_pos k1] at H'
          exact (gm_new_same H').2.2.2
        rw [if_neg k1] at H'
        by_cases k2 : gm_kd P i = 2
        · rw [if_pos k2] at H'
          cases hv : gm_var (gm_st (gm_tk s)) (gm_vl P i).toNatClampNeg w with
          | none => rw [hv] at H'; exact absurd H' (by simp)
          | some v => rw [hv] at H'; injection H' with H'; subst H'; rfl
        rw [if_neg k2] at H'
        exact (gm_new_same (gm_if_e H').2).2.2.2
      intro N hN
      have := g N (by rw [eu]; exact hN)
      rw [eu] at this
      exact this
end
