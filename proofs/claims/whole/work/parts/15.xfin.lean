/-! ===== 15: tokens that begin, operands that are done ===== -/
section
variable {x_typeDraft x_typeCount x_count x_wrongAt x_keptPlace x_cellCount x_scopeCount x_frameCount x_mode x_atToken x_scope x_current x_callee x_side x_ending x_faultLabel x_stepsTaken x_runVerdict x_runBlame x_result : Int32} {x_named x_kinds x_values x_ends x_types x_operands x_targets x_cellShape x_cellLabel x_cellOne x_cellTwo x_cellThree x_scopeValue x_scopeOuter x_frameKind x_frameOne x_frameTwo x_frameThree : Nat → Int32}
variable {post : SX → Prop}
theorem gx_arity {post : Int32 → Prop} {k : Nat} (hk : k < 12) (P : post (nI (gs_ar k))) : wpX_arity post (nI k) :=
  br_f (nI_pos (by omega)) (br_f (nI_nlt (b := k) (a := 11) (by omega) (by decide)) (pk_eq k 0 (fun z => by subst z; exact P) (fun z0 => pk_eq k 1 (fun z => by subst z; exact P) (fun z1 => pk_eq k 2 (fun z => by subst z; exact P) (fun z2 => pk_eq k 3 (fun z => by subst z; exact P) (fun z3 => pk_eq k 4 (fun z => by subst z; exact P) (fun z4 => pk_eq k 5 (fun z => by subst z; exact P) (fun z5 => pk_eq k 6 (fun z => by subst z; exact P) (fun z6 => pk_eq k 7 (fun z => by subst z; exact P) (fun z7 => pk_eq k 8 (fun z => by subst z; exact P) (fun z8 => pk_eq k 9 (fun z => by subst z; exact P) (fun z9 => pk_eq k 10 (fun z => by subst z; exact P) (fun z10 => pk_eq k 11 (fun z => by subst z; exact P) (fun z11 => trivial))))))))))))))
def gx_setfc (D : gx_D) (x : Int32) : gx_D := match D with | (x_cellCount, x_scopeCount, x_frameCount, x_mode, x_atToken, x_scope, x_current, x_callee, x_side, x_ending, x_faultLabel, x_stepsTaken, x_cellShape, x_cellLabel, x_cellOne, x_cellTwo, x_cellThree, x_scopeValue, x_scopeOuter, x_frameKind, x_frameOne, x_frameTwo, x_frameThree) => (x_cellCount, x_scopeCount, x, x_mode, x_atToken, x_scope, x_current, x_callee, x_side, x_ending, x_faultLabel, x_stepsTaken, x_cellShape, x_cellLabel, x_cellOne, x_cellTwo, x_cellThree, x_scopeValue, x_scopeOuter, x_frameKind, x_frameOne, x_frameTwo, x_frameThree)
theorem gx_resumeOp {D : gx_D} {fc i k : Nat} {w hd : Int32} {C : gx_D → Prop} (hi : i < 36) (hk : k < 3) (hf : fc < 32767) (hF : gx_fc D = nI (fc + 1)) (f0 : (gx_fr D fc).1 = nI (3 * i + k)) (f1 : (gx_fr D fc).2.1 = w) (f2 : (gx_fr D fc).2.2.1 = hd) (hM : gx_M (fun P X => wpX_finishOperand P X (nI i) (nI k) w hd) x_typeDraft x_typeCount x_count x_wrongAt x_keptPlace x_runVerdict x_runBlame x_result x_named x_kinds x_values x_ends x_types x_operands x_targets (gx_setfc D (nI fc)) C) : gx_M wpX_resumeFrame x_typeDraft x_typeCount x_count x_wrongAt x_keptPlace x_runVerdict x_runBlame x_result x_named x_kinds x_values x_ends x_types x_operands x_targets D C := by
  intro P HP
  obtain ⟨x_cellCount, x_scopeCount, x_frameCount, x_mode, x_atToken, x_scope, x_current, x_callee, x_side, x_ending, x_faultLabel, x_stepsTaken, x_cellShape, x_cellLabel, x_cellOne, x_cellTwo, x_cellThree, x_scopeValue, x_scopeOuter, x_frameKind, x_frameOne, x_frameTwo, x_frameThree⟩ := D
  have hF' : x_frameCount = nI (fc + 1) := hF
  subst hF'
  have e0 : x_frameKind fc = nI (3 * i + k) := f0
  have e1 : x_frameOne fc = w := f1
  have e2 : x_frameTwo fc = hd := f2
  have vin : vp_in (nI fc) 32768 := vp_in_nI (by omega) (by decide)
  refine br_f (nI_ne0 (by omega) (by omega)) (nm_r (nI_pred fc) ?_)
  rw [nI_clamp (show fc < 2 ^ 31 by omega), e0, e1, e2]
  have nm1 : ¬ nI (3 * i + k) = -1 := by
    intro z
    have := congrArg Int32.toInt z
    rw [nI_toInt (by omega)] at this
    have m1 : (-1 : Int32).toInt = -1 := by decide
    omega
  have d3 : nI (3 * i + k) / 3 = nI i := by
    rw [show (3 : Int32) = nI 3 from rfl, pk_div (by omega) (by decide) (by decide)]
    exact congrArg nI (by omega)
  have r3 : nI (3 * i + k) - nI (3 * i + k) / 3 * 3 = nI k := by
    rw [show (3 : Int32) = nI 3 from rfl, pk_rem (by omega) (by decide) (by decide)]
    exact congrArg nI (by omega)
  refine And.intro vin (nm_e (And.intro vin (nm_e (And.intro vin (nm_e (br_f nm1 (And.intro (by decide) (And.intro (by decide) ?_))))))))
  rw [r3, d3]
  refine hM _ ?_
  intro D' c
  have := HP D' c
  obtain ⟨x_cellCount, x_scopeCount, x_frameCount, x_mode, x_atToken, x_scope, x_current, x_callee, x_side, x_ending, x_faultLabel, x_stepsTaken, x_cellShape, x_cellLabel, x_cellOne, x_cellTwo, x_cellThree, x_scopeValue, x_scopeOuter, x_frameKind, x_frameOne, x_frameTwo, x_frameThree⟩ := D'
  exact this
theorem gx_finTake {P : gm_P} {s : gm_S} {D : gx_D} {i : Nat} {w hd : Int32} (hP : gx_P P x_kinds x_values x_types x_operands x_targets) (hi : i < gm_cn P) (hk : gm_kd P i = 9 ∨ gm_kd P i = 10) (hH : gx_H s D) :
    gx_M (fun P X => wpX_finishOperand P X (nI i) (nI 0) w hd) x_typeDraft x_typeCount x_count x_wrongAt x_keptPlace x_runVerdict x_runBlame x_result x_named x_kinds x_values x_ends x_types x_operands x_targets D (fun D' => gx_H s D' ∧ gx_fc D' = gx_fc D ∧ (∀ j, gx_fr D' j = gx_fr D j) ∧ gx_mode D' = 3 ∧ gx_sid D' = nI (gm_kd P i - 9) ∧ gx_cur D' = gx_cur D) := by
  intro post HP
  obtain ⟨c36, hP⟩ := hP
  obtain ⟨p1, p2, p3, p4, p5, p6, p7⟩ := hP i hi
  obtain ⟨x_cellCount, x_scopeCount, x_frameCount, x_mode, x_atToken, x_scope, x_current, x_callee, x_side, x_ending, x_faultLabel, x_stepsTaken, x_cellShape, x_cellLabel, x_cellOne, x_cellTwo, x_cellThree, x_scopeValue, x_scopeOuter, x_frameKind, x_frameOne, x_frameTwo, x_frameThree⟩ := D
  obtain ⟨h1, h4, h5, h6, h7, h8⟩ := hH
  refine And.intro (vp_in_nI (by omega) (by decide)) ?_
  rw [nI_clamp (show i < 2 ^ 31 by omega), p1]
  refine nm_e ?_
  have fin : wX_finishOperand_22 post (nI (gm_kd P i)) x_typeDraft x_typeCount x_count x_wrongAt x_keptPlace x_cellCount x_scopeCount x_frameCount x_mode x_atToken x_scope x_current x_callee x_side x_ending x_faultLabel x_stepsTaken x_runVerdict x_runBlame x_result x_named x_kinds x_values x_ends x_types x_operands x_targets x_cellShape x_cellLabel x_cellOne x_cellTwo x_cellThree x_scopeValue x_scopeOuter x_frameKind x_frameOne x_frameTwo x_frameThree 32768 32768 32768 32768 := by
    refine nm_r (e' := nI (gm_kd P i - 9)) (pk_sub (b := 9) (by omega)) ?_
    exact HP (x_cellCount, x_scopeCount, x_frameCount, 3, x_atToken, x_scope, x_current, x_callee, nI (gm_kd P i - 9), x_ending, x_faultLabel, x_stepsTaken, x_cellShape, x_cellLabel, x_cellOne, x_cellTwo, x_cellThree, x_scopeValue, x_scopeOuter, x_frameKind, x_frameOne, x_frameTwo, x_frameThree) ⟨⟨h1, h4, h5, h6, h7, h8⟩, rfl, fun _ => rfl, rfl, rfl, rfl⟩
  refine pk_eq (gm_kd P i) 9 (fun _ => fin) (fun z => pk_eq (gm_kd P i) 10 (fun _ => fin) (fun z' => by omega))
theorem gx_finSame {P : gm_P} {s : gm_S} {D : gx_D} {i k : Nat} {w hd : Int32} (hP : gx_P P x_kinds x_values x_types x_operands x_targets) (hi : i < gm_cn P) (hk : gm_kd P i = 11 ∨ gm_kd P i = 5 ∧ 0 < k) (hk3 : k < 3) (hH : gx_H s D) :
    gx_M (fun P X => wpX_finishOperand P X (nI i) (nI k) w hd) x_typeDraft x_typeCount x_count x_wrongAt x_keptPlace x_runVerdict x_runBlame x_result x_named x_kinds x_values x_ends x_types x_operands x_targets D (fun D' => D' = D) := by
  intro post HP
  obtain ⟨c36, hP⟩ := hP
  obtain ⟨p1, p2, p3, p4, p5, p6, p7⟩ := hP i hi
  obtain ⟨x_cellCount, x_scopeCount, x_frameCount, x_mode, x_atToken, x_scope, x_current, x_callee, x_side, x_ending, x_faultLabel, x_stepsTaken, x_cellShape, x_cellLabel, x_cellOne, x_cellTwo, x_cellThree, x_scopeValue, x_scopeOuter, x_frameKind, x_frameOne, x_frameTwo, x_frameThree⟩ := D
  refine And.intro (vp_in_nI (by omega) (by decide)) ?_
  rw [nI_clamp (show i < 2 ^ 31 by omega), p1]
  refine nm_e ?_
  have ar : gs_ar (gm_kd P i) ≠ 2 := by
    rcases hk with c | c
    · rw [c]; decide
    · rw [c.1]; decide
  have al : gs_ar (gm_kd P i) < 4 := by
    rcases hk with c | c
    · rw [c]; decide
    · rw [c.1]; decide
  have fin : wX_finishOperand_82 post (nI i) (nI k) w hd (nI (gm_kd P i)) x_typeDraft x_typeCount x_count x_wrongAt x_keptPlace x_cellCount x_scopeCount x_frameCount x_mode x_atToken x_scope x_current x_callee x_side x_ending x_faultLabel x_stepsTaken x_runVerdict x_runBlame x_result x_named x_kinds x_values x_ends x_types x_operands x_targets x_cellShape x_cellLabel x_cellOne x_cellTwo x_cellThree x_scopeValue x_scopeOuter x_frameKind x_frameOne x_frameTwo x_frameThree 32768 32768 32768 32768 := by
    refine gx_arity p2 (pk_eq (gs_ar (gm_kd P i)) 2 (fun z => absurd z ar) (fun _ => ?_))
    refine pk_eq (gm_kd P i) 4 (fun z => by omega) (fun _ => ?_)
    refine gx_arity p2 (pk_eq (gs_ar (gm_kd P i)) 2 (fun z => absurd z ar) (fun _ => ?_))
    exact HP _ rfl
  refine pk_eq (gm_kd P i) 9 (fun z => by omega) (fun _ => pk_eq (gm_kd P i) 10 (fun z => by omega) (fun _ => pk_eq (gm_kd P i) 5 (fun z => pk_eq k 0 (fun z' => by omega) (fun _ => fin)) (fun _ => fin)))
/-- D' waits for operand k of i -/
def gx_W (P : gm_P) (s : gm_S) (D D' : gx_D) (fc i k w : Nat) (hd : Int32) : Prop :=
  gx_H s D' ∧ gx_A fc D D' ∧ gx_mode D' = 0 ∧ gx_att D' = nI (gm_op P i k) ∧ gx_scp D' = nI w ∧ ∃ fc', gx_fc D' = nI fc' ∧ gx_O fc fc' (3 * i + k) (nI w) hd (gm_ty P (gm_op P i k)) (gm_tg P i k) D'
theorem gx_startM {P : gm_P} {s : gm_S} {D : gx_D} {fc i k w : Nat} {hd : Int32} (hP : gx_P P x_kinds x_values x_types x_operands x_targets) (hi : i < gm_cn P) (hk : k < gs_ar (gm_kd P i)) (hk3 : k < 3) (hf : fc + 1 < 32768) (hF : gx_fc D = nI fc) (hH : gx_H s D) :
    gx_M (fun P X => wpX_startOperand P X (nI i) (nI k) (nI w) hd) x_typeDraft x_typeCount x_count x_wrongAt x_keptPlace x_runVerdict x_runBlame x_result x_named x_kinds x_values x_ends x_types x_operands x_targets D (fun D' => gx_W P s D D' fc i k w hd) := by
  intro post HP
  obtain ⟨c36, hP⟩ := hP
  obtain ⟨p1, p2, p3, p4, p5, p6, p7⟩ := hP i hi
  obtain ⟨o1, o2, o3, o4⟩ := p7 k hk
  obtain ⟨q1, q2, q3, q4, q5, q6, q7⟩ := hP _ o2
  obtain ⟨x_cellCount, x_scopeCount, x_frameCount, x_mode, x_atToken, x_scope, x_current, x_callee, x_side, x_ending, x_faultLabel, x_stepsTaken, x_cellShape, x_cellLabel, x_cellOne, x_cellTwo, x_cellThree, x_scopeValue, x_scopeOuter, x_frameKind, x_frameOne, x_frameTwo, x_frameThree⟩ := D
  have hF' : x_frameCount = nI fc := hF
  subst hF'
  obtain ⟨h1, h4, h5, h6, h7, h8⟩ := hH
  refine gx_startOperand hf (by omega) hk3 (by omega) o1 q4 o3 q5 o4 ?_
  intro fc' fk f1 f2 f3 g1 g2 g3 g4 g5 g6
  refine HP (x_cellCount, x_scopeCount, nI fc', 0, nI (gm_op P i k), nI w, x_current, x_callee, x_side, x_ending, x_faultLabel, x_stepsTaken, x_cellShape, x_cellLabel, x_cellOne, x_cellTwo, x_cellThree, x_scopeValue, x_scopeOuter, fk, f1, f2, f3) ⟨⟨h1, h4, h5, h6, h7, h8⟩, ?_, rfl, rfl, rfl, fc', rfl, g1, g2, g3, g4, ?_⟩
  · intro j hj
    obtain ⟨r1, r2, r3, r4⟩ := g6 j hj
    show (fk j, f1 j, f2 j, f3 j) = (x_frameKind j, x_frameOne j, x_frameTwo j, x_frameThree j)
    rw [r1, r2, r3, r4]
  · intro z
    obtain ⟨r0, r1, r2, r3, r4⟩ := g5 z
    refine ⟨r0, ?_⟩
    show (fk (fc + 1), f1 (fc + 1), f2 (fc + 1), f3 (fc + 1)) = _
    rw [r1, r2, r3, r4]
theorem gx_finIf {P : gm_P} {s : gm_S} {D : gx_D} {fc i v w : Nat} {hd : Int32} (hP : gx_P P x_kinds x_values x_types x_operands x_targets) (hi : i < gm_cn P) (hk : gm_kd P i = 5) (hf : fc + 1 < 32768) (hF : gx_fc D = nI fc) (hH : gx_H s D) (hc : gx_cur D = nI (gm_xv v)) (hv : v / 8 < gm_n s ∧ gm_ck (gm_h s (v / 8)) < 3) :
    gx_M (fun P X => wpX_finishOperand P X (nI i) (nI 0) (nI w) hd) x_typeDraft x_typeCount x_count x_wrongAt x_keptPlace x_runVerdict x_runBlame x_result x_named x_kinds x_values x_ends x_types x_operands x_targets D (fun D' => gx_W P s D D' fc i (if gm_ci (gm_h s (v / 8)) = 0 then 2 else 1) w 0) := by
  intro post HP
  have hP0 := hP
  have hH0 := hH
  obtain ⟨c36, hP⟩ := hP
  obtain ⟨p1, p2, p3, p4, p5, p6, p7⟩ := hP i hi
  have m2 : gx_M (fun P X => wpX_startOperand P X (nI i) (nI 2) (nI w) 0) x_typeDraft x_typeCount x_count x_wrongAt x_keptPlace x_runVerdict x_runBlame x_result x_named x_kinds x_values x_ends x_types x_operands x_targets D (fun D' => gx_W P s D D' fc i 2 w 0) := gx_startM hP0 hi (by rw [hk]; decide) (by decide) hf hF hH
  have m1 : gx_M (fun P X => wpX_startOperand P X (nI i) (nI 1) (nI w) 0) x_typeDraft x_typeCount x_count x_wrongAt x_keptPlace x_runVerdict x_runBlame x_result x_named x_kinds x_values x_ends x_types x_operands x_targets D (fun D' => gx_W P s D D' fc i 1 w 0) := gx_startM hP0 hi (by rw [hk]; decide) (by decide) hf hF hH
  obtain ⟨x_cellCount, x_scopeCount, x_frameCount, x_mode, x_atToken, x_scope, x_current, x_callee, x_side, x_ending, x_faultLabel, x_stepsTaken, x_cellShape, x_cellLabel, x_cellOne, x_cellTwo, x_cellThree, x_scopeValue, x_scopeOuter, x_frameKind, x_frameOne, x_frameTwo, x_frameThree⟩ := D
  have hc' : x_current = nI (gm_xv v) := hc
  subst hc'
  obtain ⟨⟨h1, h2, h3⟩, h4, h5, h6, h7, h8⟩ := hH
  have cv := (h3 _ hv.1).2.2.1 hv.2
  refine And.intro (vp_in_nI (by omega) (by decide)) ?_
  rw [nI_clamp (show i < 2 ^ 31 by omega), p1, hk]
  refine nm_e (br_f (show ¬ nI 5 = 9 by decide) (br_f (show ¬ nI 5 = 10 by decide) (br_t rfl (br_t rfl ?_))))
  rw [gx_shr (by omega), nI_clamp (show v / 8 < 2 ^ 31 by omega), cv]
  refine And.intro (vp_in_nI (by omega) (by decide)) (br_c (fun z => ?_) (fun z => ?_))
  · rw [if_pos z] at HP
    refine m2 _ ?_
    intro D' c
    have := HP D' c
    obtain ⟨x_cellCount, x_scopeCount, x_frameCount, x_mode, x_atToken, x_scope, x_current, x_callee, x_side, x_ending, x_faultLabel, x_stepsTaken, x_cellShape, x_cellLabel, x_cellOne, x_cellTwo, x_cellThree, x_scopeValue, x_scopeOuter, x_frameKind, x_frameOne, x_frameTwo, x_frameThree⟩ := D'
    exact this
  · rw [if_neg z] at HP
    refine m1 _ ?_
    intro D' c
    have := HP D' c
    obtain ⟨x_cellCount, x_scopeCount, x_frameCount, x_mode, x_atToken, x_scope, x_current, x_callee, x_side, x_ending, x_faultLabel, x_stepsTaken, x_cellShape, x_cellLabel, x_cellOne, x_cellTwo, x_cellThree, x_scopeValue, x_scopeOuter, x_frameKind, x_frameOne, x_frameTwo, x_frameThree⟩ := D'
    exact this
theorem gx_finTwo {P : gm_P} {s : gm_S} {D : gx_D} {fc i w : Nat} {hd : Int32} (hP : gx_P P x_kinds x_values x_types x_operands x_targets) (hi : i < gm_cn P) (hk : gm_kd P i = 4 ∨ gm_kd P i = 6 ∨ gm_kd P i = 7 ∨ gm_kd P i = 8) (hf : fc + 1 < 32768) (hF : gx_fc D = nI fc) (hH : gx_H s D) :
    gx_M (fun P X => wpX_finishOperand P X (nI i) (nI 0) (nI w) hd) x_typeDraft x_typeCount x_count x_wrongAt x_keptPlace x_runVerdict x_runBlame x_result x_named x_kinds x_values x_ends x_types x_operands x_targets D (fun D' => gx_W P s D D' fc i 1 w (gx_cur D)) := by
  intro post HP
  have hP0 := hP
  obtain ⟨c36, hP⟩ := hP
  obtain ⟨p1, p2, p3, p4, p5, p6, p7⟩ := hP i hi
  have ar : gs_ar (gm_kd P i) = 2 := by
    rcases hk with c | c | c | c <;> rw [c] <;> rfl
  have m1 : gx_M (fun P X => wpX_startOperand P X (nI i) (nI 1) (nI w) (gx_cur D)) x_typeDraft x_typeCount x_count x_wrongAt x_keptPlace x_runVerdict x_runBlame x_result x_named x_kinds x_values x_ends x_types x_operands x_targets D (fun D' => gx_W P s D D' fc i 1 w (gx_cur D)) := gx_startM hP0 hi (by rw [ar]; decide) (by decide) hf hF hH
  obtain ⟨x_cellCount, x_scopeCount, x_frameCount, x_mode, x_atToken, x_scope, x_current, x_callee, x_side, x_ending, x_faultLabel, x_stepsTaken, x_cellShape, x_cellLabel, x_cellOne, x_cellTwo, x_cellThree, x_scopeValue, x_scopeOuter, x_frameKind, x_frameOne, x_frameTwo, x_frameThree⟩ := D
  refine And.intro (vp_in_nI (by omega) (by decide)) ?_
  rw [nI_clamp (show i < 2 ^ 31 by omega), p1]
  refine nm_e (pk_eq (gm_kd P i) 9 (fun z => by omega) (fun _ => pk_eq (gm_kd P i) 10 (fun z => by omega) (fun _ => pk_eq (gm_kd P i) 5 (fun z => by omega) (fun _ => ?_))))
  refine gx_arity p2 ?_
  rw [ar]
  refine br_t rfl (br_t rfl (m1 _ ?_))
  intro D' c
  have := HP D' c
  obtain ⟨x_cellCount, x_scopeCount, x_frameCount, x_mode, x_atToken, x_scope, x_current, x_callee, x_side, x_ending, x_faultLabel, x_stepsTaken, x_cellShape, x_cellLabel, x_cellOne, x_cellTwo, x_cellThree, x_scopeValue, x_scopeOuter, x_frameKind, x_frameOne, x_frameTwo, x_frameThree⟩ := D'
  exact this
theorem gx_finApp {P : gm_P} {s : gm_S} {D : gx_D} {i : Nat} {w hd : Int32} (hP : gx_P P x_kinds x_values x_types x_operands x_targets) (hi : i < gm_cn P) (hk : gm_kd P i = 4) (hH : gx_H s D) :
    gx_M (fun P X => wpX_finishOperand P X (nI i) (nI 1) w hd) x_typeDraft x_typeCount x_count x_wrongAt x_keptPlace x_runVerdict x_runBlame x_result x_named x_kinds x_values x_ends x_types x_operands x_targets D (fun D' => gx_H s D' ∧ gx_fc D' = gx_fc D ∧ (∀ j, gx_fr D' j = gx_fr D j) ∧ gx_mode D' = 2 ∧ gx_cal D' = hd ∧ gx_cur D' = gx_cur D) := by
  intro post HP
  obtain ⟨c36, hP⟩ := hP
  obtain ⟨p1, p2, p3, p4, p5, p6, p7⟩ := hP i hi
  obtain ⟨x_cellCount, x_scopeCount, x_frameCount, x_mode, x_atToken, x_scope, x_current, x_callee, x_side, x_ending, x_faultLabel, x_stepsTaken, x_cellShape, x_cellLabel, x_cellOne, x_cellTwo, x_cellThree, x_scopeValue, x_scopeOuter, x_frameKind, x_frameOne, x_frameTwo, x_frameThree⟩ := D
  obtain ⟨h1, h4, h5, h6, h7, h8⟩ := hH
  refine And.intro (vp_in_nI (by omega) (by decide)) ?_
  rw [nI_clamp (show i < 2 ^ 31 by omega), p1, hk]
  refine nm_e (br_f (show ¬ nI 4 = 9 by decide) (br_f (show ¬ nI 4 = 10 by decide) (br_f (show ¬ nI 4 = 5 by decide) ?_)))
  refine gx_arity (by decide) (br_t rfl (br_f (show ¬ nI 1 = 0 by decide) (br_t rfl ?_)))
  exact HP (x_cellCount, x_scopeCount, x_frameCount, 2, x_atToken, x_scope, x_current, hd, x_side, x_ending, x_faultLabel, x_stepsTaken, x_cellShape, x_cellLabel, x_cellOne, x_cellTwo, x_cellThree, x_scopeValue, x_scopeOuter, x_frameKind, x_frameOne, x_frameTwo, x_frameThree) ⟨⟨h1, h4, h5, h6, h7, h8⟩, rfl, fun _ => rfl, rfl, rfl, rfl⟩
end
