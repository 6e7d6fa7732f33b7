/-! ===== 14: X's methods of a turn ===== -/
section
variable {x_typeDraft x_typeCount x_count x_wrongAt x_keptPlace x_cellCount x_scopeCount x_frameCount x_mode x_atToken x_scope x_current x_callee x_side x_ending x_faultLabel x_stepsTaken x_runVerdict x_runBlame x_result : Int32} {x_named x_kinds x_values x_ends x_types x_operands x_targets x_cellShape x_cellLabel x_cellOne x_cellTwo x_cellThree x_scopeValue x_scopeOuter x_frameKind x_frameOne x_frameTwo x_frameThree : Nat → Int32}
variable {post : SX → Prop}
theorem gx_pushCast {fc : Nat} {f t : Lean.RArray Nat} {l : Int32} (hf : fc < 32768) (tf : gd_TY f) (tt : gd_TY t)
    (P : ∀ fc' fk f1 f2 f3, (gd_en f = gd_en t → fc' = fc) → (gd_en f ≠ gd_en t → fc' = fc + 1 ∧ fk fc = -1 ∧ f1 fc = nI (gd_en f) ∧ f2 fc = nI (gd_en t) ∧ f3 fc = l) → (∀ j, j < fc → fk j = x_frameKind j ∧ f1 j = x_frameOne j ∧ f2 j = x_frameTwo j ∧ f3 j = x_frameThree j) → post (x_typeDraft, x_typeCount, x_count, x_wrongAt, x_keptPlace, x_cellCount, x_scopeCount, nI fc', x_mode, x_atToken, x_scope, x_current, x_callee, x_side, x_ending, x_faultLabel, x_stepsTaken, x_runVerdict, x_runBlame, x_result, x_named, x_kinds, x_values, x_ends, x_types, x_operands, x_targets, x_cellShape, x_cellLabel, x_cellOne, x_cellTwo, x_cellThree, x_scopeValue, x_scopeOuter, fk, f1, f2, f3, 32768, 32768, 32768, 32768)) :
    wpX_pushFrame post (x_typeDraft, x_typeCount, x_count, x_wrongAt, x_keptPlace, x_cellCount, x_scopeCount, nI fc, x_mode, x_atToken, x_scope, x_current, x_callee, x_side, x_ending, x_faultLabel, x_stepsTaken, x_runVerdict, x_runBlame, x_result, x_named, x_kinds, x_values, x_ends, x_types, x_operands, x_targets, x_cellShape, x_cellLabel, x_cellOne, x_cellTwo, x_cellThree, x_scopeValue, x_scopeOuter, x_frameKind, x_frameOne, x_frameTwo, x_frameThree, 32768, 32768, 32768, 32768) (-1) (nI (gd_en f)) (nI (gd_en t)) l := by
  by_cases e : gd_en f = gd_en t
  · rw [e]
    exact gx_pushSkip (P fc x_frameKind x_frameOne x_frameTwo x_frameThree (fun _ => rfl) (fun z => absurd e z) (fun j hj => ⟨rfl, rfl, rfl, rfl⟩))
  · refine gx_pushFrame hf (fun _ z => e ((gx_enI tf tt).mp z)) ?_
    refine P (fc + 1) (upd x_frameKind fc (-1)) (upd x_frameOne fc (nI (gd_en f))) (upd x_frameTwo fc (nI (gd_en t))) (upd x_frameThree fc l) (fun z => absurd z e) (fun _ => ⟨rfl, pk_us, pk_us, pk_us, pk_us⟩) (fun j hj => ?_)
    rw [pk_un (by omega), pk_un (by omega), pk_un (by omega), pk_un (by omega)]
    exact ⟨rfl, rfl, rfl, rfl⟩
theorem gx_newScope {post : Int32 → SX → Prop} {m : Nat} (hm : m < 64) {p0 p1 : Int32} (P : post (nI m) (x_typeDraft, x_typeCount, x_count, x_wrongAt, x_keptPlace, x_cellCount, nI (m + 1), x_frameCount, x_mode, x_atToken, x_scope, x_current, x_callee, x_side, x_ending, x_faultLabel, x_stepsTaken, x_runVerdict, x_runBlame, x_result, x_named, x_kinds, x_values, x_ends, x_types, x_operands, x_targets, x_cellShape, x_cellLabel, x_cellOne, x_cellTwo, x_cellThree, upd x_scopeValue m p0, upd x_scopeOuter m p1, x_frameKind, x_frameOne, x_frameTwo, x_frameThree, 32768, 32768, 32768, 32768)) : wpX_newScope post (x_typeDraft, x_typeCount, x_count, x_wrongAt, x_keptPlace, x_cellCount, nI m, x_frameCount, x_mode, x_atToken, x_scope, x_current, x_callee, x_side, x_ending, x_faultLabel, x_stepsTaken, x_runVerdict, x_runBlame, x_result, x_named, x_kinds, x_values, x_ends, x_types, x_operands, x_targets, x_cellShape, x_cellLabel, x_cellOne, x_cellTwo, x_cellThree, x_scopeValue, x_scopeOuter, x_frameKind, x_frameOne, x_frameTwo, x_frameThree, 32768, 32768, 32768, 32768) p0 p1 := by
  have c : (nI m).toNatClampNeg = m := nI_clamp (by omega)
  have v : vp_in (nI m) 64 := vp_in_nI hm (by decide)
  exact nm_r (nI_1 m) (And.intro v (nm_r (congrArg (fun k => upd x_scopeValue k p0) c) (And.intro v (nm_r (congrArg (fun k => upd x_scopeOuter k p1) c) P))))
theorem gx_takeBase {s : gm_S} {D : gx_D} {v side : Nat} (hH : gx_H s D) (hm : gx_mode D = 3) (hs : gx_sid D = nI side) (h2 : side < 2) (hc : gx_cur D = nI (gm_xv v)) (hv : v / 8 < gm_n s) (hk : gm_ck (gm_h s (v / 8)) = 5) :
    gx_M wpX_takeOnce x_typeDraft x_typeCount x_count x_wrongAt x_keptPlace x_runVerdict x_runBlame x_result x_named x_kinds x_values x_ends x_types x_operands x_targets D (fun D' => gx_H s D' ∧ gx_fc D' = gx_fc D ∧ (∀ j, gx_fr D' j = gx_fr D j) ∧ gx_mode D' = 1 ∧ gx_cur D' = nI (gm_xv (if side = 0 then gm_ca (gm_h s (v / 8)) else gm_cb (gm_h s (v / 8))))) := by
  intro P HP
  obtain ⟨x_cellCount, x_scopeCount, x_frameCount, x_mode, x_atToken, x_scope, x_current, x_callee, x_side, x_ending, x_faultLabel, x_stepsTaken, x_cellShape, x_cellLabel, x_cellOne, x_cellTwo, x_cellThree, x_scopeValue, x_scopeOuter, x_frameKind, x_frameOne, x_frameTwo, x_frameThree⟩ := D
  have hm' : x_mode = 3 := hm
  have hs' : x_side = nI side := hs
  have hc' : x_current = nI (gm_xv v) := hc
  subst hm' hs' hc'
  have hH0 := hH
  obtain ⟨⟨h1, h2', h3⟩, h4, h5, h6, h7, h8⟩ := hH
  have cv := (h3 _ hv).2.2.2.2.1 hk
  have vin : vp_in (nI (v / 8)) 8192 := vp_in_nI (by omega) (by decide)
  refine nm_r (gx_shr (by omega)) ?_
  rw [nI_clamp (show v / 8 < 2 ^ 31 by omega), cv.1, cv.2.1, cv.2.2]
  refine And.intro vin (nm_e (br_t rfl ?_))
  refine pk_eq side 0 (fun z => ?_) (fun z => ?_)
  · refine And.intro vin (nm_e ?_)
    exact HP (x_cellCount, x_scopeCount, x_frameCount, 1, x_atToken, x_scope, nI (gm_xv (gm_ca (gm_h s (v / 8)))), x_callee, nI side, x_ending, x_faultLabel, x_stepsTaken, x_cellShape, x_cellLabel, x_cellOne, x_cellTwo, x_cellThree, x_scopeValue, x_scopeOuter, x_frameKind, x_frameOne, x_frameTwo, x_frameThree) ⟨⟨⟨h1, h2', h3⟩, h4, h5, h6, h7, h8⟩, rfl, fun _ => rfl, rfl, by rw [if_pos z]; rfl⟩
  · refine And.intro vin (nm_e ?_)
    exact HP (x_cellCount, x_scopeCount, x_frameCount, 1, x_atToken, x_scope, nI (gm_xv (gm_cb (gm_h s (v / 8)))), x_callee, nI side, x_ending, x_faultLabel, x_stepsTaken, x_cellShape, x_cellLabel, x_cellOne, x_cellTwo, x_cellThree, x_scopeValue, x_scopeOuter, x_frameKind, x_frameOne, x_frameTwo, x_frameThree) ⟨⟨⟨h1, h2', h3⟩, h4, h5, h6, h7, h8⟩, rfl, fun _ => rfl, rfl, by rw [if_neg z]; rfl⟩
theorem gx_takeStep {s : gm_S} {D : gx_D} {v side fc : Nat} (hf : fc < 32767) (hH : gx_H s D) (hF : gx_fc D = nI fc) (hm : gx_mode D = 3) (hs : gx_sid D = nI side) (h2 : side < 2) (hc : gx_cur D = nI (gm_xv v)) (hv : v / 8 < gm_n s) (hk : gm_ck (gm_h s (v / 8)) = 6) :
    gx_M wpX_takeOnce x_typeDraft x_typeCount x_count x_wrongAt x_keptPlace x_runVerdict x_runBlame x_result x_named x_kinds x_values x_ends x_types x_operands x_targets D (fun D' => gx_H s D' ∧ gx_A fc D D' ∧ gx_mode D' = 3 ∧ gx_sid D' = nI side ∧ gx_cur D' = nI (gm_xv (gm_ca (gm_h s (v / 8)))) ∧ gm_PB (gm_cp (gm_h s (v / 8))) ∧ ∃ fc', gx_fc D' = nI fc' ∧ (gd_en (if side = 0 then gd_lf (gm_cf (gm_h s (v / 8))) else gd_rt (gm_cf (gm_h s (v / 8)))) = gd_en (if side = 0 then gd_lf (gm_ct (gm_h s (v / 8))) else gd_rt (gm_ct (gm_h s (v / 8)))) → fc' = fc) ∧
      (gd_en (if side = 0 then gd_lf (gm_cf (gm_h s (v / 8))) else gd_rt (gm_cf (gm_h s (v / 8)))) ≠ gd_en (if side = 0 then gd_lf (gm_ct (gm_h s (v / 8))) else gd_rt (gm_ct (gm_h s (v / 8)))) → fc' = fc + 1 ∧ gx_fr D' fc = (-1, nI (gd_en (if side = 0 then gd_lf (gm_cf (gm_h s (v / 8))) else gd_rt (gm_cf (gm_h s (v / 8))))), nI (gd_en (if side = 0 then gd_lf (gm_ct (gm_h s (v / 8))) else gd_rt (gm_ct (gm_h s (v / 8))))), gm_lb (gm_cp (gm_h s (v / 8)))))) := by
  intro P HP
  obtain ⟨x_cellCount, x_scopeCount, x_frameCount, x_mode, x_atToken, x_scope, x_current, x_callee, x_side, x_ending, x_faultLabel, x_stepsTaken, x_cellShape, x_cellLabel, x_cellOne, x_cellTwo, x_cellThree, x_scopeValue, x_scopeOuter, x_frameKind, x_frameOne, x_frameTwo, x_frameThree⟩ := D
  have hm' : x_mode = 3 := hm
  have hs' : x_side = nI side := hs
  have hc' : x_current = nI (gm_xv v) := hc
  have hF' : x_frameCount = nI fc := hF
  subst hm' hs' hc' hF'
  obtain ⟨⟨h1, h2', h3⟩, h4, h5, h6, h7, h8⟩ := hH
  obtain ⟨l1, l2, l3, l4, l5, tf, tt, k, a, b, a', b', ef, et⟩ := (h3 _ hv).2.2.2.2.2 (Or.inr hk)
  have vin : vp_in (nI (v / 8)) 8192 := vp_in_nI (by omega) (by decide)
  refine nm_r (gx_shr (by omega)) ?_
  rw [nI_clamp (show v / 8 < 2 ^ 31 by omega), l1, l4, l5]
  refine And.intro vin (nm_e (br_f (gm_lb_ne l2) (And.intro vin (nm_e (And.intro vin (nm_e ?_))))))
  rw [ef] at tf
  rw [et] at tt
  rw [ef, et]
  have fin : ∀ f t : Lean.RArray Nat, gd_TY f → gd_TY t → f = (if side = 0 then gd_lf (gm_cf (gm_h s (v / 8))) else gd_rt (gm_cf (gm_h s (v / 8)))) → t = (if side = 0 then gd_lf (gm_ct (gm_h s (v / 8))) else gd_rt (gm_ct (gm_h s (v / 8)))) → wX_takeOnce_105 P (nI (v / 8)) (gm_lb (gm_cp (gm_h s (v / 8)))) (nI (gd_en f)) (nI (gd_en t)) x_typeDraft x_typeCount x_count x_wrongAt x_keptPlace x_cellCount x_scopeCount (nI fc) 3 x_atToken x_scope (nI (gm_xv v)) x_callee (nI side) x_ending x_faultLabel x_stepsTaken x_runVerdict x_runBlame x_result x_named x_kinds x_values x_ends x_types x_operands x_targets x_cellShape x_cellLabel x_cellOne x_cellTwo x_cellThree x_scopeValue x_scopeOuter x_frameKind x_frameOne x_frameTwo x_frameThree 32768 32768 32768 32768 := by
    intro f t tf tt ef' et'
    refine gx_pushCast (by omega) tf tt ?_
    intro fc' fk f1 f2 f3 g1 g2 g3
    dsimp only
    rw [nI_clamp (show v / 8 < 2 ^ 31 by omega), l3]
    refine And.intro vin (nm_e ?_)
    refine HP (x_cellCount, x_scopeCount, nI fc', 3, x_atToken, x_scope, nI (gm_xv (gm_ca (gm_h s (v / 8)))), x_callee, nI side, x_ending, x_faultLabel, x_stepsTaken, x_cellShape, x_cellLabel, x_cellOne, x_cellTwo, x_cellThree, x_scopeValue, x_scopeOuter, fk, f1, f2, f3) ⟨⟨⟨h1, h2', h3⟩, h4, h5, h6, h7, h8⟩, ?_, rfl, rfl, rfl, l2, fc', rfl, ?_, ?_⟩
    · intro j hj
      obtain ⟨q1, q2, q3, q4⟩ := g3 j hj
      show (fk j, f1 j, f2 j, f3 j) = (x_frameKind j, x_frameOne j, x_frameTwo j, x_frameThree j)
      rw [q1, q2, q3, q4]
    · rw [← ef', ← et']; exact g1
    · rw [← ef', ← et']
      intro z
      obtain ⟨q0, q1, q2, q3, q4⟩ := g2 z
      refine ⟨q0, ?_⟩
      show (fk fc, f1 fc, f2 fc, f3 fc) = _
      rw [q1, q2, q3, q4]
  refine pk_eq side 0 (fun z => ?_) (fun z => ?_)
  · refine gx_leftOf tf (pk_eq side 0 (fun _ => gx_leftOf tt (fin a a' (gd_TY_l tf) (gd_TY_l tt) ?_ ?_)) (fun y => absurd z y))
    · rw [if_pos z, ef]; rfl
    · rw [if_pos z, et]; rfl
  · refine gx_rightOf tf (pk_eq side 0 (fun y => absurd y z) (fun _ => gx_rightOf tt (fin b b' (gd_TY_r tf) (gd_TY_r tt) ?_ ?_)))
    · rw [if_neg z, ef]; rfl
    · rw [if_neg z, et]; rfl
theorem gx_callBase {s : gm_S} {D : gx_D} {g a fc : Nat} (h64 : gm_m s < 64) (hH : gx_H s D) (hF : gx_fc D = nI fc) (hm : gx_mode D = 2) (hg : gx_cal D = nI (gm_xv g)) (hc : gx_cur D = nI (gm_xv a)) (hv : g / 8 < gm_n s) (hk : gm_ck (gm_h s (g / 8)) = 3) :
    gx_M wpX_callOnce x_typeDraft x_typeCount x_count x_wrongAt x_keptPlace x_runVerdict x_runBlame x_result x_named x_kinds x_values x_ends x_types x_operands x_targets D (fun D' => gx_H (gm_scope s a (gm_cb (gm_h s (g / 8)))) D' ∧ gx_fc D' = nI fc ∧ gx_A fc D D' ∧ gx_mode D' = 0 ∧ gx_att D' = nI (gm_ca (gm_h s (g / 8)) + 1) ∧ gx_scp D' = nI (gm_m s)) := by
  intro P HP
  obtain ⟨x_cellCount, x_scopeCount, x_frameCount, x_mode, x_atToken, x_scope, x_current, x_callee, x_side, x_ending, x_faultLabel, x_stepsTaken, x_cellShape, x_cellLabel, x_cellOne, x_cellTwo, x_cellThree, x_scopeValue, x_scopeOuter, x_frameKind, x_frameOne, x_frameTwo, x_frameThree⟩ := D
  have hm' : x_mode = 2 := hm
  have hg' : x_callee = nI (gm_xv g) := hg
  have hc' : x_current = nI (gm_xv a) := hc
  have hF' : x_frameCount = nI fc := hF
  subst hm' hg' hc' hF'
  obtain ⟨⟨h1, h2', h3⟩, h4, h5, h6, h7, h8⟩ := hH
  subst h4
  have cv := (h3 _ hv).2.2.2.1 hk
  have vin : vp_in (nI (g / 8)) 8192 := vp_in_nI (by omega) (by decide)
  refine nm_r (gx_shr (by omega)) ?_
  rw [nI_clamp (show g / 8 < 2 ^ 31 by omega), cv.1, cv.2.1, cv.2.2]
  refine And.intro vin (nm_e (br_t rfl (And.intro vin (nm_r (nI_1 _) (And.intro vin (gx_newScope h64 ?_))))))
  refine HP (x_cellCount, nI (gm_m s + 1), nI fc, 0, nI (gm_ca (gm_h s (g / 8)) + 1), nI (gm_m s), nI (gm_xv a), nI (gm_xv g), x_side, x_ending, x_faultLabel, x_stepsTaken, x_cellShape, x_cellLabel, x_cellOne, x_cellTwo, x_cellThree, upd x_scopeValue (gm_m s) (nI (gm_xv a)), upd x_scopeOuter (gm_m s) (nI (gm_cb (gm_h s (g / 8)))), x_frameKind, x_frameOne, x_frameTwo, x_frameThree) ⟨⟨⟨h1, h2', h3⟩, rfl, ?_, h6, h7, ?_⟩, rfl, fun _ _ => rfl, rfl, rfl, rfl⟩
  · show gm_m s + 1 ≤ 64
    omega
  · intro w w0 w1
    have w1' : w < gm_m s + 1 := w1
    have eE : gm_e (gm_scope s a (gm_cb (gm_h s (g / 8)))) w = if w = gm_m s then (a, gm_cb (gm_h s (g / 8))) else gm_e s w := rfl
    rw [eE]
    by_cases c : w = gm_m s
    · subst c
      rw [if_pos rfl, pk_us, pk_us]
      exact ⟨rfl, rfl⟩
    · rw [if_neg c, pk_un c, pk_un c]
      exact h8 w w0 (by omega)
theorem gx_callStep {s : gm_S} {D : gx_D} {g a fc : Nat} {o1 : gm_O} (H : gm_cast s a (gd_lf (gm_ct (gm_h s (g / 8)))) (gd_lf (gm_cf (gm_h s (g / 8)))) (- gm_cp (gm_h s (g / 8))) = some o1) (hf : fc < 32767) (hH : gx_H s D) (hF : gx_fc D = nI fc) (hm : gx_mode D = 2) (hg : gx_cal D = nI (gm_xv g)) (hc : gx_cur D = nI (gm_xv a)) (hv : g / 8 < gm_n s) (hk : gm_ck (gm_h s (g / 8)) = 4) :
    gx_M wpX_callOnce x_typeDraft x_typeCount x_count x_wrongAt x_keptPlace x_runVerdict x_runBlame x_result x_named x_kinds x_values x_ends x_types x_operands x_targets D (fun D' => (o1.1 = 0 ∧ gx_H o1.2.2.2 D' ∧ gx_A fc D D' ∧ gx_mode D' = 2 ∧ gx_cal D' = nI (gm_xv (gm_ca (gm_h s (g / 8)))) ∧ gx_cur D' = nI (gm_xv o1.2.1) ∧ gm_PB (gm_cp (gm_h s (g / 8))) ∧ ∃ fc', gx_fc D' = nI fc' ∧ (gd_en (gd_rt (gm_cf (gm_h s (g / 8)))) = gd_en (gd_rt (gm_ct (gm_h s (g / 8)))) → fc' = fc) ∧
      (gd_en (gd_rt (gm_cf (gm_h s (g / 8)))) ≠ gd_en (gd_rt (gm_ct (gm_h s (g / 8)))) → fc' = fc + 1 ∧ gx_fr D' fc = (-1, nI (gd_en (gd_rt (gm_cf (gm_h s (g / 8))))), nI (gd_en (gd_rt (gm_ct (gm_h s (g / 8))))), gm_lb (gm_cp (gm_h s (g / 8)))))) ∨ (o1.1 ≠ 0 ∧ gx_E o1 D')) := by
  intro P HP
  obtain ⟨x_cellCount, x_scopeCount, x_frameCount, x_mode, x_atToken, x_scope, x_current, x_callee, x_side, x_ending, x_faultLabel, x_stepsTaken, x_cellShape, x_cellLabel, x_cellOne, x_cellTwo, x_cellThree, x_scopeValue, x_scopeOuter, x_frameKind, x_frameOne, x_frameTwo, x_frameThree⟩ := D
  have hm' : x_mode = 2 := hm
  have hg' : x_callee = nI (gm_xv g) := hg
  have hc' : x_current = nI (gm_xv a) := hc
  have hF' : x_frameCount = nI fc := hF
  subst hm' hg' hc' hF'
  obtain ⟨hH0, h4, h5, h6, h7, h8⟩ := hH
  have hH1 := hH0
  obtain ⟨h1, h2', h3⟩ := hH0
  obtain ⟨l1, l2, l3, l4, l5, tf, tt, k, b, c, b', c', ef, et⟩ := (h3 _ hv).2.2.2.2.2 (Or.inl hk)
  have same := gm_cast_same H
  have vin : vp_in (nI (g / 8)) 8192 := vp_in_nI (by omega) (by decide)
  refine nm_r (gx_shr (by omega)) ?_
  rw [nI_clamp (show g / 8 < 2 ^ 31 by omega), l1, l4, l5]
  rw [ef] at tf H
  rw [et] at tt H
  rw [ef, et]
  refine And.intro vin (nm_e (br_f (gm_lb_ne l2) (And.intro vin (gx_leftOf tt (And.intro vin (gx_leftOf tf (And.intro vin (gx_rightOf tf (And.intro vin (gx_rightOf tt ?_)))))))))) 
  refine gx_pushCast (by omega) (gd_TY_r tf) (gd_TY_r tt) ?_
  intro fc' fk f1 f2 f3 g1 g2 g3
  dsimp only
  rw [l3, gm_lb_neg]
  refine And.intro vin (nm_e (gx_castValue H hH1 (gm_PB_neg l2) ?_ ?_))
  · intro w s' cc cSh cLb c1 c2 c3 eo hH'
    subst eo
    obtain ⟨m1, m2, m3, m4⟩ := same
    refine HP (cc, x_scopeCount, nI fc', 2, x_atToken, x_scope, nI (gm_xv w), nI (gm_xv (gm_ca (gm_h s (g / 8)))), x_side, x_ending, x_faultLabel, x_stepsTaken, cSh, cLb, c1, c2, c3, x_scopeValue, x_scopeOuter, fk, f1, f2, f3) (Or.inl ⟨rfl, ⟨hH', ?_, ?_, ?_, ?_, ?_⟩, ?_, rfl, rfl, rfl, l2, fc', rfl, ?_, ?_⟩)
    · exact h4.trans (congrArg nI m1.symm)
    · show gm_m s' ≤ 64
      rw [show gm_m s' = gm_m s from m1]
      exact h5
    · exact h6.trans (congrArg nI m3.symm)
    · show gm_T s' ≤ 40
      rw [show gm_T s' = gm_T s from m3]
      exact h7
    · intro w' y1 y2
      rw [show gm_e s' = gm_e s from m2]
      exact h8 w' y1 (by rw [← show gm_m s' = gm_m s from m1]; exact y2)
    · intro j hj
      obtain ⟨q1, q2, q3, q4⟩ := g3 j hj
      show (fk j, f1 j, f2 j, f3 j) = (x_frameKind j, x_frameOne j, x_frameTwo j, x_frameThree j)
      rw [q1, q2, q3, q4]
    · rw [ef, et]; exact g1
    · rw [ef, et]
      intro z
      obtain ⟨q0, q1, q2, q3, q4⟩ := g2 z
      refine ⟨q0, ?_⟩
      show (fk fc, f1 fc, f2 fc, f3 fc) = _
      rw [q1, q2, q3, q4]
      rfl
  · intro eo
    subst eo
    exact HP (x_cellCount, x_scopeCount, nI fc', 4, x_atToken, x_scope, nI (gm_xv a), nI (gm_xv (gm_ca (gm_h s (g / 8)))), x_side, 4, gm_lb (- gm_cp (gm_h s (g / 8))), x_stepsTaken, x_cellShape, x_cellLabel, x_cellOne, x_cellTwo, x_cellThree, x_scopeValue, x_scopeOuter, fk, f1, f2, f3) (Or.inr ⟨show (4 : Nat) ≠ 0 by decide, rfl, rfl, h6, fun _ => rfl, hH1, h4, h5, h6, h7, h8⟩)
end
