/-! ===== 45: look ===== -/
theorem gx_dig {w d : Nat} (hw : w < 2 ^ 31) (hd : d < 16) : (nI w >>> ((2 * nI d) &&& 31)) &&& 3 = nI (w / 4 ^ d % 4) := by
  rw [show (2 : Int32) * nI d = nI (2 * d) from pk_mul 2 d, pk_shrN hw (nI (2 * d) &&& 31) (2 * d) (s_l _ (by omega)), pk_andN (Nat.lt_of_le_of_lt (Nat.div_le_self _ _) (by omega)) 2 (by decide), Nat.pow_mul]
section
variable {x_typeDraft x_typeCount x_count x_wrongAt x_keptPlace x_cellCount x_scopeCount x_frameCount x_mode x_atToken x_scope x_current x_callee x_side x_ending x_faultLabel x_stepsTaken x_runVerdict x_runBlame x_result : Int32} {x_named x_kinds x_values x_ends x_types x_operands x_targets x_cellShape x_cellLabel x_cellOne x_cellTwo x_cellThree x_scopeValue x_scopeOuter x_frameKind x_frameOne x_frameTwo x_frameThree : Nat → Int32}
theorem gx_lk {post : Int32 → SX → Prop} {P : gm_P} {cn : Nat} {G : Nat → List (Lean.RArray Nat)} {w a n0 : Nat} (hP : gm_SF P cn G) (hw : w < 2 ^ 31) : ∀ (m d : Nat) (s : gm_S) (v : Nat) (D : gx_D) (r : Nat × gm_S × Nat), d + m = 16 → gm_lk m (w / 4 ^ d) s v = some r → gm_L P cn G s v → gx_H s D → gx_cur D = nI (gm_xv v) →
    (r.1 = 0 → ∀ D', gx_H r.2.1 D' → gx_cur D' = nI (gm_xv r.2.2) → (match D' with | (x_cellCount, x_scopeCount, x_frameCount, x_mode, x_atToken, x_scope, x_current, x_callee, x_side, x_ending, x_faultLabel, x_stepsTaken, x_cellShape, x_cellLabel, x_cellOne, x_cellTwo, x_cellThree, x_scopeValue, x_scopeOuter, x_frameKind, x_frameOne, x_frameTwo, x_frameThree) => wX_look_131 post (nI a) (nI n0) 0 x_typeDraft x_typeCount x_count x_wrongAt x_keptPlace x_cellCount x_scopeCount x_frameCount x_mode x_atToken x_scope x_current x_callee x_side x_ending x_faultLabel x_stepsTaken x_runVerdict x_runBlame x_result x_named x_kinds x_values x_ends x_types x_operands x_targets x_cellShape x_cellLabel x_cellOne x_cellTwo x_cellThree x_scopeValue x_scopeOuter x_frameKind x_frameOne x_frameTwo x_frameThree 32768 32768 32768 32768)) → (r.1 = 1 → ∀ D', gx_H r.2.1 D' → post (-1) (gx_X x_typeDraft x_typeCount x_count x_wrongAt x_keptPlace x_runVerdict x_runBlame x_result x_named x_kinds x_values x_ends x_types x_operands x_targets (gx_setc D' (nI n0)))) → (r.1 = 2 → ∀ D', gx_H r.2.1 D' → post (-2) (gx_X x_typeDraft x_typeCount x_count x_wrongAt x_keptPlace x_runVerdict x_runBlame x_result x_named x_kinds x_values x_ends x_types x_operands x_targets (gx_setc D' (nI n0)))) →
    (match D with | (x_cellCount, x_scopeCount, x_frameCount, x_mode, x_atToken, x_scope, x_current, x_callee, x_side, x_ending, x_faultLabel, x_stepsTaken, x_cellShape, x_cellLabel, x_cellOne, x_cellTwo, x_cellThree, x_scopeValue, x_scopeOuter, x_frameKind, x_frameOne, x_frameTwo, x_frameThree) => wX_look_41 post (nI w) (nI a) (nI n0) (m + 2) 0 (nI d) x_typeDraft x_typeCount x_count x_wrongAt x_keptPlace x_cellCount x_scopeCount x_frameCount x_mode x_atToken x_scope x_current x_callee x_side x_ending x_faultLabel x_stepsTaken x_runVerdict x_runBlame x_result x_named x_kinds x_values x_ends x_types x_operands x_targets x_cellShape x_cellLabel x_cellOne x_cellTwo x_cellThree x_scopeValue x_scopeOuter x_frameKind x_frameOne x_frameTwo x_frameThree 32768 32768 32768 32768) := by
  intro m
  induction m with
  | zero =>
    intro d s v D r hd H L hH hc K0 K1 K2
    have e : some (0, s, v) = some r := H
    injection e with e
    subst e
    have k := K0 rfl D hH hc
    have e16 : d = 16 := by omega
    subst e16
    obtain ⟨x_cellCount, x_scopeCount, x_frameCount, x_mode, x_atToken, x_scope, x_current, x_callee, x_side, x_ending, x_faultLabel, x_stepsTaken, x_cellShape, x_cellLabel, x_cellOne, x_cellTwo, x_cellThree, x_scopeValue, x_scopeOuter, x_frameKind, x_frameOne, x_frameTwo, x_frameThree⟩ := D
    exact br_t (by decide) k
  | succ m ih =>
    intro d s v D r hd H L hH hc K0 K1 K2
    simp only [gm_lk] at H
    obtain ⟨lv, ck1, ck6⟩ := gm_L_ck L
    /- a failure is told at the next digit -/
    have fail : ∀ (f : Int32) (D' : gx_D) (x : Nat) (k : Nat), ¬ f = 0 → post f (gx_X x_typeDraft x_typeCount x_count x_wrongAt x_keptPlace x_runVerdict x_runBlame x_result x_named x_kinds x_values x_ends x_types x_operands x_targets (gx_setc D' (nI n0))) → (match D' with | (x_cellCount, x_scopeCount, x_frameCount, x_mode, x_atToken, x_scope, x_current, x_callee, x_side, x_ending, x_faultLabel, x_stepsTaken, x_cellShape, x_cellLabel, x_cellOne, x_cellTwo, x_cellThree, x_scopeValue, x_scopeOuter, x_frameKind, x_frameOne, x_frameTwo, x_frameThree) => wX_look_41 post (nI w) (nI a) (nI n0) (k + 1) f (nI x) x_typeDraft x_typeCount x_count x_wrongAt x_keptPlace x_cellCount x_scopeCount x_frameCount x_mode x_atToken x_scope x_current x_callee x_side x_ending x_faultLabel x_stepsTaken x_runVerdict x_runBlame x_result x_named x_kinds x_values x_ends x_types x_operands x_targets x_cellShape x_cellLabel x_cellOne x_cellTwo x_cellThree x_scopeValue x_scopeOuter x_frameKind x_frameOne x_frameTwo x_frameThree 32768 32768 32768 32768) := by
      intro f D' x k nf h
      obtain ⟨x_cellCount, x_scopeCount, x_frameCount, x_mode, x_atToken, x_scope, x_current, x_callee, x_side, x_ending, x_faultLabel, x_stepsTaken, x_cellShape, x_cellLabel, x_cellOne, x_cellTwo, x_cellThree, x_scopeValue, x_scopeOuter, x_frameKind, x_frameOne, x_frameTwo, x_frameThree⟩ := D'
      have l : wX_look_131 post (nI a) (nI n0) f x_typeDraft x_typeCount x_count x_wrongAt x_keptPlace x_cellCount x_scopeCount x_frameCount x_mode x_atToken x_scope x_current x_callee x_side x_ending x_faultLabel x_stepsTaken x_runVerdict x_runBlame x_result x_named x_kinds x_values x_ends x_types x_operands x_targets x_cellShape x_cellLabel x_cellOne x_cellTwo x_cellThree x_scopeValue x_scopeOuter x_frameKind x_frameOne x_frameTwo x_frameThree 32768 32768 32768 32768 := br_f nf h
      exact br_c (fun _ => l) (fun _ => br_f nf l)
    have t4 : w / 4 ^ d % 4 < 4 := Nat.mod_lt _ (by decide)
    have take : ∀ out, ¬ w / 4 ^ d % 4 = 0 → ¬ (w / 4 ^ d % 4 = 3 ∨ gm_sh (gm_ck (gm_h s (v / 8))) ≠ 4) → gm_take (w / 4 ^ d % 4 - 1) (gm_q1 (gm_h s (v / 8))) 0 v (gm_u0 s) = some out → (out.1 = 0 → gm_lk m (w / 4 ^ d / 4) out.2.2.2 out.2.1 = some r) → (out.1 ≠ 0 → r = (2, out.2.2.2, out.2.1)) → (match D with | (x_cellCount, x_scopeCount, x_frameCount, x_mode, x_atToken, x_scope, x_current, x_callee, x_side, x_ending, x_faultLabel, x_stepsTaken, x_cellShape, x_cellLabel, x_cellOne, x_cellTwo, x_cellThree, x_scopeValue, x_scopeOuter, x_frameKind, x_frameOne, x_frameTwo, x_frameThree) => wpX_workOut (fun u => match u with | (x_typeDraft, x_typeCount, x_count, x_wrongAt, x_keptPlace, x_cellCount, x_scopeCount, x_frameCount, x_mode, x_atToken, x_scope, x_current, x_callee, x_side, x_ending, x_faultLabel, x_stepsTaken, x_runVerdict, x_runBlame, x_result, x_named, x_kinds, x_values, x_ends, x_types, x_operands, x_targets, x_cellShape, x_cellLabel, x_cellOne, x_cellTwo, x_cellThree, x_scopeValue, x_scopeOuter, x_frameKind, x_frameOne, x_frameTwo, x_frameThree, x_nKind, x_nOne, x_nTwo, x_nThree) => (((x_ending = 0 → (∀ z : Int32, z = nI d + 1 → (wX_look_41 post (nI w) (nI a) (nI n0) (m + 2) 0 z x_typeDraft x_typeCount x_count x_wrongAt x_keptPlace x_cellCount x_scopeCount x_frameCount x_mode x_atToken x_scope x_current x_callee x_side x_ending x_faultLabel x_stepsTaken x_runVerdict x_runBlame x_result x_named x_kinds x_values x_ends x_types x_operands x_targets x_cellShape x_cellLabel x_cellOne x_cellTwo x_cellThree x_scopeValue x_scopeOuter x_frameKind x_frameOne x_frameTwo x_frameThree x_nKind x_nOne x_nTwo x_nThree))) ∧ (¬ x_ending = 0 → (∀ z : Int32, z = nI d + 1 → (wX_look_41 post (nI w) (nI a) (nI n0) (m + 2) (-2) z x_typeDraft x_typeCount x_count x_wrongAt x_keptPlace x_cellCount x_scopeCount x_frameCount x_mode x_atToken x_scope x_current x_callee x_side x_ending x_faultLabel x_stepsTaken x_runVerdict x_runBlame x_result x_named x_kinds x_values x_ends x_types x_operands x_targets x_cellShape x_cellLabel x_cellOne x_cellTwo x_cellThree x_scopeValue x_scopeOuter x_frameKind x_frameOne x_frameTwo x_frameThree x_nKind x_nOne x_nTwo x_nThree)))))) (x_typeDraft, x_typeCount, x_count, x_wrongAt, x_keptPlace, x_cellCount, x_scopeCount, 0, 3, x_atToken, x_scope, x_current, x_callee, nI (w / 4 ^ d % 4 - 1), x_ending, x_faultLabel, x_stepsTaken, x_runVerdict, x_runBlame, x_result, x_named, x_kinds, x_values, x_ends, x_types, x_operands, x_targets, x_cellShape, x_cellLabel, x_cellOne, x_cellTwo, x_cellThree, x_scopeValue, x_scopeOuter, x_frameKind, x_frameOne, x_frameTwo, x_frameThree, 32768, 32768, 32768, 32768)) := by
      intro out c0 c1 Ht o1 o2
      have sh : gm_sh (gm_ck (gm_h s (v / 8))) = 4 := by
        by_cases z : gm_sh (gm_ck (gm_h s (v / 8))) = 4
        · exact z
        · exact absurd (Or.inr z) c1
      have ok := gm_look_take (side := w / 4 ^ d % 4 - 1) hP L sh
      rw [Ht] at ok
      have c3 : ¬ w / 4 ^ d % 4 = 3 := fun z => c1 (Or.inl z)
      refine gr_xtake (x_typeDraft := x_typeDraft) (x_typeCount := x_typeCount) (x_count := x_count) (x_wrongAt := x_wrongAt) (x_keptPlace := x_keptPlace) (x_runVerdict := x_runVerdict) (x_runBlame := x_runBlame) (x_result := x_result) (x_named := x_named) (x_kinds := x_kinds) (x_values := x_values) (x_ends := x_ends) (x_types := x_types) (x_operands := x_operands) (x_targets := x_targets) (by omega) Ht hH hc (fun z => ⟨(gm_ok_e ok z).2.2.1, (gm_ok_e ok z).2.2.2.2⟩) ?_ ?_
      · intro z D' h1 h2 h3
        have k := ih (d + 1) out.2.2.2 out.2.1 D' r (by omega) (by rw [Nat.pow_succ, ← Nat.div_div_eq_div_mul]; exact o1 z) (gm_ok_e ok z).1 h1 h2 K0 K1 K2
        obtain ⟨x_cellCount, x_scopeCount, x_frameCount, x_mode, x_atToken, x_scope, x_current, x_callee, x_side, x_ending, x_faultLabel, x_stepsTaken, x_cellShape, x_cellLabel, x_cellOne, x_cellTwo, x_cellThree, x_scopeValue, x_scopeOuter, x_frameKind, x_frameOne, x_frameTwo, x_frameThree⟩ := D'
        exact br_t h3 (nm_r (nI_1 d) k)
      · intro z D' hE
        have c4 := gm_take_code _ _ _ _ _ Ht z
        have er := o2 z
        have k := fail (-2) D' (d + 1) (m + 1) (by decide) (K2 (by rw [er]) D' (by rw [er]; exact hE.2.2.2.2))
        have en := hE.2.1
        rw [c4] at en
        obtain ⟨x_cellCount, x_scopeCount, x_frameCount, x_mode, x_atToken, x_scope, x_current, x_callee, x_side, x_ending, x_faultLabel, x_stepsTaken, x_cellShape, x_cellLabel, x_cellOne, x_cellTwo, x_cellThree, x_scopeValue, x_scopeOuter, x_frameKind, x_frameOne, x_frameTwo, x_frameThree⟩ := D'
        have en' : x_ending = nI 4 := en
        exact br_f (by rw [en']; decide) (nm_r (nI_1 d) k)
    have bad : r = (1, s, v) → ∀ k, (match D with | (x_cellCount, x_scopeCount, x_frameCount, x_mode, x_atToken, x_scope, x_current, x_callee, x_side, x_ending, x_faultLabel, x_stepsTaken, x_cellShape, x_cellLabel, x_cellOne, x_cellTwo, x_cellThree, x_scopeValue, x_scopeOuter, x_frameKind, x_frameOne, x_frameTwo, x_frameThree) => wX_look_41 post (nI w) (nI a) (nI n0) (k + 1) (-1) (nI (d + 1)) x_typeDraft x_typeCount x_count x_wrongAt x_keptPlace x_cellCount x_scopeCount x_frameCount x_mode x_atToken x_scope x_current x_callee x_side x_ending x_faultLabel x_stepsTaken x_runVerdict x_runBlame x_result x_named x_kinds x_values x_ends x_types x_operands x_targets x_cellShape x_cellLabel x_cellOne x_cellTwo x_cellThree x_scopeValue x_scopeOuter x_frameKind x_frameOne x_frameTwo x_frameThree 32768 32768 32768 32768) := fun er k => fail (-1) D (d + 1) k (by decide) (K1 (by rw [er]) D (by rw [er]; exact hH))
    by_cases c0 : w / 4 ^ d % 4 = 0
    · rw [if_pos c0] at H
      injection H with H
      have k := K0 (by rw [← H]) D (by rw [← H]; exact hH) (by rw [← H]; exact hc)
      obtain ⟨x_cellCount, x_scopeCount, x_frameCount, x_mode, x_atToken, x_scope, x_current, x_callee, x_side, x_ending, x_faultLabel, x_stepsTaken, x_cellShape, x_cellLabel, x_cellOne, x_cellTwo, x_cellThree, x_scopeValue, x_scopeOuter, x_frameKind, x_frameOne, x_frameTwo, x_frameThree⟩ := D
      refine br_f (nI_ge (b := 16) (by omega) (by decide)) (br_t rfl (nm_r (gx_dig hw (by omega)) ?_))
      rw [c0]
      exact br_t rfl k
    rw [if_neg c0] at H
    by_cases c1 : w / 4 ^ d % 4 = 3 ∨ gm_sh (gm_ck (gm_h s (v / 8))) ≠ 4
    · rw [if_pos c1] at H
      injection H with H
      have b := bad H.symm (m + 1)
      obtain ⟨x_cellCount, x_scopeCount, x_frameCount, x_mode, x_atToken, x_scope, x_current, x_callee, x_side, x_ending, x_faultLabel, x_stepsTaken, x_cellShape, x_cellLabel, x_cellOne, x_cellTwo, x_cellThree, x_scopeValue, x_scopeOuter, x_frameKind, x_frameOne, x_frameTwo, x_frameThree⟩ := D
      have hc' : x_current = nI (gm_xv v) := hc
      subst hc'
      obtain ⟨⟨h1, h2, h3⟩, _⟩ := hH
      have cv := (h3 _ lv).1
      refine br_f (nI_ge (b := 16) (by omega) (by decide)) (br_t rfl (nm_r (gx_dig hw (by omega)) (pk_eq (w / 4 ^ d % 4) 0 (fun z => absurd z c0) (fun _ => pk_eq (w / 4 ^ d % 4) 3 (fun z => nm_r (nI_1 d) b) (fun n3 => ?_)))))
      have nsh : gm_sh (gm_ck (gm_h s (v / 8))) ≠ 4 := c1.resolve_left n3
      have ls : gm_sh (gm_ck (gm_h s (v / 8))) < 8 := by unfold gm_sh; split <;> (try split) <;> omega
      rw [gx_shr (by omega), nI_clamp (show v / 8 < 2 ^ 31 by omega), cv]
      exact And.intro (vp_in_nI (by omega) (by decide)) (pk_eq (gm_sh (gm_ck (gm_h s (v / 8)))) 4 (fun z => absurd z nsh) (fun _ => nm_r (nI_1 d) b))
    · rw [if_neg c1] at H
      have sh : gm_sh (gm_ck (gm_h s (v / 8))) = 4 := by
        by_cases z : gm_sh (gm_ck (gm_h s (v / 8))) = 4
        · exact z
        · exact absurd (Or.inr z) c1
      have c3 : ¬ w / 4 ^ d % 4 = 3 := fun z => c1 (Or.inl z)
      have tk : (match D with | (x_cellCount, x_scopeCount, x_frameCount, x_mode, x_atToken, x_scope, x_current, x_callee, x_side, x_ending, x_faultLabel, x_stepsTaken, x_cellShape, x_cellLabel, x_cellOne, x_cellTwo, x_cellThree, x_scopeValue, x_scopeOuter, x_frameKind, x_frameOne, x_frameTwo, x_frameThree) => wpX_workOut (fun u => match u with | (x_typeDraft, x_typeCount, x_count, x_wrongAt, x_keptPlace, x_cellCount, x_scopeCount, x_frameCount, x_mode, x_atToken, x_scope, x_current, x_callee, x_side, x_ending, x_faultLabel, x_stepsTaken, x_runVerdict, x_runBlame, x_result, x_named, x_kinds, x_values, x_ends, x_types, x_operands, x_targets, x_cellShape, x_cellLabel, x_cellOne, x_cellTwo, x_cellThree, x_scopeValue, x_scopeOuter, x_frameKind, x_frameOne, x_frameTwo, x_frameThree, x_nKind, x_nOne, x_nTwo, x_nThree) => (((x_ending = 0 → (∀ z : Int32, z = nI d + 1 → (wX_look_41 post (nI w) (nI a) (nI n0) (m + 2) 0 z x_typeDraft x_typeCount x_count x_wrongAt x_keptPlace x_cellCount x_scopeCount x_frameCount x_mode x_atToken x_scope x_current x_callee x_side x_ending x_faultLabel x_stepsTaken x_runVerdict x_runBlame x_result x_named x_kinds x_values x_ends x_types x_operands x_targets x_cellShape x_cellLabel x_cellOne x_cellTwo x_cellThree x_scopeValue x_scopeOuter x_frameKind x_frameOne x_frameTwo x_frameThree x_nKind x_nOne x_nTwo x_nThree))) ∧ (¬ x_ending = 0 → (∀ z : Int32, z = nI d + 1 → (wX_look_41 post (nI w) (nI a) (nI n0) (m + 2) (-2) z x_typeDraft x_typeCount x_count x_wrongAt x_keptPlace x_cellCount x_scopeCount x_frameCount x_mode x_atToken x_scope x_current x_callee x_side x_ending x_faultLabel x_stepsTaken x_runVerdict x_runBlame x_result x_named x_kinds x_values x_ends x_types x_operands x_targets x_cellShape x_cellLabel x_cellOne x_cellTwo x_cellThree x_scopeValue x_scopeOuter x_frameKind x_frameOne x_frameTwo x_frameThree x_nKind x_nOne x_nTwo x_nThree)))))) (x_typeDraft, x_typeCount, x_count, x_wrongAt, x_keptPlace, x_cellCount, x_scopeCount, 0, 3, x_atToken, x_scope, x_current, x_callee, nI (w / 4 ^ d % 4 - 1), x_ending, x_faultLabel, x_stepsTaken, x_runVerdict, x_runBlame, x_result, x_named, x_kinds, x_values, x_ends, x_types, x_operands, x_targets, x_cellShape, x_cellLabel, x_cellOne, x_cellTwo, x_cellThree, x_scopeValue, x_scopeOuter, x_frameKind, x_frameOne, x_frameTwo, x_frameThree, 32768, 32768, 32768, 32768)) := by
        refine gm_lk2_e H ?_ ?_
        · intro out e z H1
          exact take out c0 c1 e (fun _ => H1) (fun y => absurd z y)
        · intro out e z er
          exact take out c0 c1 e (fun y => absurd y z) (fun _ => er)
      obtain ⟨x_cellCount, x_scopeCount, x_frameCount, x_mode, x_atToken, x_scope, x_current, x_callee, x_side, x_ending, x_faultLabel, x_stepsTaken, x_cellShape, x_cellLabel, x_cellOne, x_cellTwo, x_cellThree, x_scopeValue, x_scopeOuter, x_frameKind, x_frameOne, x_frameTwo, x_frameThree⟩ := D
      have hc' : x_current = nI (gm_xv v) := hc
      subst hc'
      obtain ⟨⟨h1, h2, h3⟩, _⟩ := hH
      have cv := (h3 _ lv).1
      refine br_f (nI_ge (b := 16) (by omega) (by decide)) (br_t rfl (nm_r (gx_dig hw (by omega)) (pk_eq (w / 4 ^ d % 4) 0 (fun z => absurd z c0) (fun _ => pk_eq (w / 4 ^ d % 4) 3 (fun z => absurd z c3) (fun n3 => ?_)))))
      rw [gx_shr (by omega), nI_clamp (show v / 8 < 2 ^ 31 by omega), cv, sh, show nI (w / 4 ^ d % 4) - 1 = nI (w / 4 ^ d % 4 - 1) from pk_sub (b := 1) (by omega)]
      exact And.intro (vp_in_nI (by omega) (by decide)) (br_t rfl tk)
theorem gx_facet {post : Int32 → SX → Prop} {P : gm_P} {cn : Nat} {G : Nat → List (Lean.RArray Nat)} {a n0 v : Nat} {s : gm_S} {D : gx_D} (ha : a < 3) (L : gm_L P cn G s v) (hH : gx_H s D) (hc : gx_cur D = nI (gm_xv v)) (K : post (gm_ans s v a) (gx_X x_typeDraft x_typeCount x_count x_wrongAt x_keptPlace x_runVerdict x_runBlame x_result x_named x_kinds x_values x_ends x_types x_operands x_targets (gx_setc D (nI n0)))) : (match D with | (x_cellCount, x_scopeCount, x_frameCount, x_mode, x_atToken, x_scope, x_current, x_callee, x_side, x_ending, x_faultLabel, x_stepsTaken, x_cellShape, x_cellLabel, x_cellOne, x_cellTwo, x_cellThree, x_scopeValue, x_scopeOuter, x_frameKind, x_frameOne, x_frameTwo, x_frameThree) => wX_look_131 post (nI a) (nI n0) 0 x_typeDraft x_typeCount x_count x_wrongAt x_keptPlace x_cellCount x_scopeCount x_frameCount x_mode x_atToken x_scope x_current x_callee x_side x_ending x_faultLabel x_stepsTaken x_runVerdict x_runBlame x_result x_named x_kinds x_values x_ends x_types x_operands x_targets x_cellShape x_cellLabel x_cellOne x_cellTwo x_cellThree x_scopeValue x_scopeOuter x_frameKind x_frameOne x_frameTwo x_frameThree 32768 32768 32768 32768) := by
  obtain ⟨lv, ck1, ck6⟩ := gm_L_ck L
  obtain ⟨x_cellCount, x_scopeCount, x_frameCount, x_mode, x_atToken, x_scope, x_current, x_callee, x_side, x_ending, x_faultLabel, x_stepsTaken, x_cellShape, x_cellLabel, x_cellOne, x_cellTwo, x_cellThree, x_scopeValue, x_scopeOuter, x_frameKind, x_frameOne, x_frameTwo, x_frameThree⟩ := D
  have hc' : x_current = nI (gm_xv v) := hc
  subst hc'
  obtain ⟨⟨h1, h2, h3⟩, _⟩ := hH
  have cv := h3 _ lv
  have ls : gm_sh (gm_ck (gm_h s (v / 8))) < 8 := by unfold gm_sh; split <;> (try split) <;> omega
  unfold gm_ans at K
  refine br_t rfl ?_
  unfold wpX_facet
  dsimp only
  rw [gx_shr (by omega), nI_clamp (show v / 8 < 2 ^ 31 by omega), cv.1]
  have vin : vp_in (nI (v / 8)) 8192 := vp_in_nI (by omega) (by decide)
  refine And.intro vin (nm_e (pk_eq a 0 (fun z => ?_) (fun n0' => pk_eq a 1 (fun z => ?_) (fun n1 => ?_))))
  · rw [if_pos z] at K
    exact K
  · rw [if_neg n0', if_pos z] at K
    have f30 : gm_ck (gm_h s (v / 8)) < 3 → wX_facet_30 (fun r => post r (x_typeDraft, x_typeCount, x_count, x_wrongAt, x_keptPlace, nI n0, x_scopeCount, x_frameCount, x_mode, x_atToken, x_scope, nI (gm_xv v), x_callee, x_side, x_ending, x_faultLabel, x_stepsTaken, x_runVerdict, x_runBlame, x_result, x_named, x_kinds, x_values, x_ends, x_types, x_operands, x_targets, x_cellShape, x_cellLabel, x_cellOne, x_cellTwo, x_cellThree, x_scopeValue, x_scopeOuter, x_frameKind, x_frameOne, x_frameTwo, x_frameThree, 32768, 32768, 32768, 32768)) (nI (gm_xv v)) x_typeDraft x_typeCount x_count x_wrongAt x_keptPlace (nI n0) x_scopeCount x_frameCount x_mode x_atToken x_scope (nI (gm_xv v)) x_callee x_side x_ending x_faultLabel x_stepsTaken x_runVerdict x_runBlame x_result x_named x_kinds x_values x_ends x_types x_operands x_targets x_cellShape x_cellLabel x_cellOne x_cellTwo x_cellThree x_scopeValue x_scopeOuter x_frameKind x_frameOne x_frameTwo x_frameThree 32768 32768 32768 32768 := by
      intro c3
      rw [if_pos c3] at K
      unfold wX_facet_30
      rw [gx_shr (by omega), nI_clamp (show v / 8 < 2 ^ 31 by omega), cv.2.2.1 c3]
      exact And.intro vin K
    have es : gm_sh (gm_ck (gm_h s (v / 8))) = (if gm_ck (gm_h s (v / 8)) < 3 then gm_ck (gm_h s (v / 8)) else if gm_ck (gm_h s (v / 8)) < 5 then 3 else 4) := rfl
    refine pk_eq (gm_sh (gm_ck (gm_h s (v / 8)))) 1 (fun z1 => f30 ?_) (fun z1 => pk_eq (gm_sh (gm_ck (gm_h s (v / 8)))) 2 (fun z2 => f30 ?_) (fun z2 => ?_))
    · rw [es] at z1; split at z1 <;> (try split at z1) <;> omega
    · rw [es] at z2; split at z2 <;> (try split at z2) <;> omega
    · have n3 : ¬ gm_ck (gm_h s (v / 8)) < 3 := by
        intro y
        rw [es, if_pos y] at z1 z2
        omega
      rw [if_neg n3] at K
      exact K
  · rw [if_neg n0', if_neg n1] at K
    have e1 : nI (gm_xv v) &&& 1 = (if v % 8 = 0 then 0 else 1) := by
      have := gm_xv_div v
      rw [pk_andN (by omega) 1 (by decide), show (2 : Nat) ^ 1 = 2 from rfl, gm_xv_mod]
      split <;> rfl
    rw [e1]
    exact K
end
section
variable {y_parts y_count y_place y_where y_values y_variables y_waits y_at y_world y_steps y_blame y_result y_given : Int32} {y_ty y_part y_kind y_end y_state y_with y_runKind y_runEnd y_runWith y_sort y_one y_two y_from y_to y_label y_held y_around y_waiting y_operand y_outer y_kept : Nat → Int32}
theorem gy_lk {post : Int32 → SY → Prop} {P : gm_P} {cn : Nat} {G : Nat → List (Lean.RArray Nat)} {a n0 : Nat} (hP : gm_SF P cn G) (hK : gy_K y_ty) : ∀ (m w : Nat) (s : gm_S) (v : Nat) (E : gy_D) (r : Nat × gm_S × Nat), w < 4 ^ m → w < 2 ^ 31 → gm_lk m w s v = some r → gm_L P cn G s v → gy_H y_ty s E →
    (r.1 = 0 → ∀ E', gy_H y_ty r.2.1 E' → gy_rs E' = gy_rs E → (match E' with | (y_values, y_variables, y_waits, y_at, y_world, y_steps, y_blame, y_result, y_sort, y_one, y_two, y_from, y_to, y_label, y_held, y_around, y_waiting, y_operand, y_outer, y_kept) => wY_look_134 post (nI a) (nI n0) (nI r.2.2) (-3) y_parts y_count y_place y_where y_values y_variables y_waits y_at y_world y_steps y_blame y_result y_given y_ty y_part y_kind y_end y_state y_with y_runKind y_runEnd y_runWith y_sort y_one y_two y_from y_to y_label y_held y_around y_waiting y_operand y_outer y_kept)) → (r.1 = 1 → ∀ E', gy_H y_ty r.2.1 (gy_clr E') → gy_rs E' = gy_rs E → post (-1) (gy_Y y_parts y_count y_place y_where y_given y_ty y_part y_kind y_end y_state y_with y_runKind y_runEnd y_runWith (gy_setv E' (nI n0)))) → (r.1 = 2 → ∀ E', gy_H y_ty r.2.1 (gy_clr E') → gy_rs E' = gy_rs E → post (-2) (gy_Y y_parts y_count y_place y_where y_given y_ty y_part y_kind y_end y_state y_with y_runKind y_runEnd y_runWith (gy_setv E' (nI n0)))) →
    (match E with | (y_values, y_variables, y_waits, y_at, y_world, y_steps, y_blame, y_result, y_sort, y_one, y_two, y_from, y_to, y_label, y_held, y_around, y_waiting, y_operand, y_outer, y_kept) => wY_look_39 post (nI a) (nI n0) (m + 2) (nI v) (-3) (nI w) y_parts y_count y_place y_where y_values y_variables y_waits y_at y_world y_steps y_blame y_result y_given y_ty y_part y_kind y_end y_state y_with y_runKind y_runEnd y_runWith y_sort y_one y_two y_from y_to y_label y_held y_around y_waiting y_operand y_outer y_kept) := by
  intro m
  induction m with
  | zero =>
    intro w s v E r hw _ H L hH K0 K1 K2
    have e : some (0, s, v) = some r := H
    injection e with e
    subst e
    have k := K0 rfl E hH rfl
    have e0 : w = 0 := by rw [Nat.pow_zero] at hw; omega
    subst e0
    obtain ⟨y_values, y_variables, y_waits, y_at, y_world, y_steps, y_blame, y_result, y_sort, y_one, y_two, y_from, y_to, y_label, y_held, y_around, y_waiting, y_operand, y_outer, y_kept⟩ := E
    exact br_t (by decide) k
  | succ m ih =>
    intro w s v E r hw hw31 H L hH K0 K1 K2
    simp only [gm_lk] at H
    obtain ⟨lv, ck1, ck6⟩ := gm_L_ck L
    have e3 : nI w &&& 3 = nI (w % 4) := pk_andN (by omega) 2 (by decide)
    have e2 : nI w >>> ((2 : Int32) &&& 31) = nI (w / 4) := pk_shrN hw31 ((2 : Int32) &&& 31) 2 (by decide)
    have fail : ∀ (f : Int32) (E' : gy_D) (x y : Int32) (k : Nat), ¬ f = -3 → post f (gy_Y y_parts y_count y_place y_where y_given y_ty y_part y_kind y_end y_state y_with y_runKind y_runEnd y_runWith (gy_setv E' (nI n0))) → (match E' with | (y_values, y_variables, y_waits, y_at, y_world, y_steps, y_blame, y_result, y_sort, y_one, y_two, y_from, y_to, y_label, y_held, y_around, y_waiting, y_operand, y_outer, y_kept) => wY_look_39 post (nI a) (nI n0) (k + 1) x f y y_parts y_count y_place y_where y_values y_variables y_waits y_at y_world y_steps y_blame y_result y_given y_ty y_part y_kind y_end y_state y_with y_runKind y_runEnd y_runWith y_sort y_one y_two y_from y_to y_label y_held y_around y_waiting y_operand y_outer y_kept) := by
      intro f E' x y k nf h
      obtain ⟨y_values, y_variables, y_waits, y_at, y_world, y_steps, y_blame, y_result, y_sort, y_one, y_two, y_from, y_to, y_label, y_held, y_around, y_waiting, y_operand, y_outer, y_kept⟩ := E'
      have l : wY_look_134 post (nI a) (nI n0) x f y_parts y_count y_place y_where y_values y_variables y_waits y_at y_world y_steps y_blame y_result y_given y_ty y_part y_kind y_end y_state y_with y_runKind y_runEnd y_runWith y_sort y_one y_two y_from y_to y_label y_held y_around y_waiting y_operand y_outer y_kept := br_f nf h
      exact br_c (fun _ => l) (fun _ => br_f nf l)
    have t4 : w % 4 < 4 := Nat.mod_lt _ (by decide)
    by_cases c0 : w % 4 = 0
    · rw [if_pos c0] at H
      injection H with H
      have k := K0 (by rw [← H]) E (by rw [← H]; exact hH) rfl
      rw [← H] at k
      obtain ⟨y_values, y_variables, y_waits, y_at, y_world, y_steps, y_blame, y_result, y_sort, y_one, y_two, y_from, y_to, y_label, y_held, y_around, y_waiting, y_operand, y_outer, y_kept⟩ := E
      refine br_t ?_ k
      rw [e3, c0]
      rfl
    rw [if_neg c0] at H
    have es : gm_sh (gm_ck (gm_h s (v / 8))) = (if gm_ck (gm_h s (v / 8)) < 3 then gm_ck (gm_h s (v / 8)) else if gm_ck (gm_h s (v / 8)) < 5 then 3 else 4) := rfl
    have n5 : gm_n s ≤ 5000 := by
      obtain ⟨y_values, y_variables, y_waits, y_at, y_world, y_steps, y_blame, y_result, y_sort, y_one, y_two, y_from, y_to, y_label, y_held, y_around, y_waiting, y_operand, y_outer, y_kept⟩ := E
      exact hH.1.2.1
    have sort : (match E with | (y_values, y_variables, y_waits, y_at, y_world, y_steps, y_blame, y_result, y_sort, y_one, y_two, y_from, y_to, y_label, y_held, y_around, y_waiting, y_operand, y_outer, y_kept) => y_sort (v / 8) = nI (gm_ck (gm_h s (v / 8)))) := by
      obtain ⟨y_values, y_variables, y_waits, y_at, y_world, y_steps, y_blame, y_result, y_sort, y_one, y_two, y_from, y_to, y_label, y_held, y_around, y_waiting, y_operand, y_outer, y_kept⟩ := E
      exact (hH.1.2.2 _ lv).1
    have nz4 : ¬ nI (w % 4) = 0 := nI_ne0 (by omega) (by omega)
    by_cases c1 : w % 4 = 3 ∨ gm_sh (gm_ck (gm_h s (v / 8))) ≠ 4
    · rw [if_pos c1] at H
      injection H with H
      have b := fail (-1) E (nI v) (nI (w / 4)) (m + 1) (by decide) (K1 (by rw [← H]) E (by rw [← H]; exact gy_clr_H hH) rfl)
      obtain ⟨y_values, y_variables, y_waits, y_at, y_world, y_steps, y_blame, y_result, y_sort, y_one, y_two, y_from, y_to, y_label, y_held, y_around, y_waiting, y_operand, y_outer, y_kept⟩ := E
      have sort' : y_sort (v / 8) = nI (gm_ck (gm_h s (v / 8))) := sort
      have l87 : wY_look_87 post (wY_look_39 post (nI a) (nI n0) (m + 2)) (nI a) (nI n0) (nI v) (nI w) y_parts y_count y_place y_where y_values y_variables y_waits y_at y_world y_steps y_blame y_result y_given y_ty y_part y_kind y_end y_state y_with y_runKind y_runEnd y_runWith y_sort y_one y_two y_from y_to y_label y_held y_around y_waiting y_operand y_outer y_kept := nm_r e2 b
      refine br_f (by rw [e3]; exact nz4) (br_t rfl ?_)
      rw [gy_div (by omega), nI_clamp (show v / 8 < 2 ^ 31 by omega), sort']
      refine And.intro (by decide) (And.intro (vp_in_nI (by omega) (by decide)) (pk_le (gm_ck (gm_h s (v / 8))) 4 (fun z => br_t rfl l87) (fun z => br_f (show ¬ (1 : Int32) = 0 by decide) ?_)))
      have c3 : w % 4 = 3 := by
        rcases c1 with c1 | c1
        · exact c1
        · exact absurd (by rw [es, if_neg (by omega), if_neg (by omega)]) c1
      rw [e3, c3]
      exact br_t rfl l87
    · rw [if_neg c1] at H
      have c3 : ¬ w % 4 = 3 := fun z => c1 (Or.inl z)
      have sh : gm_sh (gm_ck (gm_h s (v / 8))) = 4 := by
        by_cases z : gm_sh (gm_ck (gm_h s (v / 8))) = 4
        · exact z
        · exact absurd (Or.inr z) c1
      have ck5 : 4 < gm_ck (gm_h s (v / 8)) := by
        rw [es] at sh
        split at sh
        · omega
        · split at sh
          · omega
          · omega
      have ok := gm_look_take (side := w % 4 - 1) hP L sh
      have take : ∀ out, gm_take (w % 4 - 1) (gm_q1 (gm_h s (v / 8))) 0 v (gm_u0 s) = some out → (out.1 = 0 → gm_lk m (w / 4) out.2.2.2 out.2.1 = some r) → (out.1 ≠ 0 → r = (2, out.2.2.2, out.2.1)) → (match E with | (y_values, y_variables, y_waits, y_at, y_world, y_steps, y_blame, y_result, y_sort, y_one, y_two, y_from, y_to, y_label, y_held, y_around, y_waiting, y_operand, y_outer, y_kept) => wY_look_109 post (wY_look_39 post (nI a) (nI n0) (m + 2)) (nI a) (nI n0) (-3) (nI w) (if w % 4 - 1 = 0 then 1 else 0) (nI v) y_parts y_count y_place y_where y_values y_variables y_waits y_at y_world y_steps y_blame y_result y_given y_ty y_part y_kind y_end y_state y_with y_runKind y_runEnd y_runWith y_sort y_one y_two y_from y_to y_label y_held y_around y_waiting y_operand y_outer y_kept) := by
        intro out Ht o1 o2
        rw [Ht] at ok
        have g := gy_partOf (y_parts := y_parts) (y_count := y_count) (y_place := y_place) (y_where := y_where) (y_given := y_given) (y_ty := y_ty) (y_part := y_part) (y_kind := y_kind) (y_end := y_end) (y_state := y_state) (y_with := y_with) (y_runKind := y_runKind) (y_runEnd := y_runEnd) (y_runWith := y_runWith) (R0 := fun r_26 u => match u with | (y_parts, y_count, y_place, y_where, y_values, y_variables, y_waits, y_at, y_world, y_steps, y_blame, y_result, y_given, y_ty, y_part, y_kind, y_end, y_state, y_with, y_runKind, y_runEnd, y_runWith, y_sort, y_one, y_two, y_from, y_to, y_label, y_held, y_around, y_waiting, y_operand, y_outer, y_kept) => (((y_blame = 0 → (∀ z : Int32, z = nI w >>> ((2 : Int32) &&& 31) → (wY_look_39 post (nI a) (nI n0) (m + 2) r_26 (-3) z y_parts y_count y_place y_where y_values y_variables y_waits y_at y_world y_steps y_blame y_result y_given y_ty y_part y_kind y_end y_state y_with y_runKind y_runEnd y_runWith y_sort y_one y_two y_from y_to y_label y_held y_around y_waiting y_operand y_outer y_kept))) ∧ (¬ y_blame = 0 → (∀ z : Int32, z = nI w >>> ((2 : Int32) &&& 31) → (wY_look_39 post (nI a) (nI n0) (m + 2) r_26 (-2) z y_parts y_count y_place y_where y_values y_variables y_waits y_at y_world y_steps y_blame y_result y_given y_ty y_part y_kind y_end y_state y_with y_runKind y_runEnd y_runWith y_sort y_one y_two y_from y_to y_label y_held y_around y_waiting y_operand y_outer y_kept)))))) (s := gm_u0 s) (show w % 4 - 1 < 2 by omega) hK Ht hH (fun z E' hE' hS => by
          have rs : gy_rs E' = gy_rs E := hS.2.2.2.1
          have k := ih (w / 4) out.2.2.2 out.2.1 E' r (by rw [Nat.pow_succ] at hw; omega) (by omega) (o1 z) (gm_ok_e ok z).1 hE' (fun q E'' a1 a2 => K0 q E'' a1 (a2.trans rs)) (fun q E'' a1 a2 => K1 q E'' a1 (a2.trans rs)) (fun q E'' a1 a2 => K2 q E'' a1 (a2.trans rs))
          obtain ⟨y_values, y_variables, y_waits, y_at, y_world, y_steps, y_blame, y_result, y_sort, y_one, y_two, y_from, y_to, y_label, y_held, y_around, y_waiting, y_operand, y_outer, y_kept⟩ := E'
          have hb : y_blame = 0 := hE'.2.2.2.2.2.2.1
          exact br_t hb (nm_r e2 k)) (fun z x E' hE rs => by
          have c4 := gm_take_code _ _ _ _ _ Ht z
          have er := o2 z
          have b := hE.2.1 c4
          have nb : ¬ gy_bl E' = 0 := by rw [b.1]; exact gm_lb_ne b.2
          have k := fail (-2) E' x (nI (w / 4)) (m + 1) (by decide) (K2 (by rw [er]) E' (by rw [er]; exact hE.2.2.2) rs)
          obtain ⟨y_values, y_variables, y_waits, y_at, y_world, y_steps, y_blame, y_result, y_sort, y_one, y_two, y_from, y_to, y_label, y_held, y_around, y_waiting, y_operand, y_outer, y_kept⟩ := E'
          exact br_f nb (nm_r e2 k))
        obtain ⟨y_values, y_variables, y_waits, y_at, y_world, y_steps, y_blame, y_result, y_sort, y_one, y_two, y_from, y_to, y_label, y_held, y_around, y_waiting, y_operand, y_outer, y_kept⟩ := E
        exact g
      have l109 : ∀ q : Int32, q = (if w % 4 - 1 = 0 then 1 else 0) → (match E with | (y_values, y_variables, y_waits, y_at, y_world, y_steps, y_blame, y_result, y_sort, y_one, y_two, y_from, y_to, y_label, y_held, y_around, y_waiting, y_operand, y_outer, y_kept) => wY_look_109 post (wY_look_39 post (nI a) (nI n0) (m + 2)) (nI a) (nI n0) (-3) (nI w) q (nI v) y_parts y_count y_place y_where y_values y_variables y_waits y_at y_world y_steps y_blame y_result y_given y_ty y_part y_kind y_end y_state y_with y_runKind y_runEnd y_runWith y_sort y_one y_two y_from y_to y_label y_held y_around y_waiting y_operand y_outer y_kept) := by
        intro q eq
        subst eq
        refine gm_lk2_e H ?_ ?_
        · intro out e z H1
          exact take out e (fun _ => H1) (fun y => absurd z y)
        · intro out e z er
          exact take out e (fun y => absurd y z) (fun _ => er)
      obtain ⟨y_values, y_variables, y_waits, y_at, y_world, y_steps, y_blame, y_result, y_sort, y_one, y_two, y_from, y_to, y_label, y_held, y_around, y_waiting, y_operand, y_outer, y_kept⟩ := E
      have sort' : y_sort (v / 8) = nI (gm_ck (gm_h s (v / 8))) := sort
      refine br_f (by rw [e3]; exact nz4) (br_t rfl ?_)
      rw [gy_div (by omega), nI_clamp (show v / 8 < 2 ^ 31 by omega), sort']
      refine And.intro (by decide) (And.intro (vp_in_nI (by omega) (by decide)) (pk_le (gm_ck (gm_h s (v / 8))) 4 (fun z => by omega) (fun z => br_f (show ¬ (1 : Int32) = 0 by decide) ?_)))
      rw [e3]
      refine pk_eq (w % 4) 3 (fun y => absurd y c3) (fun _ => pk_eq (w % 4) 1 (fun y => ?_) (fun y => ?_))
      · exact l109 1 (by rw [if_pos (by omega)])
      · exact l109 0 (by rw [if_neg (by omega)])
end
