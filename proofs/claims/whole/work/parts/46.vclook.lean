/-! ===== 46: look, both sides ===== -/
section
variable {y_parts y_count y_place y_where y_values y_variables y_waits y_at y_world y_steps y_blame y_result y_given : Int32} {y_ty y_part y_kind y_end y_state y_with y_runKind y_runEnd y_runWith y_sort y_one y_two y_from y_to y_label y_held y_around y_waiting y_operand y_outer y_kept : Nat → Int32}
theorem gy_facet {post : Int32 → SY → Prop} {P : gm_P} {cn : Nat} {G : Nat → List (Lean.RArray Nat)} {a n0 v : Nat} {s : gm_S} {E : gy_D} (ha : a < 3) (L : gm_L P cn G s v) (hH : gy_H y_ty s E) (K : post (gm_ans s v a) (gy_Y y_parts y_count y_place y_where y_given y_ty y_part y_kind y_end y_state y_with y_runKind y_runEnd y_runWith (gy_setv E (nI n0)))) : (match E with | (y_values, y_variables, y_waits, y_at, y_world, y_steps, y_blame, y_result, y_sort, y_one, y_two, y_from, y_to, y_label, y_held, y_around, y_waiting, y_operand, y_outer, y_kept) => wY_look_134 post (nI a) (nI n0) (nI v) (-3) y_parts y_count y_place y_where y_values y_variables y_waits y_at y_world y_steps y_blame y_result y_given y_ty y_part y_kind y_end y_state y_with y_runKind y_runEnd y_runWith y_sort y_one y_two y_from y_to y_label y_held y_around y_waiting y_operand y_outer y_kept) := by
  obtain ⟨lv, ck1, ck6⟩ := gm_L_ck L
  obtain ⟨y_values, y_variables, y_waits, y_at, y_world, y_steps, y_blame, y_result, y_sort, y_one, y_two, y_from, y_to, y_label, y_held, y_around, y_waiting, y_operand, y_outer, y_kept⟩ := E
  obtain ⟨⟨h1, h2, h3⟩, _⟩ := hH
  have cv := h3 _ lv
  have vin : vp_in (nI (v / 8)) 5000 := vp_in_nI (by omega) (by decide)
  unfold gm_ans at K
  have es : gm_sh (gm_ck (gm_h s (v / 8))) = (if gm_ck (gm_h s (v / 8)) < 3 then gm_ck (gm_h s (v / 8)) else if gm_ck (gm_h s (v / 8)) < 5 then 3 else 4) := rfl
  show wY_look_134 post (nI a) (nI n0) (nI v) (-3) y_parts y_count y_place y_where y_values y_variables y_waits y_at y_world y_steps y_blame y_result y_given y_ty y_part y_kind y_end y_state y_with y_runKind y_runEnd y_runWith y_sort y_one y_two y_from y_to y_label y_held y_around y_waiting y_operand y_outer y_kept
  unfold wY_look_134
  rw [gy_div (by omega), nI_clamp (show v / 8 < 2 ^ 31 by omega), cv.1]
  refine br_t rfl (And.intro (by decide) (And.intro vin (nm_e (pk_eq a 0 (fun z => ?_) (fun z0 => pk_eq a 1 (fun z => ?_) (fun z1 => ?_))))))
  · rw [if_pos z, es] at K
    refine pk_le 3 (gm_ck (gm_h s (v / 8))) (fun c => pk_le 5 (gm_ck (gm_h s (v / 8))) (fun c5 => ?_) (fun c5 => ?_)) (fun c => ?_)
    · rw [if_neg (by omega), if_neg (by omega)] at K
      exact K
    · rw [if_neg (by omega), if_pos (by omega)] at K
      exact K
    · rw [if_pos c] at K
      exact K
  · rw [if_neg z0, if_pos z] at K
    refine pk_le 3 (gm_ck (gm_h s (v / 8))) (fun c => ?_) (fun c => And.intro (by decide) (And.intro vin ?_))
    · rw [if_neg (by omega)] at K
      exact K
    · rw [if_pos c] at K
      rw [cv.2.2.1 c]
      exact K
  · rw [if_neg z0, if_neg z1] at K
    rw [gy_and7 (by omega)]
    refine pk_eq (v % 8) 0 (fun c => ?_) (fun c => ?_)
    · rw [if_pos c] at K
      exact K
    · rw [if_neg c] at K
      exact K
end
theorem i_vc_look {k : Nat} {u : SX} {v : SY} (I : i_Rel k u v) (hk : k + 3 ≤ 1536) (v1 : Int32) (v2 : Int32) : wpX_look (fun r u' => wpY_look (fun r' v' => r' = r ∧ i_Rel (k + 3) u' v') v v1 v2) u v1 v2 := by
  have I' := i_up I
  obtain ⟨x_typeDraft, x_typeCount, x_count, x_wrongAt, x_keptPlace, x_cellCount, x_scopeCount, x_frameCount, x_mode, x_atToken, x_scope, x_current, x_callee, x_side, x_ending, x_faultLabel, x_stepsTaken, x_runVerdict, x_runBlame, x_result, x_named, x_kinds, x_values, x_ends, x_types, x_operands, x_targets, x_cellShape, x_cellLabel, x_cellOne, x_cellTwo, x_cellThree, x_scopeValue, x_scopeOuter, x_frameKind, x_frameOne, x_frameTwo, x_frameThree, x_nKind, x_nOne, x_nTwo, x_nThree⟩ := u
  obtain ⟨y_parts, y_count, y_place, y_where, y_values, y_variables, y_waits, y_at, y_world, y_steps, y_blame, y_result, y_given, y_ty, y_part, y_kind, y_end, y_state, y_with, y_runKind, y_runEnd, y_runWith, y_sort, y_one, y_two, y_from, y_to, y_label, y_held, y_around, y_waiting, y_operand, y_outer, y_kept⟩ := v
  obtain ⟨_, ⟨l1, l2, l3, l4⟩, hD, hN, h4, h5, h6, h7⟩ := I
  subst l1 l2 l3 l4
  rcases h7 with ⟨rv, gv, hV⟩ | ⟨rv, gv⟩
  rotate_left
  · refine br_f rv ?_
    exact br_t gv ⟨rfl, I'⟩
  have ng : ¬ y_given = 0 := by rw [gv]; decide
  have both : ∀ R : Int32 → Prop, R 0 → R 1 → wpY_out R v2 3 := fun R a b => br_c (fun _ => b) (fun _ => br_c (fun _ => a) (fun _ => b))
  by_cases n0 : v1 < 0
  · refine br_t rv (br_t n0 ?_)
    have ge : ¬ (0 : Int32) ≤ v1 := Int32.not_le.mpr n0
    exact br_f ng (both _ (br_t rfl (br_f ge ⟨rfl, I'⟩)) (br_f (show ¬ (1 : Int32) = 0 by decide) ⟨rfl, I'⟩))
  by_cases m0 : v2 < 0
  · refine br_t rv (br_f n0 (br_t m0 ?_))
    exact br_f ng (br_t m0 (br_f (show ¬ (1 : Int32) = 0 by decide) ⟨rfl, I'⟩))
  by_cases m3 : v2 < 3
  rotate_left
  · refine br_t rv (br_f n0 (br_f m0 (br_f m3 ?_)))
    exact br_f ng (br_f m0 (br_f m3 (br_f (show ¬ (1 : Int32) = 0 by decide) ⟨rfl, I'⟩)))
  obtain ⟨w, hw, rfl⟩ := nI_of n0
  obtain ⟨a, ha31, rfl⟩ := nI_of m0
  have ha : a < 3 := by
    have : nI a < nI 3 := m3
    rw [nI_ltI ha31 (by decide)] at this
    exact this
  obtain ⟨P, cn, G, s, vv, SF, L, hX, hY, xr, yr⟩ := hV
  have yr' : y_result = nI vv := yr
  obtain ⟨kd, vl, nm, cnt, d1, d2, dx, dy⟩ := id hN
  have hK : gy_K y_ty := dy.2.2.2.1
  have cc : x_cellCount = nI (gm_n s) := hX.1.1
  have yv : y_values = nI (gm_n s) := hY.1.1
  have yb : y_blame = 0 := hY.2.2.2.2.2.2.1
  obtain ⟨r, Hlk, ss, Lr, rc⟩ := gm_lk_ok SF 16 w s vv L
  have fin : ∀ (D' : gx_D) (E' : gy_D), gx_H r.2.1 D' → gy_H y_ty r.2.1 (gy_clr E') → gy_rs E' = y_result → i_Rel (k + 3) (gx_X x_typeDraft x_typeCount x_count x_wrongAt x_keptPlace x_runVerdict x_runBlame x_result x_named x_kinds x_values x_ends x_types x_operands x_targets (gx_setc D' (nI (gm_n s)))) (gy_Y y_parts y_count y_place y_where y_given y_ty y_part y_kind y_end y_state y_with y_runKind y_runEnd y_runWith (gy_setv E' (nI (gm_n s)))) := by
    intro D' E' g1 g2 g3
    have b1 := gx_back g1 ss
    have b2 := gy_back g2 ss
    have b3 : gy_rs (gy_setv E' (nI (gm_n s))) = nI vv := by
      obtain ⟨y_values, y_variables, y_waits, y_at, y_world, y_steps, y_blame, y_result, y_sort, y_one, y_two, y_from, y_to, y_label, y_held, y_around, y_waiting, y_operand, y_outer, y_kept⟩ := E'
      exact (show y_result = _ from g3).trans yr'
    have st : gx_stp (gx_setc D' (nI (gm_n s))) = gy_sp (gy_setv E' (nI (gm_n s))) := by
      obtain ⟨x_cellCount, x_scopeCount, x_frameCount, x_mode, x_atToken, x_scope, x_current, x_callee, x_side, x_ending, x_faultLabel, x_stepsTaken, x_cellShape, x_cellLabel, x_cellOne, x_cellTwo, x_cellThree, x_scopeValue, x_scopeOuter, x_frameKind, x_frameOne, x_frameTwo, x_frameThree⟩ := D'
      obtain ⟨y_values, y_variables, y_waits, y_at, y_world, y_steps, y_blame, y_result, y_sort, y_one, y_two, y_from, y_to, y_label, y_held, y_around, y_waiting, y_operand, y_outer, y_kept⟩ := E'
      obtain ⟨_, _, _, q1, _⟩ := b1
      obtain ⟨_, _, _, _, q2, _⟩ := b2
      exact q1.trans q2.symm
    obtain ⟨x_cellCount, x_scopeCount, x_frameCount, x_mode, x_atToken, x_scope, x_current, x_callee, x_side, x_ending, x_faultLabel, x_stepsTaken, x_cellShape, x_cellLabel, x_cellOne, x_cellTwo, x_cellThree, x_scopeValue, x_scopeOuter, x_frameKind, x_frameOne, x_frameTwo, x_frameThree⟩ := D'
    obtain ⟨y_values, y_variables, y_waits, y_at, y_world, y_steps, y_blame, y_result, y_sort, y_one, y_two, y_from, y_to, y_label, y_held, y_around, y_waiting, y_operand, y_outer, y_kept⟩ := E'
    exact ⟨rfl, ⟨rfl, rfl, rfl, rfl⟩, hD, hN, h4, h5.trans yb, st, Or.inl ⟨rv, gv, P, cn, G, s, vv, SF, L, b1, b2, xr, b3⟩⟩
  have yside : ∀ (q : Int32) (D' : gx_D), gx_H r.2.1 D' → (r.1 = 0 → q = gm_ans r.2.1 r.2.2 a) → (r.1 = 1 → q = -1) → (r.1 = 2 → q = -2) → wpY_look (fun r' v' => r' = q ∧ i_Rel (k + 3) (gx_X x_typeDraft x_typeCount x_count x_wrongAt x_keptPlace x_runVerdict x_runBlame x_result x_named x_kinds x_values x_ends x_types x_operands x_targets (gx_setc D' (nI (gm_n s)))) v') (y_parts, y_count, y_place, y_where, y_values, y_variables, y_waits, y_at, y_world, y_steps, y_blame, y_result, y_given, y_ty, y_part, y_kind, y_end, y_state, y_with, y_runKind, y_runEnd, y_runWith, y_sort, y_one, y_two, y_from, y_to, y_label, y_held, y_around, y_waiting, y_operand, y_outer, y_kept) (nI w) (nI a) := by
    intro q D' g1 q0 q1 q2
    have main := gy_lk (post := fun r' v' => r' = q ∧ i_Rel (k + 3) (gx_X x_typeDraft x_typeCount x_count x_wrongAt x_keptPlace x_runVerdict x_runBlame x_result x_named x_kinds x_values x_ends x_types x_operands x_targets (gx_setc D' (nI (gm_n s)))) v') (y_parts := y_parts) (y_count := y_count) (y_place := y_place) (y_where := y_where) (y_given := y_given) (y_ty := y_ty) (y_part := y_part) (y_kind := y_kind) (y_end := y_end) (y_state := y_state) (y_with := y_with) (y_runKind := y_runKind) (y_runEnd := y_runEnd) (y_runWith := y_runWith) (a := a) (n0 := gm_n s) SF hK 16 w s vv (y_values, y_variables, y_waits, y_at, y_world, y_steps, y_blame, y_result, y_sort, y_one, y_two, y_from, y_to, y_label, y_held, y_around, y_waiting, y_operand, y_outer, y_kept) r (Nat.lt_of_lt_of_le hw (by decide)) hw Hlk L hY (fun z E' e1 e2 => gy_facet (y_parts := y_parts) (y_count := y_count) (y_place := y_place) (y_where := y_where) (y_given := y_given) (y_ty := y_ty) (y_part := y_part) (y_kind := y_kind) (y_end := y_end) (y_state := y_state) (y_with := y_with) (y_runKind := y_runKind) (y_runEnd := y_runEnd) (y_runWith := y_runWith) ha (Lr z) e1 ⟨(q0 z).symm, fin D' E' g1 (gy_clr_H e1) e2⟩) (fun z E' e1 e2 => ⟨(q1 z).symm, fin D' E' g1 e1 e2⟩) (fun z E' e1 e2 => ⟨(q2 z).symm, fin D' E' g1 e1 e2⟩)
    have main' : wY_look_39 (fun r' v' => r' = q ∧ i_Rel (k + 3) (gx_X x_typeDraft x_typeCount x_count x_wrongAt x_keptPlace x_runVerdict x_runBlame x_result x_named x_kinds x_values x_ends x_types x_operands x_targets (gx_setc D' (nI (gm_n s)))) v') (nI a) y_values 18 y_result (-3) (nI w) y_parts y_count y_place y_where y_values y_variables y_waits y_at y_world y_steps y_blame y_result y_given y_ty y_part y_kind y_end y_state y_with y_runKind y_runEnd y_runWith y_sort y_one y_two y_from y_to y_label y_held y_around y_waiting y_operand y_outer y_kept := by
      rw [yr']
      have m2 := main
      simp only [yr', yv] at m2 ⊢
      exact m2
    exact br_f ng (br_f m0 (br_t m3 (br_t rfl (br_t (nI_pos' hw) (Exists.intro 18 main')))))
  refine br_t rv (br_f n0 (br_f m0 (br_t m3 (Exists.intro 18 ?_))))
  have xm := gx_lk (post := fun r u' => wpY_look (fun r' v' => r' = r ∧ i_Rel (k + 3) u' v') (y_parts, y_count, y_place, y_where, y_values, y_variables, y_waits, y_at, y_world, y_steps, y_blame, y_result, y_given, y_ty, y_part, y_kind, y_end, y_state, y_with, y_runKind, y_runEnd, y_runWith, y_sort, y_one, y_two, y_from, y_to, y_label, y_held, y_around, y_waiting, y_operand, y_outer, y_kept) (nI w) (nI a)) (x_typeDraft := x_typeDraft) (x_typeCount := x_typeCount) (x_count := x_count) (x_wrongAt := x_wrongAt) (x_keptPlace := x_keptPlace) (x_runVerdict := x_runVerdict) (x_runBlame := x_runBlame) (x_result := x_result) (x_named := x_named) (x_kinds := x_kinds) (x_values := x_values) (x_ends := x_ends) (x_types := x_types) (x_operands := x_operands) (x_targets := x_targets) (a := a) (n0 := gm_n s) SF hw 16 0 s vv (x_cellCount, x_scopeCount, x_frameCount, x_mode, x_atToken, x_scope, x_result, x_callee, x_side, x_ending, x_faultLabel, x_stepsTaken, x_cellShape, x_cellLabel, x_cellOne, x_cellTwo, x_cellThree, x_scopeValue, x_scopeOuter, x_frameKind, x_frameOne, x_frameTwo, x_frameThree) r rfl (by rw [Nat.pow_zero, Nat.div_one]; exact Hlk) L hX xr (fun z D' e1 e2 => gx_facet (x_typeDraft := x_typeDraft) (x_typeCount := x_typeCount) (x_count := x_count) (x_wrongAt := x_wrongAt) (x_keptPlace := x_keptPlace) (x_runVerdict := x_runVerdict) (x_runBlame := x_runBlame) (x_result := x_result) (x_named := x_named) (x_kinds := x_kinds) (x_values := x_values) (x_ends := x_ends) (x_types := x_types) (x_operands := x_operands) (x_targets := x_targets) ha (Lr z) e1 e2 (yside _ D' e1 (fun _ => rfl) (fun y => by omega) (fun y => by omega))) (fun z D' e1 => yside (-1) D' e1 (fun y => by omega) (fun _ => rfl) (fun y => by omega)) (fun z D' e1 => yside (-2) D' e1 (fun y => by omega) (fun y => by omega) (fun _ => rfl))
  rw [cc]
  simp only [cc] at xm
  exact xm
