/-! ===== 39: token, and new objects ===== -/
def gr_vd (c : Nat) (v : Int32) : Prop := (c = 1 → ¬ v < 0 ∧ v < 2) ∧ (c = 2 ∨ c = 3 ∨ c = 11 → ¬ v < 0 ∧ v < 10)
section
variable {x_typeDraft x_typeCount x_count x_wrongAt x_keptPlace x_cellCount x_scopeCount x_frameCount x_mode x_atToken x_scope x_current x_callee x_side x_ending x_faultLabel x_stepsTaken x_runVerdict x_runBlame x_result : Int32} {x_named x_kinds x_values x_ends x_types x_operands x_targets x_cellShape x_cellLabel x_cellOne x_cellTwo x_cellThree x_scopeValue x_scopeOuter x_frameKind x_frameOne x_frameTwo x_frameThree : Nat → Int32}
variable {y_parts y_count y_place y_where y_values y_variables y_waits y_at y_world y_steps y_blame y_result y_given : Int32} {y_ty y_part y_kind y_end y_state y_with y_runKind y_runEnd y_runWith y_sort y_one y_two y_from y_to y_label y_held y_around y_waiting y_operand y_outer y_kept : Nat → Int32}
theorem gx_token {P : Int32 → SX → Prop} {c cnt : Nat} {v2 : Int32} (hc : c < 12) (hn : cnt < 36) (A : gr_vd c v2 → P 1 (x_typeDraft, x_typeCount, nI (cnt + 1), x_wrongAt, x_keptPlace, x_cellCount, x_scopeCount, x_frameCount, x_mode, x_atToken, x_scope, x_current, x_callee, x_side, x_ending, x_faultLabel, x_stepsTaken, x_runVerdict, x_runBlame, x_result, x_named, upd x_kinds cnt (nI c), upd x_values cnt v2, x_ends, x_types, x_operands, x_targets, x_cellShape, x_cellLabel, x_cellOne, x_cellTwo, x_cellThree, x_scopeValue, x_scopeOuter, x_frameKind, x_frameOne, x_frameTwo, x_frameThree, 32768, 32768, 32768, 32768)) (B : ¬ gr_vd c v2 → P 0 (x_typeDraft, x_typeCount, nI cnt, x_wrongAt, x_keptPlace, x_cellCount, x_scopeCount, x_frameCount, x_mode, x_atToken, x_scope, x_current, x_callee, x_side, x_ending, x_faultLabel, x_stepsTaken, x_runVerdict, x_runBlame, x_result, x_named, x_kinds, x_values, x_ends, x_types, x_operands, x_targets, x_cellShape, x_cellLabel, x_cellOne, x_cellTwo, x_cellThree, x_scopeValue, x_scopeOuter, x_frameKind, x_frameOne, x_frameTwo, x_frameThree, 32768, 32768, 32768, 32768)) : wpX_token P (x_typeDraft, x_typeCount, nI cnt, x_wrongAt, x_keptPlace, x_cellCount, x_scopeCount, x_frameCount, x_mode, x_atToken, x_scope, x_current, x_callee, x_side, x_ending, x_faultLabel, x_stepsTaken, x_runVerdict, x_runBlame, x_result, x_named, x_kinds, x_values, x_ends, x_types, x_operands, x_targets, x_cellShape, x_cellLabel, x_cellOne, x_cellTwo, x_cellThree, x_scopeValue, x_scopeOuter, x_frameKind, x_frameOne, x_frameTwo, x_frameThree, 32768, 32768, 32768, 32768) (nI c) v2 := by
  have e : (nI cnt).toNatClampNeg = cnt := nI_clamp (by omega)
  have vin : vp_in (nI cnt) 36 := vp_in_nI hn (by decide)
  have acc : gr_vd c v2 → wX_token_41 P (nI c) v2 x_typeDraft x_typeCount (nI cnt) x_wrongAt x_keptPlace x_cellCount x_scopeCount x_frameCount x_mode x_atToken x_scope x_current x_callee x_side x_ending x_faultLabel x_stepsTaken x_runVerdict x_runBlame x_result x_named x_kinds x_values x_ends x_types x_operands x_targets x_cellShape x_cellLabel x_cellOne x_cellTwo x_cellThree x_scopeValue x_scopeOuter x_frameKind x_frameOne x_frameTwo x_frameThree 32768 32768 32768 32768 := fun h => And.intro vin (nm_r (congrArg (fun k => upd x_kinds k (nI c)) e) (And.intro vin (nm_r (congrArg (fun k => upd x_values k v2) e) (nm_r (nI_1 cnt) (A h)))))
  refine br_f (nI_pos (by omega)) (br_f (nI_nlt (a := 11) (b := c) (by omega) (by decide)) (br_t (nI_lt (b := 36) hn (by decide)) ?_))
  have rng : ∀ m : Int32, ¬ m = 0 → (gr_vd c v2 ↔ ¬ v2 < 0 ∧ v2 < m) → ((m = 0 → wX_token_41 P (nI c) v2 x_typeDraft x_typeCount (nI cnt) x_wrongAt x_keptPlace x_cellCount x_scopeCount x_frameCount x_mode x_atToken x_scope x_current x_callee x_side x_ending x_faultLabel x_stepsTaken x_runVerdict x_runBlame x_result x_named x_kinds x_values x_ends x_types x_operands x_targets x_cellShape x_cellLabel x_cellOne x_cellTwo x_cellThree x_scopeValue x_scopeOuter x_frameKind x_frameOne x_frameTwo x_frameThree 32768 32768 32768 32768) ∧ (¬ m = 0 → ((v2 < 0 → P 0 (x_typeDraft, x_typeCount, nI cnt, x_wrongAt, x_keptPlace, x_cellCount, x_scopeCount, x_frameCount, x_mode, x_atToken, x_scope, x_current, x_callee, x_side, x_ending, x_faultLabel, x_stepsTaken, x_runVerdict, x_runBlame, x_result, x_named, x_kinds, x_values, x_ends, x_types, x_operands, x_targets, x_cellShape, x_cellLabel, x_cellOne, x_cellTwo, x_cellThree, x_scopeValue, x_scopeOuter, x_frameKind, x_frameOne, x_frameTwo, x_frameThree, 32768, 32768, 32768, 32768)) ∧ (¬ v2 < 0 → ((v2 < m → wX_token_41 P (nI c) v2 x_typeDraft x_typeCount (nI cnt) x_wrongAt x_keptPlace x_cellCount x_scopeCount x_frameCount x_mode x_atToken x_scope x_current x_callee x_side x_ending x_faultLabel x_stepsTaken x_runVerdict x_runBlame x_result x_named x_kinds x_values x_ends x_types x_operands x_targets x_cellShape x_cellLabel x_cellOne x_cellTwo x_cellThree x_scopeValue x_scopeOuter x_frameKind x_frameOne x_frameTwo x_frameThree 32768 32768 32768 32768) ∧ (¬ v2 < m → P 0 (x_typeDraft, x_typeCount, nI cnt, x_wrongAt, x_keptPlace, x_cellCount, x_scopeCount, x_frameCount, x_mode, x_atToken, x_scope, x_current, x_callee, x_side, x_ending, x_faultLabel, x_stepsTaken, x_runVerdict, x_runBlame, x_result, x_named, x_kinds, x_values, x_ends, x_types, x_operands, x_targets, x_cellShape, x_cellLabel, x_cellOne, x_cellTwo, x_cellThree, x_scopeValue, x_scopeOuter, x_frameKind, x_frameOne, x_frameTwo, x_frameThree, 32768, 32768, 32768, 32768))))))) := fun m m0 h => br_f m0 (br_c (fun z => B (fun y => (h.mp y).1 z)) (fun z => br_c (fun y => acc (h.mpr ⟨z, y⟩)) (fun y => B (fun q => y (h.mp q).2))))
  refine pk_eq c 1 (fun z => rng 2 (by decide) ⟨fun h => h.1 z, fun h => ⟨fun _ => h, fun y => by omega⟩⟩) (fun n1 => pk_eq c 2 (fun z => rng 10 (by decide) ⟨fun h => h.2 (Or.inl z), fun h => ⟨fun y => by omega, fun _ => h⟩⟩) (fun n2 => pk_eq c 3 (fun z => rng 10 (by decide) ⟨fun h => h.2 (Or.inr (Or.inl z)), fun h => ⟨fun y => by omega, fun _ => h⟩⟩) (fun n3 => pk_eq c 11 (fun z => rng 10 (by decide) ⟨fun h => h.2 (Or.inr (Or.inr z)), fun h => ⟨fun y => by omega, fun _ => h⟩⟩) (fun n11 => br_t rfl (acc ⟨fun y => absurd y n1, fun y => by omega⟩)))))
theorem gy_token {P : Int32 → SY → Prop} {c cnt : Nat} {v2 : Int32} (hc : c < 12) (hn : cnt < 36) (A : gr_vd c v2 → P 1 (y_parts, nI (cnt + 1), y_place, y_where, y_values, y_variables, y_waits, y_at, y_world, y_steps, y_blame, y_result, y_given, y_ty, y_part, upd y_kind cnt (nI c), y_end, y_state, upd y_with cnt v2, y_runKind, y_runEnd, y_runWith, y_sort, y_one, y_two, y_from, y_to, y_label, y_held, y_around, y_waiting, y_operand, y_outer, y_kept)) (B : ¬ gr_vd c v2 → P 0 (y_parts, nI cnt, y_place, y_where, y_values, y_variables, y_waits, y_at, y_world, y_steps, y_blame, y_result, y_given, y_ty, y_part, y_kind, y_end, y_state, y_with, y_runKind, y_runEnd, y_runWith, y_sort, y_one, y_two, y_from, y_to, y_label, y_held, y_around, y_waiting, y_operand, y_outer, y_kept)) : wpY_token P (y_parts, nI cnt, y_place, y_where, y_values, y_variables, y_waits, y_at, y_world, y_steps, y_blame, y_result, y_given, y_ty, y_part, y_kind, y_end, y_state, y_with, y_runKind, y_runEnd, y_runWith, y_sort, y_one, y_two, y_from, y_to, y_label, y_held, y_around, y_waiting, y_operand, y_outer, y_kept) (nI c) v2 := by
  have e : (nI cnt).toNatClampNeg = cnt := nI_clamp (by omega)
  have vin : vp_in (nI cnt) 36 := vp_in_nI hn (by decide)
  have e1 : upd y_kind (nI cnt).toNatClampNeg (vp_nar .byte (nI c).toInt8.toInt32) = upd y_kind cnt (nI c) := by rw [e, gy_nb c (by omega)]
  have acc : gr_vd c v2 → wY_token_60 P (nI c) v2 y_parts (nI cnt) y_place y_where y_values y_variables y_waits y_at y_world y_steps y_blame y_result y_given y_ty y_part y_kind y_end y_state y_with y_runKind y_runEnd y_runWith y_sort y_one y_two y_from y_to y_label y_held y_around y_waiting y_operand y_outer y_kept := fun h => And.intro vin (nm_r e1 (nm_r (nI_1 cnt) (And.intro vin (nm_r (congrArg (fun k => upd y_with k v2) e) (A h)))))
  have out : ∀ (m : Int32) (R : Int32 → Prop), (¬ v2 < 0 ∧ v2 < m → R 0) → (¬ (¬ v2 < 0 ∧ v2 < m) → R 1) → wpY_out R v2 m := fun m R a b => br_c (fun z => b (fun y => y.1 z)) (fun z => br_c (fun y => a ⟨z, y⟩) (fun y => b (fun q => y q.2)))
  have t49 : (c = 2 ∨ c = 3 ∨ c = 11) → wY_token_49 P (nI c) v2 y_parts (nI cnt) y_place y_where y_values y_variables y_waits y_at y_world y_steps y_blame y_result y_given y_ty y_part y_kind y_end y_state y_with y_runKind y_runEnd y_runWith y_sort y_one y_two y_from y_to y_label y_held y_around y_waiting y_operand y_outer y_kept := fun h => out 10 _ (fun z => br_t rfl (acc ⟨fun y => by omega, fun _ => z⟩)) (fun z => br_f (show ¬ (1 : Int32) = 0 by decide) (B (fun y => z (y.2 h))))
  have t33 : (c = 1 → ¬ v2 < 0 ∧ v2 < 2) → wY_token_33 P (nI c) v2 y_parts (nI cnt) y_place y_where y_values y_variables y_waits y_at y_world y_steps y_blame y_result y_given y_ty y_part y_kind y_end y_state y_with y_runKind y_runEnd y_runWith y_sort y_one y_two y_from y_to y_label y_held y_around y_waiting y_operand y_outer y_kept := fun h => pk_eq c 2 (fun z => t49 (Or.inl z)) (fun n2 => pk_eq c 3 (fun z => t49 (Or.inr (Or.inl z))) (fun n3 => pk_eq c 11 (fun z => t49 (Or.inr (Or.inr z))) (fun n11 => acc ⟨h, fun y => by omega⟩)))
  unfold wpY_token
  refine br_f (nI_pos (by omega)) (br_t (nI_lt (b := 12) hc (by decide)) (br_t rfl (pk_eq cnt 36 (fun z => by omega) (fun _ => pk_eq c 1 (fun z => ?_) (fun z => t33 (fun y => absurd y z))))))
  exact out 2 _ (fun y => br_t rfl (t33 (fun _ => y))) (fun y => br_f (show ¬ (1 : Int32) = 0 by decide) (B (fun q => y (q.1 z))))
end
theorem i_vc_token {k : Nat} {u : SX} {v : SY} (I : i_Rel k u v) (hk : k + 3 ≤ 1536) (v1 : Int32) (v2 : Int32) : wpX_token (fun r u' => wpY_token (fun r' v' => r' = r ∧ i_Rel (k + 3) u' v') v v1 v2) u v1 v2 := by
  have I' := i_up I
  obtain ⟨x_typeDraft, x_typeCount, x_count, x_wrongAt, x_keptPlace, x_cellCount, x_scopeCount, x_frameCount, x_mode, x_atToken, x_scope, x_current, x_callee, x_side, x_ending, x_faultLabel, x_stepsTaken, x_runVerdict, x_runBlame, x_result, x_named, x_kinds, x_values, x_ends, x_types, x_operands, x_targets, x_cellShape, x_cellLabel, x_cellOne, x_cellTwo, x_cellThree, x_scopeValue, x_scopeOuter, x_frameKind, x_frameOne, x_frameTwo, x_frameThree, x_nKind, x_nOne, x_nTwo, x_nThree⟩ := u
  obtain ⟨y_parts, y_count, y_place, y_where, y_values, y_variables, y_waits, y_at, y_world, y_steps, y_blame, y_result, y_given, y_ty, y_part, y_kind, y_end, y_state, y_with, y_runKind, y_runEnd, y_runWith, y_sort, y_one, y_two, y_from, y_to, y_label, y_held, y_around, y_waiting, y_operand, y_outer, y_kept⟩ := v
  have bad : v1 < 0 ∨ 11 < v1 → wpY_token (fun r' v' => r' = 0 ∧ i_Rel (k + 3) (x_typeDraft, x_typeCount, x_count, x_wrongAt, x_keptPlace, x_cellCount, x_scopeCount, x_frameCount, x_mode, x_atToken, x_scope, x_current, x_callee, x_side, x_ending, x_faultLabel, x_stepsTaken, x_runVerdict, x_runBlame, x_result, x_named, x_kinds, x_values, x_ends, x_types, x_operands, x_targets, x_cellShape, x_cellLabel, x_cellOne, x_cellTwo, x_cellThree, x_scopeValue, x_scopeOuter, x_frameKind, x_frameOne, x_frameTwo, x_frameThree, x_nKind, x_nOne, x_nTwo, x_nThree) v') (y_parts, y_count, y_place, y_where, y_values, y_variables, y_waits, y_at, y_world, y_steps, y_blame, y_result, y_given, y_ty, y_part, y_kind, y_end, y_state, y_with, y_runKind, y_runEnd, y_runWith, y_sort, y_one, y_two, y_from, y_to, y_label, y_held, y_around, y_waiting, y_operand, y_outer, y_kept) v1 v2 := by
    intro c
    unfold wpY_token
    rcases c with c | c
    · exact br_t c (br_f (show ¬ (1 : Int32) = 0 by decide) ⟨rfl, I'⟩)
    · refine br_f (fun z => ?_) (br_f (fun z => ?_) (br_f (show ¬ (1 : Int32) = 0 by decide) ⟨rfl, I'⟩))
      · have a := Int32.lt_iff_toInt_lt.mp c
        have b := Int32.lt_iff_toInt_lt.mp z
        have c4 : (11 : Int32).toInt = 11 := by decide
        have c0 : (0 : Int32).toInt = 0 := by decide
        omega
      · have a := Int32.lt_iff_toInt_lt.mp c
        have b := Int32.lt_iff_toInt_lt.mp z
        have c4 : (11 : Int32).toInt = 11 := by decide
        have c5 : (12 : Int32).toInt = 12 := by decide
        omega
  by_cases n0 : v1 < 0
  · exact br_t n0 (bad (Or.inl n0))
  by_cases n11 : 11 < v1
  · exact br_f n0 (br_t n11 (bad (Or.inr n11)))
  obtain ⟨c, hc, rfl⟩ : ∃ c : Nat, c < 12 ∧ v1 = nI c := by
    obtain ⟨j, hj, e⟩ := nI_of n0
    refine ⟨j, ?_, e⟩
    rw [e] at n11
    have : ¬ nI 11 < nI j := n11
    rw [nI_ltI (by decide) hj] at this
    omega
  obtain ⟨_, ⟨l1, l2, l3, l4⟩, hD, ⟨kd, vl, nm, cnt, e1, e2, dx, dy⟩, h4, h5, h6, h7⟩ := I
  subst l1 l2 l3 l4 e1 e2
  by_cases full : cnt < 36
  · refine gx_token hc full (fun vd => ?_) (fun nv => ?_)
    · refine gy_token hc full (fun _ => ?_) (fun z => absurd vd z)
      have vr : gs_vr (fun j => if j = cnt then c else kd j) (fun j => if j = cnt then v2 else vl j) cnt := by
        intro z
        have z' : c = 2 ∨ c = 3 ∨ c = 11 := by
          have e : (fun j => if j = cnt then c else kd j) cnt = c := if_pos rfl
          rw [e] at z
          exact z
        obtain ⟨a, b⟩ := vd.2 z'
        obtain ⟨n, hn, en⟩ := nI_of a
        refine ⟨n, ?_, ?_⟩
        · rw [en] at b
          have : nI n < nI 10 := b
          rw [nI_ltI hn (by decide)] at this
          exact this
        · show (if cnt = cnt then v2 else vl cnt) = nI n
          rw [if_pos rfl]
          exact en
      refine ⟨rfl, rfl, ⟨rfl, rfl, rfl, rfl⟩, hD, ⟨fun j => if j = cnt then c else kd j, fun j => if j = cnt then v2 else vl j, nm, cnt + 1, rfl, rfl, ⟨by omega, dx.2.1, dx.2.2.1, ?_⟩, ⟨by omega, dy.2.1, dy.2.2.1, dy.2.2.2.1, ?_⟩⟩, h4, h5, h6, h7⟩
      · intro j hj
        by_cases e : j = cnt
        · subst e
          refine ⟨?_, ?_, ?_, vr⟩
          · show upd x_kinds j (nI c) j = nI (if j = j then c else kd j)
            rw [if_pos rfl]; exact pk_us
          · show (if j = j then c else kd j) < 12
            rw [if_pos rfl]; exact hc
          · show upd x_values j v2 j = (if j = j then v2 else vl j)
            rw [if_pos rfl]; exact pk_us
        · obtain ⟨a1, a2, a3, a4⟩ := dx.2.2.2 j (by omega)
          refine ⟨?_, ?_, ?_, ?_⟩
          · show upd x_kinds cnt (nI c) j = nI (if j = cnt then c else kd j)
            rw [if_neg e, pk_un e]; exact a1
          · show (if j = cnt then c else kd j) < 12
            rw [if_neg e]; exact a2
          · show upd x_values cnt v2 j = (if j = cnt then v2 else vl j)
            rw [if_neg e, pk_un e]; exact a3
          · show (if j = cnt then c else kd j) = 2 ∨ (if j = cnt then c else kd j) = 3 ∨ (if j = cnt then c else kd j) = 11 → ∃ n, n < 10 ∧ (if j = cnt then v2 else vl j) = nI n
            rw [if_neg e, if_neg e]; exact a4
      · intro j hj
        by_cases e : j = cnt
        · subst e
          refine ⟨?_, ?_, ?_, vr⟩
          · show upd y_kind j (nI c) j = nI (if j = j then c else kd j)
            rw [if_pos rfl]; exact pk_us
          · show (if j = j then c else kd j) < 12
            rw [if_pos rfl]; exact hc
          · show upd y_with j v2 j = (if j = j then v2 else vl j)
            rw [if_pos rfl]; exact pk_us
        · obtain ⟨a1, a2, a3, a4⟩ := dy.2.2.2.2 j (by omega)
          refine ⟨?_, ?_, ?_, ?_⟩
          · show upd y_kind cnt (nI c) j = nI (if j = cnt then c else kd j)
            rw [if_neg e, pk_un e]; exact a1
          · show (if j = cnt then c else kd j) < 12
            rw [if_neg e]; exact a2
          · show upd y_with cnt v2 j = (if j = cnt then v2 else vl j)
            rw [if_neg e, pk_un e]; exact a3
          · show (if j = cnt then c else kd j) = 2 ∨ (if j = cnt then c else kd j) = 3 ∨ (if j = cnt then c else kd j) = 11 → ∃ n, n < 10 ∧ (if j = cnt then v2 else vl j) = nI n
            rw [if_neg e, if_neg e]; exact a4
    · exact gy_token hc full (fun z => absurd z nv) (fun _ => ⟨rfl, I'⟩)
  · have e36 : cnt = 36 := by have := dx.1; omega
    subst e36
    refine br_f (nI_pos (by omega)) (br_f (nI_nlt (a := 11) (b := c) (by omega) (by decide)) (br_f (by decide) ?_))
    dsimp only
    unfold wpY_token
    exact br_f (nI_pos (by omega)) (br_t (nI_lt (b := 12) hc (by decide)) (br_t rfl (br_t rfl ⟨rfl, I'⟩)))
theorem gr_x0 {post : SX → Prop} {x_typeDraft x_typeCount x_count x_wrongAt x_keptPlace x_cellCount x_scopeCount x_frameCount x_mode x_atToken x_scope x_current x_callee x_side x_ending x_faultLabel x_stepsTaken x_runVerdict x_runBlame x_result : Int32} {x_named x_kinds x_values x_ends x_types x_operands x_targets x_cellShape x_cellLabel x_cellOne x_cellTwo x_cellThree x_scopeValue x_scopeOuter x_frameKind x_frameOne x_frameTwo x_frameThree : Nat → Int32} (P : ∀ nd : Nat → Int32, (∀ j, j < 10 → nd j = 2) → post (x_typeDraft, x_typeCount, x_count, x_wrongAt, x_keptPlace, x_cellCount, x_scopeCount, x_frameCount, x_mode, x_atToken, x_scope, x_current, x_callee, x_side, x_ending, x_faultLabel, x_stepsTaken, x_runVerdict, x_runBlame, x_result, nd, x_kinds, x_values, x_ends, x_types, x_operands, x_targets, x_cellShape, x_cellLabel, x_cellOne, x_cellTwo, x_cellThree, x_scopeValue, x_scopeOuter, x_frameKind, x_frameOne, x_frameTwo, x_frameThree, 32768, 32768, 32768, 32768)) : ∀ d i, i + d = 10 → ∀ nd : Nat → Int32, (∀ j, j < i → nd j = 2) → wX_init_165 post x_typeDraft x_typeCount x_count x_wrongAt x_keptPlace x_cellCount x_scopeCount x_frameCount x_mode x_atToken x_scope x_current x_callee x_side x_ending x_faultLabel x_stepsTaken x_runVerdict x_runBlame x_result 32768 32768 32768 32768 (d + 1) (nI i) nd x_kinds x_values x_ends x_types x_operands x_targets x_cellShape x_cellLabel x_cellOne x_cellTwo x_cellThree x_scopeValue x_scopeOuter x_frameKind x_frameOne x_frameTwo x_frameThree := by
  intro d
  induction d with
  | zero =>
    intro i e nd h
    exact br_t (nI_le (a := 10) (by omega) (by omega)) (P nd (fun j hj => h j (by omega)))
  | succ d ih =>
    intro i e nd h
    refine br_f (nI_ge (b := 10) (by omega) (by decide)) ?_
    rw [nI_clamp (show i < 2 ^ 31 by omega)]
    refine And.intro (vp_in_nI (by omega) (by decide)) (nm_e (nm_r (nI_1 i) (ih (i + 1) (by omega) _ ?_)))
    intro j hj
    by_cases c : j = i
    · subst c; exact pk_us
    · rw [pk_un c]; exact h j (by omega)
theorem gr_y0 {post : SY → Prop} {y_parts y_count y_place y_where y_values y_variables y_waits y_at y_world y_steps y_blame y_result y_given : Int32} {y_ty y_part y_kind y_end y_state y_with y_runKind y_runEnd y_runWith y_sort y_one y_two y_from y_to y_label y_held y_around y_waiting y_operand y_outer y_kept : Nat → Int32} (P : ∀ r : Nat → Int32, (∀ j, j < 10 → r (288 + 8 * j) = 2) → (∀ q, 368 ≤ q → r q = y_ty q) → post (y_parts, y_count, y_place, y_where, y_values, y_variables, y_waits, y_at, y_world, y_steps, y_blame, y_result, y_given, r, y_part, y_kind, y_end, y_state, y_with, y_runKind, y_runEnd, y_runWith, y_sort, y_one, y_two, y_from, y_to, y_label, y_held, y_around, y_waiting, y_operand, y_outer, y_kept)) : ∀ d i, i + d = 10 → ∀ r : Nat → Int32, (∀ j, j < i → r (288 + 8 * j) = 2) → (∀ q, 368 ≤ q → r q = y_ty q) → wY_init_262 post y_parts y_count y_place y_where y_values y_variables y_waits y_at y_world y_steps y_blame y_result y_given (d + 1) (nI i) r y_part y_kind y_end y_state y_with y_runKind y_runEnd y_runWith y_sort y_one y_two y_from y_to y_label y_held y_around y_waiting y_operand y_outer y_kept := by
  intro d
  induction d with
  | zero =>
    intro i e r h h'
    exact br_t (nI_le (a := 10) (by omega) (by omega)) (P r (fun j hj => h j (by omega)) h')
  | succ d ih =>
    intro i e r h h'
    have ei : (288 : Int32) + 8 * nI i = nI (288 + 8 * i) := by
      rw [show (8 : Int32) * nI i = nI (8 * i) from pk_mul 8 _]
      exact nI_add 288 _
    refine br_f (nI_ge (b := 10) (by omega) (by decide)) ?_
    rw [ei, nI_clamp (show 288 + 8 * i < 2 ^ 31 by omega)]
    refine And.intro (vp_in_nI (by omega) (by decide)) (nm_e (nm_r (nI_1 i) (ih (i + 1) (by omega) _ ?_ ?_)))
    · intro j hj
      by_cases c : j = i
      · subst c; exact pk_us
      · rw [pk_un (by omega)]; exact h j (by omega)
    · intro q hq
      rw [pk_un (by omega)]
      exact h' q hq
theorem i_vc0 : wpX_init (fun u => wpY_init (fun v => i_Rel 0 u v)) := by
  have e : (32768 : Int32).toNatClampNeg = 32768 := by decide
  have n : ¬ (32768 : Int32) < 0 := by decide
  refine And.intro n (nm_r e (And.intro (Nat.le_refl _) (And.intro n (nm_r e (And.intro (Nat.le_refl _) (And.intro n (nm_r e (And.intro (Nat.le_refl _) (And.intro n (nm_r e (And.intro (Nat.le_refl _) (Exists.intro 11 ?_))))))))))))
  refine gr_x0 (x_named := fun _ => 0) ?_ 10 0 rfl _ (fun j hj => absurd hj (Nat.not_lt_zero _))
  intro nd hnd
  refine nm_e (nm_e (nm_e (nm_e (nm_e (nm_e (nm_e (nm_e (Exists.intro 11 ?_))))))))
  refine gr_y0 ?_ 10 0 rfl _ (fun j hj => absurd hj (Nat.not_lt_zero _)) (fun q _ => rfl)
  intro r h1 h2
  have L2 := gs_TY0 2 (by decide)
  have rq : ∀ q, 368 ≤ q → r q = _ := h2
  refine ⟨rfl, ⟨rfl, rfl, rfl, rfl⟩, ⟨0, fun _ => 0, by decide, rfl, rfl, rfl, fun _ => show (0 : Nat) < 5 by decide, fun j hj => absurd hj (Nat.not_lt_zero _), fun _ _ => rfl⟩, ⟨fun _ => 0, fun _ => 0, fun _ => .leaf 2, 0, rfl, rfl, ⟨by decide, fun _ => L2, fun n hn => hnd n hn, fun i hi => absurd hi (Nat.not_lt_zero _)⟩, ⟨by decide, fun _ => L2, fun n hn => h1 n hn, ?_, fun i hi => absurd hi (Nat.not_lt_zero _)⟩⟩, rfl, rfl, rfl, Or.inr ⟨by decide, rfl⟩⟩
  refine ⟨?_, ?_, ?_, ?_, ?_, ?_, ?_, ?_, ?_⟩
  · rw [h2 _ (by decide)]; rfl
  · rw [h2 _ (by decide)]; rfl
  · rw [h2 _ (by decide)]; rfl
  · rw [h2 _ (by decide)]; rfl
  · rw [h2 _ (by decide)]; rfl
  · rw [h2 _ (by decide)]; rfl
  · rw [h2 _ (by decide)]; rfl
  · rw [h2 _ (by decide)]; rfl
  · rw [h2 _ (by decide)]; rfl
