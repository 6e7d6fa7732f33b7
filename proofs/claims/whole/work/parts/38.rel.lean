/-! ===== 38: the relation, and the small methods ===== -/
def gr_pk (pp : Nat → Nat) : Nat → Nat
  | 0 => 0
  | n + 1 => gr_pk pp n + 8 ^ n * pp n
/-- the drafts of a type -/
def gr_D (td tc pa : Int32) (part : Nat → Int32) : Prop := ∃ (pc : Nat) (pp : Nat → Nat), pc ≤ 7 ∧ tc = nI pc ∧ pa = nI pc ∧ td = nI (gr_pk pp pc) ∧ (∀ j, pp j < 5) ∧ (∀ j, j < pc → part j = nI (pp j)) ∧ (∀ j, pc ≤ j → pp j = 0)
/-- the drafts of a term, and the named types -/
def gr_N (xc yc : Int32) (named kinds values ty kind wit : Nat → Int32) : Prop := ∃ (kd : Nat → Nat) (vl : Nat → Int32) (nm : Nat → Lean.RArray Nat) (cnt : Nat), xc = nI cnt ∧ yc = nI cnt ∧ gx_DR kd vl nm cnt named kinds values ∧ gy_DR kd vl nm cnt ty kind wit
/-- a run that gave a value -/
def gr_V (xr : Int32) (ty : Nat → Int32) (D : gx_D) (E : gy_D) : Prop := ∃ P cn G s v, gm_SF P cn G ∧ gm_L P cn G s v ∧ gx_H s D ∧ gy_H ty s E ∧ xr = nI (gm_xv v) ∧ gy_rs E = nI v
def i_Rel (k : Nat) (u : SX) (v : SY) : Prop := match u with
  | (x_typeDraft, x_typeCount, x_count, x_wrongAt, x_keptPlace, x_cellCount, x_scopeCount, x_frameCount, x_mode, x_atToken, x_scope, x_current, x_callee, x_side, x_ending, x_faultLabel, x_stepsTaken, x_runVerdict, x_runBlame, x_result, x_named, x_kinds, x_values, x_ends, x_types, x_operands, x_targets, x_cellShape, x_cellLabel, x_cellOne, x_cellTwo, x_cellThree, x_scopeValue, x_scopeOuter, x_frameKind, x_frameOne, x_frameTwo, x_frameThree, x_nKind, x_nOne, x_nTwo, x_nThree) => match v with
    | (y_parts, y_count, y_place, y_where, y_values, y_variables, y_waits, y_at, y_world, y_steps, y_blame, y_result, y_given, y_ty, y_part, y_kind, y_end, y_state, y_with, y_runKind, y_runEnd, y_runWith, y_sort, y_one, y_two, y_from, y_to, y_label, y_held, y_around, y_waiting, y_operand, y_outer, y_kept) => k = k ∧ (x_nKind = 32768 ∧ x_nOne = 32768 ∧ x_nTwo = 32768 ∧ x_nThree = 32768) ∧ gr_D x_typeDraft x_typeCount y_parts y_part ∧ gr_N x_count y_count x_named x_kinds x_values y_ty y_kind y_with ∧ x_keptPlace = y_place ∧ x_runBlame = y_blame ∧ x_stepsTaken = y_steps ∧
      ((x_runVerdict = 0 ∧ y_given = 1 ∧ gr_V x_result y_ty (x_cellCount, x_scopeCount, x_frameCount, x_mode, x_atToken, x_scope, x_current, x_callee, x_side, x_ending, x_faultLabel, x_stepsTaken, x_cellShape, x_cellLabel, x_cellOne, x_cellTwo, x_cellThree, x_scopeValue, x_scopeOuter, x_frameKind, x_frameOne, x_frameTwo, x_frameThree) (y_values, y_variables, y_waits, y_at, y_world, y_steps, y_blame, y_result, y_sort, y_one, y_two, y_from, y_to, y_label, y_held, y_around, y_waiting, y_operand, y_outer, y_kept)) ∨ (¬ x_runVerdict = 0 ∧ y_given = 0))
theorem i_up {k : Nat} {u : SX} {v : SY} (h : i_Rel k u v) : i_Rel (k + 3) u v := by
  obtain ⟨x_typeDraft, x_typeCount, x_count, x_wrongAt, x_keptPlace, x_cellCount, x_scopeCount, x_frameCount, x_mode, x_atToken, x_scope, x_current, x_callee, x_side, x_ending, x_faultLabel, x_stepsTaken, x_runVerdict, x_runBlame, x_result, x_named, x_kinds, x_values, x_ends, x_types, x_operands, x_targets, x_cellShape, x_cellLabel, x_cellOne, x_cellTwo, x_cellThree, x_scopeValue, x_scopeOuter, x_frameKind, x_frameOne, x_frameTwo, x_frameThree, x_nKind, x_nOne, x_nTwo, x_nThree⟩ := u
  obtain ⟨y_parts, y_count, y_place, y_where, y_values, y_variables, y_waits, y_at, y_world, y_steps, y_blame, y_result, y_given, y_ty, y_part, y_kind, y_end, y_state, y_with, y_runKind, y_runEnd, y_runWith, y_sort, y_one, y_two, y_from, y_to, y_label, y_held, y_around, y_waiting, y_operand, y_outer, y_kept⟩ := v
  exact ⟨rfl, h.2⟩
theorem i_vc_place {k : Nat} {u : SX} {v : SY} (I : i_Rel k u v) (hk : k + 3 ≤ 1536) : wpX_place (fun r => wpY_place (fun r' => r' = r ∧ i_Rel (k + 3) u v) v) u := by
  have I' := i_up I
  obtain ⟨x_typeDraft, x_typeCount, x_count, x_wrongAt, x_keptPlace, x_cellCount, x_scopeCount, x_frameCount, x_mode, x_atToken, x_scope, x_current, x_callee, x_side, x_ending, x_faultLabel, x_stepsTaken, x_runVerdict, x_runBlame, x_result, x_named, x_kinds, x_values, x_ends, x_types, x_operands, x_targets, x_cellShape, x_cellLabel, x_cellOne, x_cellTwo, x_cellThree, x_scopeValue, x_scopeOuter, x_frameKind, x_frameOne, x_frameTwo, x_frameThree, x_nKind, x_nOne, x_nTwo, x_nThree⟩ := u
  obtain ⟨y_parts, y_count, y_place, y_where, y_values, y_variables, y_waits, y_at, y_world, y_steps, y_blame, y_result, y_given, y_ty, y_part, y_kind, y_end, y_state, y_with, y_runKind, y_runEnd, y_runWith, y_sort, y_one, y_two, y_from, y_to, y_label, y_held, y_around, y_waiting, y_operand, y_outer, y_kept⟩ := v
  exact ⟨I.2.2.2.2.1.symm, I'⟩
theorem i_vc_blamed {k : Nat} {u : SX} {v : SY} (I : i_Rel k u v) (hk : k + 3 ≤ 1536) : wpX_blamed (fun r => wpY_blamed (fun r' => r' = r ∧ i_Rel (k + 3) u v) v) u := by
  have I' := i_up I
  obtain ⟨x_typeDraft, x_typeCount, x_count, x_wrongAt, x_keptPlace, x_cellCount, x_scopeCount, x_frameCount, x_mode, x_atToken, x_scope, x_current, x_callee, x_side, x_ending, x_faultLabel, x_stepsTaken, x_runVerdict, x_runBlame, x_result, x_named, x_kinds, x_values, x_ends, x_types, x_operands, x_targets, x_cellShape, x_cellLabel, x_cellOne, x_cellTwo, x_cellThree, x_scopeValue, x_scopeOuter, x_frameKind, x_frameOne, x_frameTwo, x_frameThree, x_nKind, x_nOne, x_nTwo, x_nThree⟩ := u
  obtain ⟨y_parts, y_count, y_place, y_where, y_values, y_variables, y_waits, y_at, y_world, y_steps, y_blame, y_result, y_given, y_ty, y_part, y_kind, y_end, y_state, y_with, y_runKind, y_runEnd, y_runWith, y_sort, y_one, y_two, y_from, y_to, y_label, y_held, y_around, y_waiting, y_operand, y_outer, y_kept⟩ := v
  exact ⟨I.2.2.2.2.2.1.symm, I'⟩
theorem i_vc_steps {k : Nat} {u : SX} {v : SY} (I : i_Rel k u v) (hk : k + 3 ≤ 1536) : wpX_steps (fun r => wpY_steps (fun r' => r' = r ∧ i_Rel (k + 3) u v) v) u := by
  have I' := i_up I
  obtain ⟨x_typeDraft, x_typeCount, x_count, x_wrongAt, x_keptPlace, x_cellCount, x_scopeCount, x_frameCount, x_mode, x_atToken, x_scope, x_current, x_callee, x_side, x_ending, x_faultLabel, x_stepsTaken, x_runVerdict, x_runBlame, x_result, x_named, x_kinds, x_values, x_ends, x_types, x_operands, x_targets, x_cellShape, x_cellLabel, x_cellOne, x_cellTwo, x_cellThree, x_scopeValue, x_scopeOuter, x_frameKind, x_frameOne, x_frameTwo, x_frameThree, x_nKind, x_nOne, x_nTwo, x_nThree⟩ := u
  obtain ⟨y_parts, y_count, y_place, y_where, y_values, y_variables, y_waits, y_at, y_world, y_steps, y_blame, y_result, y_given, y_ty, y_part, y_kind, y_end, y_state, y_with, y_runKind, y_runEnd, y_runWith, y_sort, y_one, y_two, y_from, y_to, y_label, y_held, y_around, y_waiting, y_operand, y_outer, y_kept⟩ := v
  exact ⟨I.2.2.2.2.2.2.1.symm, I'⟩
theorem i_vc_wipe {k : Nat} {u : SX} {v : SY} (I : i_Rel k u v) (hk : k + 3 ≤ 1536) : wpX_wipe (fun r u' => wpY_wipe (fun r' v' => r' = r ∧ i_Rel (k + 3) u' v') v) u := by
  obtain ⟨x_typeDraft, x_typeCount, x_count, x_wrongAt, x_keptPlace, x_cellCount, x_scopeCount, x_frameCount, x_mode, x_atToken, x_scope, x_current, x_callee, x_side, x_ending, x_faultLabel, x_stepsTaken, x_runVerdict, x_runBlame, x_result, x_named, x_kinds, x_values, x_ends, x_types, x_operands, x_targets, x_cellShape, x_cellLabel, x_cellOne, x_cellTwo, x_cellThree, x_scopeValue, x_scopeOuter, x_frameKind, x_frameOne, x_frameTwo, x_frameThree, x_nKind, x_nOne, x_nTwo, x_nThree⟩ := u
  obtain ⟨y_parts, y_count, y_place, y_where, y_values, y_variables, y_waits, y_at, y_world, y_steps, y_blame, y_result, y_given, y_ty, y_part, y_kind, y_end, y_state, y_with, y_runKind, y_runEnd, y_runWith, y_sort, y_one, y_two, y_from, y_to, y_label, y_held, y_around, y_waiting, y_operand, y_outer, y_kept⟩ := v
  obtain ⟨_, hl, hD, ⟨kd, vl, nm, cnt, e1, e2, dx, dy⟩, h4, h5, h6, h7⟩ := I
  refine ⟨e2.trans e1.symm, rfl, hl, hD, ⟨kd, vl, nm, 0, rfl, rfl, ⟨by omega, dx.2.1, dx.2.2.1, fun i hi => absurd hi (Nat.not_lt_zero _)⟩, ⟨by omega, dy.2.1, dy.2.2.1, dy.2.2.2.1, fun i hi => absurd hi (Nat.not_lt_zero _)⟩⟩, h4, h5, h6, h7⟩
theorem gr_pk_lt {pp : Nat → Nat} (h : ∀ j, pp j < 5) : ∀ n, gr_pk pp n < 8 ^ n := by
  intro n
  induction n with
  | zero => exact Nat.one_pos
  | succ n ih =>
    have := h n
    show gr_pk pp n + 8 ^ n * pp n < 8 ^ (n + 1)
    rw [Nat.pow_succ]
    exact gd_ab ih (by omega)
theorem gr_pk_c {pp pp' : Nat → Nat} : ∀ n, (∀ j, j < n → pp j = pp' j) → gr_pk pp n = gr_pk pp' n := by
  intro n
  induction n with
  | zero => intro _; rfl
  | succ n ih =>
    intro h
    show gr_pk pp n + 8 ^ n * pp n = gr_pk pp' n + 8 ^ n * pp' n
    rw [ih (fun j hj => h j (by omega)), h n (by omega)]
theorem i_vc_part {k : Nat} {u : SX} {v : SY} (I : i_Rel k u v) (hk : k + 3 ≤ 1536) (v1 : Int32) : wpX_part (fun r u' => wpY_part (fun r' v' => r' = r ∧ i_Rel (k + 3) u' v') v v1) u v1 := by
  have I' := i_up I
  obtain ⟨x_typeDraft, x_typeCount, x_count, x_wrongAt, x_keptPlace, x_cellCount, x_scopeCount, x_frameCount, x_mode, x_atToken, x_scope, x_current, x_callee, x_side, x_ending, x_faultLabel, x_stepsTaken, x_runVerdict, x_runBlame, x_result, x_named, x_kinds, x_values, x_ends, x_types, x_operands, x_targets, x_cellShape, x_cellLabel, x_cellOne, x_cellTwo, x_cellThree, x_scopeValue, x_scopeOuter, x_frameKind, x_frameOne, x_frameTwo, x_frameThree, x_nKind, x_nOne, x_nTwo, x_nThree⟩ := u
  obtain ⟨y_parts, y_count, y_place, y_where, y_values, y_variables, y_waits, y_at, y_world, y_steps, y_blame, y_result, y_given, y_ty, y_part, y_kind, y_end, y_state, y_with, y_runKind, y_runEnd, y_runWith, y_sort, y_one, y_two, y_from, y_to, y_label, y_held, y_around, y_waiting, y_operand, y_outer, y_kept⟩ := v
  have bad : v1 < 0 ∨ 4 < v1 → wpY_part (fun r' v' => r' = 0 ∧ i_Rel (k + 3) (x_typeDraft, x_typeCount, x_count, x_wrongAt, x_keptPlace, x_cellCount, x_scopeCount, x_frameCount, x_mode, x_atToken, x_scope, x_current, x_callee, x_side, x_ending, x_faultLabel, x_stepsTaken, x_runVerdict, x_runBlame, x_result, x_named, x_kinds, x_values, x_ends, x_types, x_operands, x_targets, x_cellShape, x_cellLabel, x_cellOne, x_cellTwo, x_cellThree, x_scopeValue, x_scopeOuter, x_frameKind, x_frameOne, x_frameTwo, x_frameThree, x_nKind, x_nOne, x_nTwo, x_nThree) v') (y_parts, y_count, y_place, y_where, y_values, y_variables, y_waits, y_at, y_world, y_steps, y_blame, y_result, y_given, y_ty, y_part, y_kind, y_end, y_state, y_with, y_runKind, y_runEnd, y_runWith, y_sort, y_one, y_two, y_from, y_to, y_label, y_held, y_around, y_waiting, y_operand, y_outer, y_kept) v1 := by
    intro c
    rcases c with c | c
    · exact br_t c (br_f (show ¬ (1 : Int32) = 0 by decide) ⟨rfl, I'⟩)
    · refine br_f (fun z => ?_) (br_f (fun z => ?_) (br_f (show ¬ (1 : Int32) = 0 by decide) ⟨rfl, I'⟩))
      · have a := Int32.lt_iff_toInt_lt.mp c
        have b := Int32.lt_iff_toInt_lt.mp z
        have c4 : (4 : Int32).toInt = 4 := by decide
        have c0 : (0 : Int32).toInt = 0 := by decide
        omega
      · have a := Int32.lt_iff_toInt_lt.mp c
        have b := Int32.lt_iff_toInt_lt.mp z
        have c4 : (4 : Int32).toInt = 4 := by decide
        have c5 : (5 : Int32).toInt = 5 := by decide
        omega
  refine br_c (fun c => bad (Or.inl c)) (fun n0 => br_c (fun c => bad (Or.inr c)) (fun n4 => ?_))
  obtain ⟨c, hc, rfl⟩ : ∃ c : Nat, c < 5 ∧ v1 = nI c := by
    obtain ⟨j, hj, e⟩ := nI_of n0
    refine ⟨j, ?_, e⟩
    rw [e] at n4
    have : ¬ nI 4 < nI j := n4
    rw [nI_ltI (by decide) hj] at this
    omega
  obtain ⟨_, hl, ⟨pc, pp, p7, e1, e2, e3, q1, q2, q3⟩, hN, h4, h5, h6, h7⟩ := I
  subst e1 e2 e3
  have out0 : ∀ (R : Int32 → Prop), R 0 → wpY_out R (nI c) 5 := fun R h => br_f (nI_pos (by omega)) (br_t (nI_lt (b := 5) hc (by decide)) h)
  refine pk_lt pc 7 (fun lt => ?_) (fun ge => ?_)
  · have es : nI (gr_pk pp pc) ||| (nI c <<< ((3 * nI pc) &&& 31)) = nI (gr_pk pp pc + 8 ^ pc * c) := by
      have p := gr_pk_lt q1 pc
      have p8 : 8 ^ pc ≤ 8 ^ 7 := Nat.pow_le_pow_right (by decide) (by omega)
      have p87 : (8 : Nat) ^ 7 = 2097152 := by decide
      have c8 : c * 8 ^ pc ≤ 5 * 8 ^ 7 := Nat.mul_le_mul (by omega) p8
      rw [show (3 : Int32) * nI pc = nI (3 * pc) from pk_mul 3 pc, pk_shlN (nI (3 * pc) &&& 31) (3 * pc) (s_l _ (by omega)) (by rw [gx_p8]; omega), Nat.mul_comm c, gx_or (k := 3 * pc) (by rw [gx_p8]; exact p), gx_p8]
    refine nm_r es (nm_r (nI_1 pc) ?_)
    dsimp only
    unfold wpY_part
    refine out0 _ (br_t rfl (pk_eq pc 7 (fun z => by omega) (fun _ => nm_r (nI_1 pc) ?_)))
    rw [nI_clamp (show pc < 2 ^ 31 by omega), gy_nb c (by omega)]
    refine And.intro (vp_in_nI (by omega) (by decide)) (nm_e ?_)
    refine ⟨rfl, rfl, hl, ⟨pc + 1, fun j => if j = pc then c else pp j, by omega, rfl, rfl, ?_, ?_, ?_, ?_⟩, hN, h4, h5, h6, h7⟩
    · show nI _ = nI (gr_pk (fun j => if j = pc then c else pp j) pc + 8 ^ pc * (if pc = pc then c else pp pc))
      rw [if_pos rfl, gr_pk_c (pp := fun j => if j = pc then c else pp j) (pp' := pp) pc (fun j hj => if_neg (by omega))]
    · intro j
      show (if j = pc then c else pp j) < 5
      by_cases e : j = pc
      · rw [if_pos e]; exact hc
      · rw [if_neg e]; exact q1 j
    · intro j hj
      show upd y_part pc (nI c) j = nI (if j = pc then c else pp j)
      by_cases e : j = pc
      · rw [if_pos e, e]; exact pk_us
      · rw [if_neg e, pk_un e]; exact q2 j (by omega)
    · intro j hj
      show (if j = pc then c else pp j) = 0
      rw [if_neg (by omega)]
      exact q3 j (by omega)
  · dsimp only
    unfold wpY_part
    exact out0 _ (br_t rfl (pk_eq pc 7 (fun _ => ⟨rfl, I'⟩) (fun z => by omega)))
