/-! ===== 41: check and typeAt ===== -/
theorem gs_FA_uniq {kd : Nat → Nat} {cnt i j : Nat} (a : gs_FA kd cnt i) (b : gs_FA kd cnt j) : i = j := by
  rcases Nat.lt_trichotomy i j with c | c | c
  · have := b.1 i c
    rcases a.2 with d | d
    · omega
    · rcases b.2 with e | e <;> omega
  · exact c
  · have := a.1 j c
    rcases b.2 with d | d
    · omega
    · rcases a.2 with e | e <;> omega
theorem gd_sp_tok2 {r r' : Nat → Int32} : ∀ (t : Lean.RArray Nat) (i j : Nat), gd_Sp r t i → gd_Sp r' t j → ∀ k, k < gd_sz t → r (i + k) = r' (j + k) := by
  intro t
  induction t with
  | leaf n =>
    intro i j a b k hk
    simp only [gd_sz] at hk
    have e : k = 0 := by omega
    subst e
    exact (show r i = nI n from a).trans (show r' j = nI n from b).symm
  | branch h l x ihl ihr =>
    intro i j a b k hk
    simp only [gd_sz] at hk
    by_cases h0 : k = 0
    · subst h0
      exact a.1.trans b.1.symm
    · by_cases h1 : k ≤ gd_sz l
      · have := ihl (i + 1) (j + 1) a.2.1 b.2.1 (k - 1) (by omega)
        rw [show i + 1 + (k - 1) = i + k by omega, show j + 1 + (k - 1) = j + k by omega] at this
        exact this
      · have := ihr (i + 1 + gd_sz l) (j + 1 + gd_sz l) a.2.2 b.2.2 (k - 1 - gd_sz l) (by omega)
        rw [show i + 1 + gd_sz l + (k - 1 - gd_sz l) = i + k by omega, show j + 1 + gd_sz l + (k - 1 - gd_sz l) = j + k by omega] at this
        exact this
/-- both sides find the same -/
theorem gr_both {kd : Nat → Nat} {vl : Nat → Int32} {nm : Nat → Lean.RArray Nat} {cnt : Nat} {x_typeDraft x_typeCount x_count x_wrongAt x_keptPlace x_cellCount x_scopeCount x_frameCount x_mode x_atToken x_scope x_current x_callee x_side x_ending x_faultLabel x_stepsTaken x_runVerdict x_runBlame x_result : Int32} {x_named x_kinds x_values x_ends x_types x_operands x_targets x_cellShape x_cellLabel x_cellOne x_cellTwo x_cellThree x_scopeValue x_scopeOuter x_frameKind x_frameOne x_frameTwo x_frameThree : Nat → Int32} {y_parts y_count y_place y_where y_values y_variables y_waits y_at y_world y_steps y_blame y_result y_given : Int32} {y_ty y_part y_kind y_end y_state y_with y_runKind y_runEnd y_runWith y_sort y_one y_two y_from y_to y_label y_held y_around y_waiting y_operand y_outer y_kept : Nat → Int32} {PX : Int32 → SX → Prop} (dx : gx_DR kd vl nm cnt x_named x_kinds x_values) (dy : gy_DR kd vl nm cnt y_ty y_kind y_with)
    (B : ∀ (c i : Nat) e o t g, c ≠ 0 → c < 5 → (∀ PY : Int32 → SY → Prop, (∀ e' st r, (∀ q, 288 ≤ q → r q = y_ty q) → PY (nI c) (y_parts, nI cnt, y_place, nI i, y_values, y_variables, y_waits, y_at, y_world, y_steps, y_blame, y_result, y_given, r, y_part, y_kind, e', st, y_with, y_runKind, y_runEnd, y_runWith, y_sort, y_one, y_two, y_from, y_to, y_label, y_held, y_around, y_waiting, y_operand, y_outer, y_kept)) → wpY_examine PY (y_parts, nI cnt, y_place, y_where, y_values, y_variables, y_waits, y_at, y_world, y_steps, y_blame, y_result, y_given, y_ty, y_part, y_kind, y_end, y_state, y_with, y_runKind, y_runEnd, y_runWith, y_sort, y_one, y_two, y_from, y_to, y_label, y_held, y_around, y_waiting, y_operand, y_outer, y_kept)) → PX (nI c) (x_typeDraft, x_typeCount, nI cnt, nI i, x_keptPlace, x_cellCount, x_scopeCount, x_frameCount, x_mode, x_atToken, x_scope, x_current, x_callee, x_side, x_ending, x_faultLabel, x_stepsTaken, x_runVerdict, x_runBlame, x_result, x_named, x_kinds, x_values, e, t, o, g, x_cellShape, x_cellLabel, x_cellOne, x_cellTwo, x_cellThree, x_scopeValue, x_scopeOuter, x_frameKind, x_frameOne, x_frameTwo, x_frameThree, 32768, 32768, 32768, 32768))
    (C : ∀ e o t g, gs_WF kd cnt → (∀ i, i < cnt → (gs_R kd vl nm cnt i).1 = 0) → gx_P (gs_P kd vl nm cnt) x_kinds x_values t o g → (∀ PY : Int32 → SY → Prop, (∀ e' st r w, (∀ j, j < cnt → e' j = nI (gs_en kd cnt j) ∧ gd_Sp r (gs_R kd vl nm cnt j).2 (8 * j)) → (∀ q, 288 ≤ q → r q = y_ty q) → PY 0 (y_parts, nI cnt, y_place, w, y_values, y_variables, y_waits, y_at, y_world, y_steps, y_blame, y_result, y_given, r, y_part, y_kind, e', st, y_with, y_runKind, y_runEnd, y_runWith, y_sort, y_one, y_two, y_from, y_to, y_label, y_held, y_around, y_waiting, y_operand, y_outer, y_kept)) → wpY_examine PY (y_parts, nI cnt, y_place, y_where, y_values, y_variables, y_waits, y_at, y_world, y_steps, y_blame, y_result, y_given, y_ty, y_part, y_kind, y_end, y_state, y_with, y_runKind, y_runEnd, y_runWith, y_sort, y_one, y_two, y_from, y_to, y_label, y_held, y_around, y_waiting, y_operand, y_outer, y_kept)) → PX 0 (x_typeDraft, x_typeCount, nI cnt, -1, x_keptPlace, x_cellCount, x_scopeCount, x_frameCount, x_mode, x_atToken, x_scope, x_current, x_callee, x_side, x_ending, x_faultLabel, x_stepsTaken, x_runVerdict, x_runBlame, x_result, x_named, x_kinds, x_values, e, t, o, g, x_cellShape, x_cellLabel, x_cellOne, x_cellTwo, x_cellThree, x_scopeValue, x_scopeOuter, x_frameKind, x_frameOne, x_frameTwo, x_frameThree, 32768, 32768, 32768, 32768)) :
    wpX_judge PX (x_typeDraft, x_typeCount, nI cnt, x_wrongAt, x_keptPlace, x_cellCount, x_scopeCount, x_frameCount, x_mode, x_atToken, x_scope, x_current, x_callee, x_side, x_ending, x_faultLabel, x_stepsTaken, x_runVerdict, x_runBlame, x_result, x_named, x_kinds, x_values, x_ends, x_types, x_operands, x_targets, x_cellShape, x_cellLabel, x_cellOne, x_cellTwo, x_cellThree, x_scopeValue, x_scopeOuter, x_frameKind, x_frameOne, x_frameTwo, x_frameThree, 32768, 32768, 32768, 32768) := by
  refine gx_judge dx (fun i hF => ?_) (fun i e o t g W hi nz n4 sm => ?_) (fun e o t g W all hP => ?_)
  · refine B 1 i x_ends x_operands x_types x_targets (by decide) (by decide) (fun PY h => ?_)
    refine gy_examine dy (fun j hF' => ?_) (fun j e' st r W => (gs_WF_FA W hF).elim) (fun e' st r w W => (gs_WF_FA W hF).elim)
    have ej := gs_FA_uniq hF' hF
    subst ej
    exact h y_end y_state y_ty (fun q _ => rfl)
  · have cl := gs_code_lt (vl := vl) (nm := nm) W hi
    refine B _ i e o t g nz cl (fun PY h => ?_)
    refine gy_examine dy (fun j hF' => (gs_WF_FA W hF').elim) (fun j e' st r _ hj nz' n4' sm' hr => ?_) (fun e' st r w _ all => ?_)
    · have ej : j = i := by
        rcases Nat.lt_trichotomy j i with c | c | c
        · rcases sm j c with z | z
          · exact absurd z nz'
          · exact absurd z n4'
        · exact c
        · rcases sm' i c with z | z
          · exact absurd z nz
          · exact absurd z n4
      subst ej
      exact h e' st r hr
    · rcases all i hi with z | z
      · exact absurd z nz
      · exact absurd z n4
  · refine C e o t g W all hP (fun PY h => ?_)
    refine gy_examine dy (fun j hF' => (gs_WF_FA W hF').elim) (fun j e' st r _ hj nz' => absurd (all j hj) nz') (fun e' st r w _ _ hE hr => ?_)
    exact h e' st r w (fun j hj => ⟨(hE j hj).1, (hE j hj).2 (all j hj)⟩) hr
theorem i_vc_check {k : Nat} {u : SX} {v : SY} (I : i_Rel k u v) (hk : k + 3 ≤ 1536) : wpX_check (fun r u' => wpY_check (fun r' v' => r' = r ∧ i_Rel (k + 3) u' v') v) u := by
  obtain ⟨x_typeDraft, x_typeCount, x_count, x_wrongAt, x_keptPlace, x_cellCount, x_scopeCount, x_frameCount, x_mode, x_atToken, x_scope, x_current, x_callee, x_side, x_ending, x_faultLabel, x_stepsTaken, x_runVerdict, x_runBlame, x_result, x_named, x_kinds, x_values, x_ends, x_types, x_operands, x_targets, x_cellShape, x_cellLabel, x_cellOne, x_cellTwo, x_cellThree, x_scopeValue, x_scopeOuter, x_frameKind, x_frameOne, x_frameTwo, x_frameThree, x_nKind, x_nOne, x_nTwo, x_nThree⟩ := u
  obtain ⟨y_parts, y_count, y_place, y_where, y_values, y_variables, y_waits, y_at, y_world, y_steps, y_blame, y_result, y_given, y_ty, y_part, y_kind, y_end, y_state, y_with, y_runKind, y_runEnd, y_runWith, y_sort, y_one, y_two, y_from, y_to, y_label, y_held, y_around, y_waiting, y_operand, y_outer, y_kept⟩ := v
  obtain ⟨_, ⟨l1, l2, l3, l4⟩, hD, ⟨kd, vl, nm, cnt, d1, d2, dx, dy⟩, h4, h5, h6, h7⟩ := I
  subst l1 l2 l3 l4 d1 d2
  have h7' : ∀ r : Nat → Int32, (∀ q, 288 ≤ q → r q = y_ty q) → ((x_runVerdict = 0 ∧ y_given = 1 ∧ gr_V x_result r (x_cellCount, x_scopeCount, x_frameCount, x_mode, x_atToken, x_scope, x_current, x_callee, x_side, x_ending, x_faultLabel, x_stepsTaken, x_cellShape, x_cellLabel, x_cellOne, x_cellTwo, x_cellThree, x_scopeValue, x_scopeOuter, x_frameKind, x_frameOne, x_frameTwo, x_frameThree) (y_values, y_variables, y_waits, y_at, y_world, y_steps, y_blame, y_result, y_sort, y_one, y_two, y_from, y_to, y_label, y_held, y_around, y_waiting, y_operand, y_outer, y_kept)) ∨ (¬ x_runVerdict = 0 ∧ y_given = 0)) := by
    intro r hr
    rcases h7 with ⟨a, b, c⟩ | c
    · exact Or.inl ⟨a, b, gr_V_ty c (fun q hq => hr q (by omega))⟩
    · exact Or.inr c
  unfold wpX_check
  refine gr_both (x_count := 0) (y_parts := y_parts) (y_count := nI cnt) (y_place := y_place) (y_where := y_where) (y_values := y_values) (y_variables := y_variables) (y_waits := y_waits) (y_at := y_at) (y_world := y_world) (y_steps := y_steps) (y_blame := y_blame) (y_result := y_result) (y_given := y_given) (y_ty := y_ty) (y_part := y_part) (y_kind := y_kind) (y_end := y_end) (y_state := y_state) (y_with := y_with) (y_runKind := y_runKind) (y_runEnd := y_runEnd) (y_runWith := y_runWith) (y_sort := y_sort) (y_one := y_one) (y_two := y_two) (y_from := y_from) (y_to := y_to) (y_label := y_label) (y_held := y_held) (y_around := y_around) (y_waiting := y_waiting) (y_operand := y_operand) (y_outer := y_outer) (y_kept := y_kept) dx dy ?_ ?_
  · intro c i e o t g c0 c5 EX
    have nz : ¬ nI c = 0 := nI_ne0 (by omega) (by omega)
    refine br_f nz ?_
    dsimp only
    unfold wpY_check
    refine EX _ (fun e' st r hr => br_f nz ?_)
    exact ⟨rfl, rfl, ⟨rfl, rfl, rfl, rfl⟩, hD, ⟨kd, vl, nm, cnt, rfl, rfl, dx, gy_DR_r dy hr⟩, rfl, h5, h6, h7' r hr⟩
  · intro e o t g W all hP EX
    refine br_t rfl ?_
    dsimp only
    unfold wpY_check
    refine EX _ (fun e' st r w hE hr => br_t rfl ?_)
    exact ⟨rfl, rfl, ⟨rfl, rfl, rfl, rfl⟩, hD, ⟨kd, vl, nm, cnt, rfl, rfl, dx, gy_DR_r dy hr⟩, h4, h5, h6, h7' r hr⟩
theorem i_vc_typeAt {k : Nat} {u : SX} {v : SY} (I : i_Rel k u v) (hk : k + 3 ≤ 1536) (v1 : Int32) : wpX_typeAt (fun r u' => wpY_typeAt (fun r' v' => r' = r ∧ i_Rel (k + 3) u' v') v v1) u v1 := by
  obtain ⟨x_typeDraft, x_typeCount, x_count, x_wrongAt, x_keptPlace, x_cellCount, x_scopeCount, x_frameCount, x_mode, x_atToken, x_scope, x_current, x_callee, x_side, x_ending, x_faultLabel, x_stepsTaken, x_runVerdict, x_runBlame, x_result, x_named, x_kinds, x_values, x_ends, x_types, x_operands, x_targets, x_cellShape, x_cellLabel, x_cellOne, x_cellTwo, x_cellThree, x_scopeValue, x_scopeOuter, x_frameKind, x_frameOne, x_frameTwo, x_frameThree, x_nKind, x_nOne, x_nTwo, x_nThree⟩ := u
  obtain ⟨y_parts, y_count, y_place, y_where, y_values, y_variables, y_waits, y_at, y_world, y_steps, y_blame, y_result, y_given, y_ty, y_part, y_kind, y_end, y_state, y_with, y_runKind, y_runEnd, y_runWith, y_sort, y_one, y_two, y_from, y_to, y_label, y_held, y_around, y_waiting, y_operand, y_outer, y_kept⟩ := v
  obtain ⟨_, ⟨l1, l2, l3, l4⟩, hD, ⟨kd, vl, nm, cnt, d1, d2, dx, dy⟩, h4, h5, h6, h7⟩ := I
  subst l1 l2 l3 l4 d1 d2
  have h7' : ∀ r : Nat → Int32, (∀ q, 288 ≤ q → r q = y_ty q) → ((x_runVerdict = 0 ∧ y_given = 1 ∧ gr_V x_result r (x_cellCount, x_scopeCount, x_frameCount, x_mode, x_atToken, x_scope, x_current, x_callee, x_side, x_ending, x_faultLabel, x_stepsTaken, x_cellShape, x_cellLabel, x_cellOne, x_cellTwo, x_cellThree, x_scopeValue, x_scopeOuter, x_frameKind, x_frameOne, x_frameTwo, x_frameThree) (y_values, y_variables, y_waits, y_at, y_world, y_steps, y_blame, y_result, y_sort, y_one, y_two, y_from, y_to, y_label, y_held, y_around, y_waiting, y_operand, y_outer, y_kept)) ∨ (¬ x_runVerdict = 0 ∧ y_given = 0)) := by
    intro r hr
    rcases h7 with ⟨a, b, c⟩ | c
    · exact Or.inl ⟨a, b, gr_V_ty c (fun q hq => hr q (by omega))⟩
    · exact Or.inr c
  unfold wpX_typeAt
  refine gr_both (x_count := 0) (y_parts := y_parts) (y_count := nI cnt) (y_place := y_place) (y_where := y_where) (y_values := y_values) (y_variables := y_variables) (y_waits := y_waits) (y_at := y_at) (y_world := y_world) (y_steps := y_steps) (y_blame := y_blame) (y_result := y_result) (y_given := y_given) (y_ty := y_ty) (y_part := y_part) (y_kind := y_kind) (y_end := y_end) (y_state := y_state) (y_with := y_with) (y_runKind := y_runKind) (y_runEnd := y_runEnd) (y_runWith := y_runWith) (y_sort := y_sort) (y_one := y_one) (y_two := y_two) (y_from := y_from) (y_to := y_to) (y_label := y_label) (y_held := y_held) (y_around := y_around) (y_waiting := y_waiting) (y_operand := y_operand) (y_outer := y_outer) (y_kept := y_kept) dx dy ?_ ?_
  · intro c i e o t g c0 c5 EX
    have nz : ¬ nI c = 0 := nI_ne0 (by omega) (by omega)
    refine br_f nz ?_
    dsimp only
    unfold wpY_typeAt
    refine EX _ (fun e' st r hr => br_f nz ?_)
    exact ⟨rfl, rfl, ⟨rfl, rfl, rfl, rfl⟩, hD, ⟨kd, vl, nm, cnt, rfl, rfl, dx, gy_DR_r dy hr⟩, h4, h5, h6, h7' r hr⟩
  · intro e o t g W all hP EX
    have c0 : 0 < cnt := by
      rcases Nat.eq_zero_or_pos cnt with z | z
      · subst z
        exact absurd (show (1 : Nat) = 0 from W.2) (by decide)
      · exact z
    obtain ⟨g1, g2, g3, g4, g5, g6, g7⟩ := hP.2 0 c0
    have t0 : t 0 = nI (gd_en (gs_R kd vl nm cnt 0).2) := g4
    have T0 : gd_TY (gs_R kd vl nm cnt 0).2 := g5
    have z7 := T0.2
    have zp := gd_sz_pos (gs_R kd vl nm cnt 0).2
    have fin : ∀ (x : Int32) e' st r w, (∀ q, 288 ≤ q → r q = y_ty q) → (x = x ∧ i_Rel (k + 3) (x_typeDraft, x_typeCount, nI cnt, -1, x_keptPlace, x_cellCount, x_scopeCount, x_frameCount, x_mode, x_atToken, x_scope, x_current, x_callee, x_side, x_ending, x_faultLabel, x_stepsTaken, x_runVerdict, x_runBlame, x_result, x_named, x_kinds, x_values, e, t, o, g, x_cellShape, x_cellLabel, x_cellOne, x_cellTwo, x_cellThree, x_scopeValue, x_scopeOuter, x_frameKind, x_frameOne, x_frameTwo, x_frameThree, 32768, 32768, 32768, 32768) (y_parts, nI cnt, y_place, w, y_values, y_variables, y_waits, y_at, y_world, y_steps, y_blame, y_result, y_given, r, y_part, y_kind, e', st, y_with, y_runKind, y_runEnd, y_runWith, y_sort, y_one, y_two, y_from, y_to, y_label, y_held, y_around, y_waiting, y_operand, y_outer, y_kept)) := fun x e' st r w hr => ⟨rfl, rfl, ⟨rfl, rfl, rfl, rfl⟩, hD, ⟨kd, vl, nm, cnt, rfl, rfl, dx, gy_DR_r dy hr⟩, h4, h5, h6, h7' r hr⟩
    have te : ∀ R : Int32 → Prop, R (nI (gd_sz (gs_R kd vl nm cnt 0).2)) → wpX_typeEnd R (t 0) 0 := by
      intro R h
      rw [t0]
      refine gx_typeEnd (i := 0) (gx_en T0) T0.1 (gd_sp_en T0.1) (by omega) ?_
      rw [Nat.zero_add]
      exact h
    have be : ∀ (R : Int32 → Prop) e' st r w, gd_Sp r (gs_R kd vl nm cnt 0).2 0 → R (nI (gd_sz (gs_R kd vl nm cnt 0).2)) → wpY_behind R (y_parts, nI cnt, y_place, w, y_values, y_variables, y_waits, y_at, y_world, y_steps, y_blame, y_result, y_given, r, y_part, y_kind, e', st, y_with, y_runKind, y_runEnd, y_runWith, y_sort, y_one, y_two, y_from, y_to, y_label, y_held, y_around, y_waiting, y_operand, y_outer, y_kept) 0 := by
      intro R e' st r w sp h
      refine gy_behind (y_ty := r) (i := 0) T0 sp (by omega) ?_
      rw [Nat.zero_add]
      exact h
    refine br_t rfl ?_
    by_cases n0 : v1 < 0
    · refine br_t n0 ?_
      dsimp only
      unfold wpY_typeAt
      exact EX _ (fun e' st r w hE hr => br_t rfl (br_t n0 (fin _ e' st r w hr)))
    refine br_f n0 (te _ ?_)
    obtain ⟨j, hj, rfl⟩ := nI_of n0
    by_cases lt : j < gd_sz (gs_R kd vl nm cnt 0).2
    · refine br_t (nI_lt lt (by omega)) ?_
      rw [t0]
      refine gx_typeToken (gx_en T0) (by omega) ?_
      dsimp only
      unfold wpY_typeAt
      refine EX _ (fun e' st r w hE hr => br_t rfl (br_f n0 (be _ e' st r w (hE 0 c0).2 (br_t (nI_lt lt (by omega)) ?_))))
      rw [nI_clamp hj]
      have tk := gd_sp_tok2 (gs_R kd vl nm cnt 0).2 0 0 (hE 0 c0).2 (gd_sp_en T0.1) j lt
      rw [Nat.zero_add] at tk
      refine And.intro (vp_in_nI (by omega) (by decide)) ?_
      rw [tk]
      exact fin _ e' st r w hr
    · refine br_f (nI_nlt (by omega) (by omega)) ?_
      dsimp only
      unfold wpY_typeAt
      exact EX _ (fun e' st r w hE hr => br_t rfl (br_f n0 (be _ e' st r w (hE 0 c0).2 (br_f (nI_nlt (by omega) (by omega)) (fin _ e' st r w hr)))))
