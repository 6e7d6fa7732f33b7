/-! ===== 43: run, both sides ===== -/
theorem gm_ok_e {out : gm_O} {Q : Nat → gm_S → Prop} (h : gm_ok (some out) Q) (z : out.1 = 0) : Q out.2.1 out.2.2.2 := by
  obtain ⟨c, v, p, s⟩ := out
  have z' : c = 0 := z
  subst z'
  exact h
theorem gy_DR_s {kd : Nat → Nat} {vl : Nat → Int32} {nm : Nat → Lean.RArray Nat} {cnt : Nat} {ty r kind wit : Nat → Int32} (hd : gy_DR kd vl nm cnt ty kind wit) (h : ∀ q, 288 ≤ q → q < 400 → r q = ty q) : gy_DR kd vl nm cnt r kind wit := by
  obtain ⟨c36, hn, hnm, hK, hk⟩ := hd
  refine ⟨c36, hn, fun n hn' => gd_sp_same (hnm n hn') (fun k hk' => ?_), ?_, hk⟩
  · have := (hn n).2
    exact h _ (by omega) (by omega)
  · obtain ⟨a, b, c, d, e, f, g, i, j⟩ := hK
    exact ⟨(h _ (by decide) (by decide)).trans a, (h _ (by decide) (by decide)).trans b, (h _ (by decide) (by decide)).trans c, (h _ (by decide) (by decide)).trans d, (h _ (by decide) (by decide)).trans e, (h _ (by decide) (by decide)).trans f, (h _ (by decide) (by decide)).trans g, (h _ (by decide) (by decide)).trans i, (h _ (by decide) (by decide)).trans j⟩
theorem i_vc_run {k : Nat} {u : SX} {v : SY} (I : i_Rel k u v) (hk : k + 3 ≤ 1536) : wpX_run (fun r u' => wpY_run (fun r' v' => r' = r ∧ i_Rel (k + 3) u' v') v) u := by
  obtain ⟨x_typeDraft, x_typeCount, x_count, x_wrongAt, x_keptPlace, x_cellCount, x_scopeCount, x_frameCount, x_mode, x_atToken, x_scope, x_current, x_callee, x_side, x_ending, x_faultLabel, x_stepsTaken, x_runVerdict, x_runBlame, x_result, x_named, x_kinds, x_values, x_ends, x_types, x_operands, x_targets, x_cellShape, x_cellLabel, x_cellOne, x_cellTwo, x_cellThree, x_scopeValue, x_scopeOuter, x_frameKind, x_frameOne, x_frameTwo, x_frameThree, x_nKind, x_nOne, x_nTwo, x_nThree⟩ := u
  obtain ⟨y_parts, y_count, y_place, y_where, y_values, y_variables, y_waits, y_at, y_world, y_steps, y_blame, y_result, y_given, y_ty, y_part, y_kind, y_end, y_state, y_with, y_runKind, y_runEnd, y_runWith, y_sort, y_one, y_two, y_from, y_to, y_label, y_held, y_around, y_waiting, y_operand, y_outer, y_kept⟩ := v
  obtain ⟨_, ⟨l1, l2, l3, l4⟩, hD, ⟨kd, vl, nm, cnt, d1, d2, dx, dy⟩, h4, h5, h6, h7⟩ := I
  subst l1 l2 l3 l4 d1 d2
  unfold wpX_run
  refine gr_both (x_count := 0) (y_parts := y_parts) (y_count := nI cnt) (y_place := y_place) (y_where := y_where) (y_values := y_values) (y_variables := y_variables) (y_waits := y_waits) (y_at := y_at) (y_world := y_world) (y_steps := 0) (y_blame := 0) (y_result := y_result) (y_given := 0) (y_ty := y_ty) (y_part := y_part) (y_kind := y_kind) (y_end := y_end) (y_state := y_state) (y_with := y_with) (y_runKind := y_runKind) (y_runEnd := y_runEnd) (y_runWith := y_runWith) (y_sort := y_sort) (y_one := y_one) (y_two := y_two) (y_from := y_from) (y_to := y_to) (y_label := y_label) (y_held := y_held) (y_around := y_around) (y_waiting := y_waiting) (y_operand := y_operand) (y_outer := y_outer) (y_kept := y_kept) dx dy ?_ ?_
  · intro c i e o t g c0 c5 EX
    have nz : ¬ nI c = 0 := nI_ne0 (by omega) (by omega)
    refine br_f nz ?_
    dsimp only
    unfold wpY_run
    refine EX _ (fun e' st r hr => br_f nz ?_)
    exact ⟨rfl, rfl, ⟨rfl, rfl, rfl, rfl⟩, hD, ⟨kd, vl, nm, cnt, rfl, rfl, dx, gy_DR_r dy hr⟩, rfl, rfl, rfl, Or.inr ⟨nz, rfl⟩⟩
  · intro e o t g W all hP EX
    have c0 : 0 < cnt := by
      rcases Nat.eq_zero_or_pos cnt with z | z
      · subst z
        exact absurd (show (1 : Nat) = 0 from W.2) (by decide)
      · exact z
    have SF := gs_SF W dx.2.1 (fun i hi => (dx.2.2.2 i hi).2.1) all
    have ok := gm_run_ok SF rfl c0 rfl
    cases H : gm_run (gs_P kd vl nm cnt) with
    | none => rw [H] at ok; exact ok.elim
    | some out =>
      rw [H] at ok
      have okz := fun z => gm_ok_e ok z
      have c3 : gm_C3 out := gm_ev_c3 41 _ _ _ _ _ H
      refine br_t rfl ?_
      refine gr_xrun (x_types := t) (x_operands := o) (x_targets := g) hP H (fun z => ⟨(okz z).2.1, (okz z).2.2.2⟩) ?_ ?_
      · intro z D hH hcur hend
        obtain ⟨x_cellCount, x_scopeCount, x_frameCount, x_mode, x_atToken, x_scope, x_current, x_callee, x_side, x_ending, x_faultLabel, x_stepsTaken, x_cellShape, x_cellLabel, x_cellOne, x_cellTwo, x_cellThree, x_scopeValue, x_scopeOuter, x_frameKind, x_frameOne, x_frameTwo, x_frameThree⟩ := D
        have e1 : x_ending = 0 := hend
        have e2 : x_current = nI (gm_xv out.2.1) := hcur
        subst e1
        refine br_f (show ¬ (0 : Int32) = 4 by decide) ?_
        refine gr_yrun (y_steps := y_steps) (y_blame := y_blame) (y_given := y_given) W all dy (fun z => (okz z).2.1) EX H ?_ (fun z' => absurd z z')
        intro _ w e' st r rk re rw' E hE hrs r288
        have hH1 := hH
        have hE1 := hE
        obtain ⟨y_values, y_variables, y_waits, y_at, y_world, y_steps, y_blame, y_result, y_sort, y_one, y_two, y_from, y_to, y_label, y_held, y_around, y_waiting, y_operand, y_outer, y_kept⟩ := E
        obtain ⟨_, _, _, hs, _⟩ := hH
        obtain ⟨_, _, _, _, hs', _, hb, _⟩ := hE
        exact ⟨rfl, rfl, ⟨rfl, rfl, rfl, rfl⟩, hD, ⟨kd, vl, nm, cnt, rfl, rfl, dx, gy_DR_s dy r288⟩, h4, hb.symm, hs.trans hs'.symm, Or.inl ⟨rfl, rfl, gs_P kd vl nm cnt, cnt, gs_G kd vl nm cnt, out.2.2.2, out.2.1, SF, (okz z).1, hH1, hE1, e2, hrs⟩⟩
      · intro z D hE
        obtain ⟨x_cellCount, x_scopeCount, x_frameCount, x_mode, x_atToken, x_scope, x_current, x_callee, x_side, x_ending, x_faultLabel, x_stepsTaken, x_cellShape, x_cellLabel, x_cellOne, x_cellTwo, x_cellThree, x_scopeValue, x_scopeOuter, x_frameKind, x_frameOne, x_frameTwo, x_frameThree⟩ := D
        obtain ⟨m4, en, sp, fl, _⟩ := hE
        have en' : x_ending = nI out.1 := en
        have sp' : x_stepsTaken = nI (gm_T out.2.2.2) := sp
        rcases c3 with c | c | c
        · exact absurd c z
        · have fl' : x_faultLabel = gm_lb out.2.2.1 := fl c
          rw [c] at en'
          subst en'
          refine br_t rfl ?_
          refine gr_yrun (y_steps := y_steps) (y_blame := y_blame) (y_given := y_given) W all dy (fun z => (okz z).2.1) EX H (fun z' => absurd z' z) ?_
          intro _ w e' st r rk re rw' E hE r288
          obtain ⟨s1, s2, s3, _⟩ := hE
          obtain ⟨y_values, y_variables, y_waits, y_at, y_world, y_steps, y_blame, y_result, y_sort, y_one, y_two, y_from, y_to, y_label, y_held, y_around, y_waiting, y_operand, y_outer, y_kept⟩ := E
          have b1 : y_blame = gm_lb out.2.2.1 := (s2 c).1
          have b2 : y_steps = nI (gm_T out.2.2.2) := s1
          refine ⟨by rw [c], rfl, ⟨rfl, rfl, rfl, rfl⟩, hD, ⟨kd, vl, nm, cnt, rfl, rfl, dx, gy_DR_s dy r288⟩, h4, fl'.trans b1.symm, sp'.trans b2.symm, Or.inr ⟨show ¬ nI 4 = 0 by decide, rfl⟩⟩
        · rw [c] at en'
          subst en'
          refine br_f (show ¬ nI 5 = 4 by decide) ?_
          refine gr_yrun (y_steps := y_steps) (y_blame := y_blame) (y_given := y_given) W all dy (fun z => (okz z).2.1) EX H (fun z' => absurd z' z) ?_
          intro _ w e' st r rk re rw' E hE r288
          obtain ⟨s1, s2, s3, _⟩ := hE
          obtain ⟨y_values, y_variables, y_waits, y_at, y_world, y_steps, y_blame, y_result, y_sort, y_one, y_two, y_from, y_to, y_label, y_held, y_around, y_waiting, y_operand, y_outer, y_kept⟩ := E
          have b1 : y_blame = 0 := s3 c
          have b2 : y_steps = nI (gm_T out.2.2.2) := s1
          refine ⟨by rw [c], rfl, ⟨rfl, rfl, rfl, rfl⟩, hD, ⟨kd, vl, nm, cnt, rfl, rfl, dx, gy_DR_s dy r288⟩, h4, b1.symm, sp'.trans b2.symm, Or.inr ⟨show ¬ nI 5 = 0 by decide, rfl⟩⟩
