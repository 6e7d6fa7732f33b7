/-! ===== 42: run ===== -/
def gm_C3 (out : gm_O) : Prop := out.1 = 0 ∨ out.1 = 4 ∨ out.1 = 5
theorem gm_fc_c3 {s : gm_S} {h v : Nat} {f t : Lean.RArray Nat} {p : Int} {out : gm_O} (H : gm_fc s h v f t p = some out) : gm_C3 out := by
  by_cases z : out.1 = 0
  · exact Or.inl z
  · by_cases c : out.1 = 4
    · exact Or.inr (Or.inl c)
    · exact (gm_fc_code H z c).elim
theorem gm_new_c3 {s : gm_S} {c : gm_Cell} {add : Nat} {out : gm_O} (H : gm_new s c add = some out) : gm_C3 out := by
  obtain ⟨_, H⟩ := gm_new_e H
  rw [H]
  exact Or.inl rfl
def gm_CF (f : Nat → Nat → Nat → gm_S → Option gm_O) : Prop := ∀ (h i w : Nat) (s : gm_S) (out : gm_O), f h i w s = some out → gm_C3 out
theorem gm_call_c3 {f : Nat → Nat → Nat → gm_S → Option gm_O} (hf : gm_CF f) : ∀ (n h g a : Nat) (s : gm_S) (out : gm_O), gm_call f n h g a s = some out → gm_C3 out := by
  intro n
  induction n with
  | zero =>
    intro h g a s out H
    simp only [gm_call] at H
    exact hf _ _ _ _ _ (gm_if_e (gm_tick_e H).2).2
  | succ n ih =>
    intro h g a s out H
    simp only [gm_call] at H
    obtain ⟨_, H⟩ := gm_if_e (gm_tick_e H).2
    refine gm_bd_e H ?_ ?_
    · intro a' p s1 e1 H1
      refine gm_bd_e H1 ?_ ?_
      · intro u p2 s2 _ H2
        exact gm_fc_c3 H2
      · intro e2 _
        exact ih _ _ _ _ _ e2
    · intro e1 _
      rcases gm_cast_code e1 with c | c
      · exact Or.inl c
      · exact Or.inr (Or.inl c)
theorem gm_opr_c3 {P : gm_P} {f : Nat → Nat → Nat → gm_S → Option gm_O} (hf : gm_CF f) {h i k w : Nat} {s : gm_S} {out : gm_O} (H : gm_opr P f h i k w s = some out) : gm_C3 out := by
  unfold gm_opr at H
  refine gm_bd_e H ?_ ?_
  · intro v p s1 _ H1
    refine gm_bd_e H1 ?_ ?_
    · intro v' p' s2 _ H2
      obtain ⟨_, H2⟩ := gm_tick_e H2
      injection H2 with H2
      rw [← H2]
      exact Or.inl rfl
    · intro e2 _
      exact gm_fc_c3 e2
  · intro e1 _
    exact hf _ _ _ _ _ e1
theorem gm_rest_c3 {P : gm_P} {f : Nat → Nat → Nat → gm_S → Option gm_O} (hf : gm_CF f) {h i w v : Nat} {s : gm_S} {out : gm_O} (H : gm_rest P f h i w v s = some out) : gm_C3 out := by
  unfold gm_rest at H
  by_cases c9 : gm_kd P i = 9 ∨ gm_kd P i = 10
  · rw [if_pos c9] at H
    by_cases z : out.1 = 0
    · exact Or.inl z
    · exact Or.inr (Or.inl (gm_take_code _ _ _ _ _ H z))
  rw [if_neg c9] at H
  by_cases c5 : gm_kd P i = 5
  · rw [if_pos c5] at H
    exact gm_opr_c3 hf (gm_num_e H).2
  rw [if_neg c5] at H
  by_cases c11 : gm_kd P i = 11
  · rw [if_pos c11] at H
    injection H with H
    rw [← H]
    exact Or.inl rfl
  rw [if_neg c11] at H
  refine gm_bd_e H ?_ ?_
  · intro v' p' s1 _ H1
    by_cases c4 : gm_kd P i = 4
    · rw [if_pos c4] at H1
      exact gm_call_c3 hf _ _ _ _ _ _ (gm_if_e H1).2
    rw [if_neg c4] at H1
    by_cases c6 : gm_kd P i = 6
    · rw [if_pos c6] at H1
      exact gm_new_c3 (gm_num_e (gm_num_e H1).2).2
    rw [if_neg c6] at H1
    by_cases c7 : gm_kd P i = 7
    · rw [if_pos c7] at H1
      exact gm_new_c3 (gm_num_e (gm_num_e H1).2).2
    rw [if_neg c7] at H1
    exact gm_new_c3 (gm_if_e (gm_if_e H1).2).2
  · intro e1 _
    exact gm_opr_c3 hf e1
theorem gm_ev_c3 {P : gm_P} : ∀ d, gm_CF (gm_ev P d) := by
  intro d
  induction d with
  | zero =>
    intro h i w s out H
    exact absurd H (by simp [gm_ev])
  | succ d ih =>
    intro h i w s out H
    simp only [gm_ev] at H
    obtain ⟨_, H⟩ := gm_if_e H
    obtain ⟨_, H⟩ := gm_tick_e H
    by_cases hT : 40 ≤ gm_T (gm_tk s)
    · rw [if_pos hT] at H
      injection H with H
      rw [← H]
      exact Or.inr (Or.inr rfl)
    rw [if_neg hT] at H
    by_cases k0 : gm_kd P i = 0
    · rw [if_pos k0] at H
      exact gm_new_c3 H
    rw [if_neg k0] at H
    by_cases k1 : gm_kd P i = 1
    · rw [if_pos k1] at H
      exact gm_new_c3 H
    rw [if_neg k1] at H
    by_cases k2 : gm_kd P i = 2
    · rw [if_pos k2] at H
      cases hv : gm_var (gm_st (gm_tk s)) (gm_vl P i).toNatClampNeg w with
      | none => rw [hv] at H; exact absurd H (by simp)
      | some v => rw [hv] at H; injection H with H; rw [← H]; exact Or.inl rfl
    rw [if_neg k2] at H
    by_cases k3 : gm_kd P i = 3
    · rw [if_pos k3] at H
      exact gm_new_c3 H
    rw [if_neg k3] at H
    refine gm_bd_e H ?_ ?_
    · intro v p s1 _ H1
      exact gm_rest_c3 ih H1
    · intro e1 _
      exact gm_opr_c3 ih e1
section
variable {x_typeDraft x_typeCount x_count x_wrongAt x_keptPlace x_cellCount x_scopeCount x_frameCount x_mode x_atToken x_scope x_current x_callee x_side x_ending x_faultLabel x_stepsTaken x_runVerdict x_runBlame x_result : Int32} {x_named x_kinds x_values x_ends x_types x_operands x_targets x_cellShape x_cellLabel x_cellOne x_cellTwo x_cellThree x_scopeValue x_scopeOuter x_frameKind x_frameOne x_frameTwo x_frameThree : Nat → Int32}
def gx_stop (D : gx_D) : gx_D := match D with | (x_cellCount, x_scopeCount, x_frameCount, x_mode, x_atToken, x_scope, x_current, x_callee, x_side, x_ending, x_faultLabel, x_stepsTaken, x_cellShape, x_cellLabel, x_cellOne, x_cellTwo, x_cellThree, x_scopeValue, x_scopeOuter, x_frameKind, x_frameOne, x_frameTwo, x_frameThree) => (x_cellCount, x_scopeCount, x_frameCount, 4, x_atToken, x_scope, x_current, x_callee, x_side, 0, x_faultLabel, x_stepsTaken, x_cellShape, x_cellLabel, x_cellOne, x_cellTwo, x_cellThree, x_scopeValue, x_scopeOuter, x_frameKind, x_frameOne, x_frameTwo, x_frameThree)
theorem gx_resume0 {D : gx_D} (hF : gx_fc D = 0) : gx_M wpX_resumeFrame x_typeDraft x_typeCount x_count x_wrongAt x_keptPlace x_runVerdict x_runBlame x_result x_named x_kinds x_values x_ends x_types x_operands x_targets D (fun D' => D' = gx_stop D) := by
  intro P HP
  have h := HP (gx_stop D) rfl
  obtain ⟨x_cellCount, x_scopeCount, x_frameCount, x_mode, x_atToken, x_scope, x_current, x_callee, x_side, x_ending, x_faultLabel, x_stepsTaken, x_cellShape, x_cellLabel, x_cellOne, x_cellTwo, x_cellThree, x_scopeValue, x_scopeOuter, x_frameKind, x_frameOne, x_frameTwo, x_frameThree⟩ := D
  have e : x_frameCount = 0 := hF
  subst e
  exact br_t rfl h
/-- the last turn -/
theorem gx_last {post : SX → Prop} {s : gm_S} {D : gx_D} (hu : gm_u s < 1000000) (hm : gm_m s < 64) (hH : gx_H s D) (hF : gx_fc D = nI 0) (m1 : gx_mode D = 1) (P : post (gx_X x_typeDraft x_typeCount x_count x_wrongAt x_keptPlace x_runVerdict x_runBlame x_result x_named x_kinds x_values x_ends x_types x_operands x_targets (gx_stop D))) : gx_go post x_typeDraft x_typeCount x_count x_wrongAt x_keptPlace x_runVerdict x_runBlame x_result x_named x_kinds x_values x_ends x_types x_operands x_targets s D := by
  refine gx_t1 hu hm (by decide) hH hF m1 (gx_resume0 hF) ?_
  intro D' e
  subst e
  intro N hN
  have eu : gm_u (gm_tk s) = gm_u s + 1 := rfl
  refine gx_halt (by omega) ?_ P
  obtain ⟨x_cellCount, x_scopeCount, x_frameCount, x_mode, x_atToken, x_scope, x_current, x_callee, x_side, x_ending, x_faultLabel, x_stepsTaken, x_cellShape, x_cellLabel, x_cellOne, x_cellTwo, x_cellThree, x_scopeValue, x_scopeOuter, x_frameKind, x_frameOne, x_frameTwo, x_frameThree⟩ := D
  rfl
theorem gr_xrun {P : gm_P} {out : gm_O} {R : SX → Prop} (hP : gx_P P x_kinds x_values x_types x_operands x_targets) (H : gm_run P = some out) (hu : out.1 = 0 → gm_u out.2.2.2 < 1000000 ∧ gm_m out.2.2.2 < 64)
    (A : out.1 = 0 → ∀ D, gx_H out.2.2.2 D → gx_cur D = nI (gm_xv out.2.1) → gx_end D = 0 → R (gx_X x_typeDraft x_typeCount x_count x_wrongAt x_keptPlace x_runVerdict x_runBlame x_result x_named x_kinds x_values x_ends x_types x_operands x_targets D)) (B : out.1 ≠ 0 → ∀ D, gx_E out D → R (gx_X x_typeDraft x_typeCount x_count x_wrongAt x_keptPlace x_runVerdict x_runBlame x_result x_named x_kinds x_values x_ends x_types x_operands x_targets D)) : wpX_workOut R (x_typeDraft, x_typeCount, x_count, x_wrongAt, x_keptPlace, 0, 1, 0, 0, 0, 0, x_current, x_callee, x_side, x_ending, x_faultLabel, 0, x_runVerdict, x_runBlame, x_result, x_named, x_kinds, x_values, x_ends, x_types, x_operands, x_targets, x_cellShape, x_cellLabel, x_cellOne, x_cellTwo, x_cellThree, x_scopeValue, x_scopeOuter, x_frameKind, x_frameOne, x_frameTwo, x_frameThree, 32768, 32768, 32768, 32768) := by
  have go := gx_ev_sim (post := R) (x_typeDraft := x_typeDraft) (x_typeCount := x_typeCount) (x_count := x_count) (x_wrongAt := x_wrongAt) (x_keptPlace := x_keptPlace) (x_runVerdict := x_runVerdict) (x_runBlame := x_runBlame) (x_result := x_result) (x_named := x_named) (x_kinds := x_kinds) (x_values := x_values) (x_ends := x_ends) (x_types := x_types) (x_operands := x_operands) (x_targets := x_targets) hP 41 0 0 0 gm_s0 out (0, 1, 0, 0, 0, 0, x_current, x_callee, x_side, 5, x_faultLabel, 0, x_cellShape, x_cellLabel, x_cellOne, x_cellTwo, x_cellThree, x_scopeValue, x_scopeOuter, x_frameKind, x_frameOne, x_frameTwo, x_frameThree) 0 H (Nat.le_refl _) ⟨⟨rfl, by decide, fun c hc => absurd hc (Nat.not_lt_zero _)⟩, rfl, by decide, rfl, by decide, fun w h1 h2 => absurd (show w < 1 from h2) (by omega)⟩ rfl rfl rfl rfl ?_ (fun z D' hE => B z D' hE)
  · exact Exists.intro 1000002 (go 1000002 (by decide))
  · intro D' z a1 a2 a3 a4 a5
    obtain ⟨u1, u2⟩ := hu z
    refine gx_last u1 u2 a1 a2 a4 (A z (gx_stop D') ?_ ?_ ?_)
    · obtain ⟨x_cellCount, x_scopeCount, x_frameCount, x_mode, x_atToken, x_scope, x_current, x_callee, x_side, x_ending, x_faultLabel, x_stepsTaken, x_cellShape, x_cellLabel, x_cellOne, x_cellTwo, x_cellThree, x_scopeValue, x_scopeOuter, x_frameKind, x_frameOne, x_frameTwo, x_frameThree⟩ := D'
      exact a1
    · obtain ⟨x_cellCount, x_scopeCount, x_frameCount, x_mode, x_atToken, x_scope, x_current, x_callee, x_side, x_ending, x_faultLabel, x_stepsTaken, x_cellShape, x_cellLabel, x_cellOne, x_cellTwo, x_cellThree, x_scopeValue, x_scopeOuter, x_frameKind, x_frameOne, x_frameTwo, x_frameThree⟩ := D'
      exact a5
    · obtain ⟨x_cellCount, x_scopeCount, x_frameCount, x_mode, x_atToken, x_scope, x_current, x_callee, x_side, x_ending, x_faultLabel, x_stepsTaken, x_cellShape, x_cellLabel, x_cellOne, x_cellTwo, x_cellThree, x_scopeValue, x_scopeOuter, x_frameKind, x_frameOne, x_frameTwo, x_frameThree⟩ := D'
      rfl
end
section
variable {y_parts y_count y_place y_where y_values y_variables y_waits y_at y_world y_steps y_blame y_result y_given : Int32} {y_ty y_part y_kind y_end y_state y_with y_runKind y_runEnd y_runWith y_sort y_one y_two y_from y_to y_label y_held y_around y_waiting y_operand y_outer y_kept : Nat → Int32}
theorem gr_y36 {post : Int32 → SY → Prop} (P : ∀ r : Nat → Int32, (∀ k, k < 288 → r (400 + k) = vp_nar .byte (y_ty k)) → (∀ q, (q < 400 ∨ 688 ≤ q) → r q = y_ty q) → ∃ n, wY_run_67 post y_parts y_count y_place y_where y_values y_variables y_waits y_at y_world y_steps y_blame y_result y_given n 0 r y_part y_kind y_end y_state y_with y_runKind y_runEnd y_runWith y_sort y_one y_two y_from y_to y_label y_held y_around y_waiting y_operand y_outer y_kept) : ∀ d k, k + d = 288 → ∀ r : Nat → Int32, (∀ q, q < k → r (400 + q) = vp_nar .byte (y_ty q)) → (∀ q, (q < 400 ∨ 688 ≤ q) → r q = y_ty q) → wY_run_36 post y_parts y_count y_place y_where y_values y_variables y_waits y_at y_world y_steps y_blame y_result y_given (d + 1) (nI k) r y_part y_kind y_end y_state y_with y_runKind y_runEnd y_runWith y_sort y_one y_two y_from y_to y_label y_held y_around y_waiting y_operand y_outer y_kept := by
  intro d
  induction d with
  | zero =>
    intro k e r h h'
    exact br_t (nI_le (a := 288) (by omega) (by omega)) (P r (fun q hq => h q (by omega)) h')
  | succ d ih =>
    intro k e r h h'
    refine br_f (nI_ge (b := 288) (by omega) (by decide)) ?_
    rw [show (400 : Int32) + nI k = nI (400 + k) from nI_add 400 k, nI_clamp (show 400 + k < 2 ^ 31 by omega), nI_clamp (show k < 2 ^ 31 by omega), h' k (by omega)]
    refine And.intro (vp_in_nI (by omega) (by decide)) (And.intro (vp_in_nI (by omega) (by decide)) (nm_e (nm_r (nI_1 k) (ih (k + 1) (by omega) _ ?_ ?_))))
    · intro q hq
      by_cases c : q = k
      · subst c; exact pk_us
      · rw [pk_un (by omega)]; exact h q (by omega)
    · intro q hq
      rw [pk_un (by omega)]
      exact h' q hq
theorem gr_y67 {post : Int32 → SY → Prop} {cnt : Nat} (c36 : cnt ≤ 36) (P : ∀ rk re rw' : Nat → Int32, (∀ i, i < cnt → rk i = vp_nar .byte (y_kind i) ∧ re i = vp_nar .byte (y_end i) ∧ rw' i = y_with i) → ∃ n, wY_run_146 post n 0 1 y_parts (nI cnt) y_place y_where 0 0 0 0 (-1) y_steps y_blame y_result y_given y_ty y_part y_kind y_end y_state y_with rk re rw' y_sort y_one y_two y_from y_to y_label y_held y_around y_waiting y_operand y_outer y_kept) : ∀ d k, k + d = cnt → ∀ rk re rw' : Nat → Int32, (∀ i, i < k → rk i = vp_nar .byte (y_kind i) ∧ re i = vp_nar .byte (y_end i) ∧ rw' i = y_with i) → wY_run_67 post y_parts (nI cnt) y_place y_where y_values y_variables y_waits y_at y_world y_steps y_blame y_result y_given (d + 1) (nI k) y_ty y_part y_kind y_end y_state y_with rk re rw' y_sort y_one y_two y_from y_to y_label y_held y_around y_waiting y_operand y_outer y_kept := by
  intro d
  induction d with
  | zero =>
    intro k e rk re rw' h
    have e' : k = cnt := by omega
    subst e'
    exact br_t (Int32.le_refl _) (P rk re rw' h)
  | succ d ih =>
    intro k e rk re rw' h
    have vin : vp_in (nI k) 36 := vp_in_nI (by omega) (by decide)
    refine br_f (nI_ge (by omega) (by omega)) ?_
    rw [nI_clamp (show k < 2 ^ 31 by omega)]
    refine And.intro vin (And.intro vin (nm_e (And.intro vin (And.intro vin (nm_e (And.intro vin (And.intro vin (nm_e (nm_r (nI_1 k) (ih (k + 1) (by omega) _ _ _ ?_))))))))))
    intro i hi
    by_cases c : i = k
    · subst c
      exact ⟨pk_us, pk_us, pk_us⟩
    · rw [pk_un c, pk_un c, pk_un c]
      exact h i (by omega)
theorem gr_yrun {kd : Nat → Nat} {vl : Nat → Int32} {nm : Nat → Lean.RArray Nat} {cnt : Nat} {out : gm_O} {R : Int32 → SY → Prop} (W : gs_WF kd cnt) (all : ∀ i, i < cnt → (gs_R kd vl nm cnt i).1 = 0) (dy : gy_DR kd vl nm cnt y_ty y_kind y_with) (hu : out.1 = 0 → gm_u out.2.2.2 < 1000000)
    (EX : ∀ PY : Int32 → SY → Prop, (∀ e' st r w, (∀ j, j < cnt → e' j = nI (gs_en kd cnt j) ∧ gd_Sp r (gs_R kd vl nm cnt j).2 (8 * j)) → (∀ q, 288 ≤ q → r q = y_ty q) → PY 0 (y_parts, nI cnt, y_place, w, y_values, y_variables, y_waits, y_at, y_world, 0, 0, y_result, 0, r, y_part, y_kind, e', st, y_with, y_runKind, y_runEnd, y_runWith, y_sort, y_one, y_two, y_from, y_to, y_label, y_held, y_around, y_waiting, y_operand, y_outer, y_kept)) → wpY_examine PY (y_parts, nI cnt, y_place, y_where, y_values, y_variables, y_waits, y_at, y_world, 0, 0, y_result, 0, y_ty, y_part, y_kind, y_end, y_state, y_with, y_runKind, y_runEnd, y_runWith, y_sort, y_one, y_two, y_from, y_to, y_label, y_held, y_around, y_waiting, y_operand, y_outer, y_kept)) (H : gm_run (gs_P kd vl nm cnt) = some out)
    (A : out.1 = 0 → ∀ w e' st r rk re rw' E, gy_H r out.2.2.2 E → gy_rs E = nI out.2.1 → (∀ q, 288 ≤ q → q < 400 → r q = y_ty q) → R 0 (gy_Y y_parts (nI cnt) y_place w 1 r y_part y_kind e' st y_with rk re rw' E))
    (B : out.1 ≠ 0 → ∀ w e' st r rk re rw' E, gy_E r out E → (∀ q, 288 ≤ q → q < 400 → r q = y_ty q) → R (nI out.1) (gy_Y y_parts (nI cnt) y_place w 0 r y_part y_kind e' st y_with rk re rw' E)) : wpY_run R (y_parts, nI cnt, y_place, y_where, y_values, y_variables, y_waits, y_at, y_world, y_steps, y_blame, y_result, y_given, y_ty, y_part, y_kind, y_end, y_state, y_with, y_runKind, y_runEnd, y_runWith, y_sort, y_one, y_two, y_from, y_to, y_label, y_held, y_around, y_waiting, y_operand, y_outer, y_kept) := by
  have dy0 := dy
  obtain ⟨c36, hn, hnm, hK, hk⟩ := dy
  unfold wpY_run
  refine EX _ (fun e' st r w hE hr => br_t rfl (Exists.intro 289 ?_))
  refine gr_y36 (y_ty := r) (y_end := e') (y_state := st) ?_ 288 0 rfl r (fun q hq => absurd hq (Nat.not_lt_zero _)) (fun q _ => rfl)
  intro r2 h1 h2
  refine Exists.intro (cnt + 1) (gr_y67 (y_ty := r2) (y_end := e') (y_state := st) c36 ?_ cnt 0 (Nat.zero_add _) y_runKind y_runEnd y_runWith (fun i hi => absurd hi (Nat.not_lt_zero _)))
  intro rk re rw' h3
  have r288 : ∀ q, 288 ≤ q → q < 400 → r2 q = y_ty q := fun q a b => (h2 q (by omega)).trans (hr q a)
  have hK2 : gy_K r2 := by
    obtain ⟨a, b, c, d, e, f, g, i, j⟩ := hK
    exact ⟨(r288 _ (by decide) (by decide)).trans a, (r288 _ (by decide) (by decide)).trans b, (r288 _ (by decide) (by decide)).trans c, (r288 _ (by decide) (by decide)).trans d, (r288 _ (by decide) (by decide)).trans e, (r288 _ (by decide) (by decide)).trans f, (r288 _ (by decide) (by decide)).trans g, (r288 _ (by decide) (by decide)).trans i, (r288 _ (by decide) (by decide)).trans j⟩
  have hP : gy_P (gs_P kd vl nm cnt) r2 rk re rw' := by
    refine ⟨c36, hK2, fun i hi => ?_⟩
    have hi' : i < cnt := hi
    obtain ⟨k1, k2, k3, k4⟩ := hk i hi'
    obtain ⟨a1, a2, a3⟩ := h3 i hi'
    have tyi : gd_TY (gs_R kd vl nm cnt i).2 := gs_rTY W hn hi'
    have sp := (hE i hi').2
    have okm : ∀ m, m < gs_ar (kd i) → (gs_R kd vl nm cnt (gs_op (gs_en kd cnt) i m)).1 = 0 := fun m hm => all _ (gs_op_lt W hi' hm).2
    have rho := gs_pr_rho (vl := vl) (nm := nm) W hi' okm
    have pr0 : (gs_pr kd vl nm cnt i).1 = 0 := by
      by_cases z : (gs_pr kd vl nm cnt i).1 = 0
      · exact z
      · have c := gs_pre_bad (t2 := gs_t kd vl nm cnt i 2) k2 z
        rw [← rho, all i hi'] at c
        exact absurd c.symm z
    refine ⟨?_, k2, a3.trans k3, fun c => k4 (Or.inl c), tyi, ?_, rfl, ?_, ?_, ?_, ?_⟩
    · rw [a1, k1]; exact gd_nb _ (by omega)
    · refine gd_sp_cp _ (8 * i) (400 + 8 * i) sp (fun m hm => ?_)
      have z := tyi.2
      have hm' : m < gd_sz (gs_R kd vl nm cnt i).2 := hm
      rw [show 400 + 8 * i + m = 400 + (8 * i + m) by omega, h1 (8 * i + m) (by omega)]
      exact gd_sp_b _ (8 * i) tyi.1 sp m hm
    · intro m hm
      have ol := gs_op_lt W hi' hm
      have o0 := gs_op_lt W hi' (show 0 < gs_ar (kd i) from Nat.lt_of_le_of_lt (Nat.zero_le _) hm)
      exact ⟨ol.2, gs_tg_TY tyi (gs_rTY W hn o0.2) (gs_rTY W hn ol.2), rfl⟩
    · intro m hm
      have ol := gs_op_lt W hi' (show m < gs_ar (kd i) from Nat.lt_of_succ_lt hm)
      have e36 := Nat.le_trans (gs_en_ok W ol.2).2.1 c36
      obtain ⟨_, b2, _⟩ := h3 _ ol.2
      show re (gs_op (gs_en kd cnt) i m) = _
      rw [b2, (hE _ ol.2).1]
      exact gd_nb _ (by omega)
    · intro c
      have c' : kd i = 4 := c
      have := gs_pr_hd4 c' pr0
      rw [gs_t_k (show 0 < gs_ar (kd i) by rw [c']; decide)] at this
      exact this
    · intro c
      have c' : kd i = 5 := c
      have e2 : (gs_R kd vl nm cnt i).2 = (gs_pr kd vl nm cnt i).2 := by rw [rho]; exact gs_pre_ty k2 pr0
      show (gs_R kd vl nm cnt i).2 = (gs_R kd vl nm cnt (gs_op (gs_en kd cnt) i 1)).2
      rw [e2, ← gs_t_k (show 1 < gs_ar (kd i) by rw [c']; decide)]
      unfold gs_pr
      rw [c']
      rfl
  have go := gy_ev_sim (post := R) (y_parts := y_parts) (y_count := nI cnt) (y_place := y_place) (y_where := w) (y_given := 0) (y_ty := r2) (y_part := y_part) (y_kind := y_kind) (y_end := e') (y_state := st) (y_with := y_with) (y_runKind := rk) (y_runEnd := re) (y_runWith := rw') hP 41 0 0 0 gm_s0 out (0, 0, 0, 0, -1, 0, 0, y_result, y_sort, y_one, y_two, y_from, y_to, y_label, y_held, y_around, y_waiting, y_operand, y_outer, y_kept) 2000004 0 H (Nat.le_refl _) (by decide) ⟨⟨rfl, by decide, fun c hc => absurd hc (Nat.not_lt_zero _)⟩, rfl, by decide, by decide, rfl, by decide, rfl, fun w h1 h2 => absurd (show w < 1 from h2) (by omega)⟩ rfl (Nat.zero_le _) rfl rfl ?_ (fun z E hE' => B z w e' st r2 rk re rw' E hE' r288)
  · exact Exists.intro 2000004 (go 2000004 (by decide))
  · intro E z b1 b2 b3 b4 N hN
    have u := hu z
    have a := A z w e' st r2 rk re rw' E b1 b4 r288
    obtain ⟨N, rfl⟩ : ∃ m, N = m + 1 := ⟨N - 1, by omega⟩
    obtain ⟨y_values, y_variables, y_waits, y_at, y_world, y_steps, y_blame, y_result, y_sort, y_one, y_two, y_from, y_to, y_label, y_held, y_around, y_waiting, y_operand, y_outer, y_kept⟩ := E
    exact br_t rfl a
end
