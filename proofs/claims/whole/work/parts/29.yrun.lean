/-! ===== 29: the evaluator's tokens, in the reference ===== -/
section
variable {y_parts y_count y_place y_where y_values y_variables y_waits y_at y_world y_steps y_blame y_result y_given : Int32} {y_ty y_part y_kind y_end y_state y_with y_runKind y_runEnd y_runWith y_sort y_one y_two y_from y_to y_label y_held y_around y_waiting y_operand y_outer y_kept : Nat → Int32}
variable {post : Int32 → SY → Prop}
theorem gy_G_give {M i k v kd : Nat} {D : gy_D} (c4 : kd ≠ 4) (c9 : kd ≠ 9) (c10 : kd ≠ 10) (l12 : kd < 12) (h2 : gy_two kd = 0) (hk : kd = 5 → 0 < k) (hk3 : k < 3) (R : gy_R3 post M (nI v) (gy_Y y_parts y_count y_place y_where y_given y_ty y_part y_kind y_end y_state y_with y_runKind y_runEnd y_runWith D)) : gy_G post y_parts y_count y_place y_where y_given y_ty y_part y_kind y_end y_state y_with y_runKind y_runEnd y_runWith M i k v kd D := by
  obtain ⟨y_values, y_variables, y_waits, y_at, y_world, y_steps, y_blame, y_result, y_sort, y_one, y_two, y_from, y_to, y_label, y_held, y_around, y_waiting, y_operand, y_outer, y_kept⟩ := D
  have b : wY_goOn_205 (gy_R1 post M) (nI v) (nI kd) (nI 0) y_parts y_count y_place y_where y_values y_variables y_waits y_at y_world y_steps y_blame y_result y_given y_ty y_part y_kind y_end y_state y_with y_runKind y_runEnd y_runWith y_sort y_one y_two y_from y_to y_label y_held y_around y_waiting y_operand y_outer y_kept := pk_eq kd 4 (fun z => absurd z c4) (fun _ => pk_eq kd 9 (fun z => absurd z c9) (fun _ => pk_eq kd 10 (fun z => absurd z c10) (fun _ => br_t rfl R)))
  have c : wY_goOn_133 (gy_R1 post M) (nI i) (nI k) (nI v) (nI kd) (nI 0) y_parts y_count y_place y_where y_values y_variables y_waits y_at y_world y_steps y_blame y_result y_given y_ty y_part y_kind y_end y_state y_with y_runKind y_runEnd y_runWith y_sort y_one y_two y_from y_to y_label y_held y_around y_waiting y_operand y_outer y_kept := br_t rfl b
  show wY_goOn_121 (gy_R1 post M) (nI i) (nI k) (nI v) (nI kd) (nI (gy_two kd)) y_parts y_count y_place y_where y_values y_variables y_waits y_at y_world y_steps y_blame y_result y_given y_ty y_part y_kind y_end y_state y_with y_runKind y_runEnd y_runWith y_sort y_one y_two y_from y_to y_label y_held y_around y_waiting y_operand y_outer y_kept
  rw [h2]
  exact pk_eq kd 5 (fun z => pk_eq k 0 (fun y => absurd y (by have := hk z; omega)) (fun _ => c)) (fun _ => c)
theorem gy_G_two {M i k v kd : Nat} {D : gy_D} (h2 : gy_two kd = 1) (c5 : kd ≠ 5) (l12 : kd < 12) (hk3 : k < 3) (R : match D with | (y_values, y_variables, y_waits, y_at, y_world, y_steps, y_blame, y_result, y_sort, y_one, y_two, y_from, y_to, y_label, y_held, y_around, y_waiting, y_operand, y_outer, y_kept) => (k = 0 → wY_goOn_164 (gy_R1 post M) (nI i) (nI v) y_parts y_count y_place y_where y_values y_variables y_waits y_at y_world y_steps y_blame y_result y_given y_ty y_part y_kind y_end y_state y_with y_runKind y_runEnd y_runWith y_sort y_one y_two y_from y_to y_label y_held y_around y_waiting y_operand y_outer y_kept) ∧ (k ≠ 0 → wY_goOn_205 (gy_R1 post M) (nI v) (nI kd) 1 y_parts y_count y_place y_where y_values y_variables y_waits y_at y_world y_steps y_blame y_result y_given y_ty y_part y_kind y_end y_state y_with y_runKind y_runEnd y_runWith y_sort y_one y_two y_from y_to y_label y_held y_around y_waiting y_operand y_outer y_kept)) : gy_G post y_parts y_count y_place y_where y_given y_ty y_part y_kind y_end y_state y_with y_runKind y_runEnd y_runWith M i k v kd D := by
  obtain ⟨y_values, y_variables, y_waits, y_at, y_world, y_steps, y_blame, y_result, y_sort, y_one, y_two, y_from, y_to, y_label, y_held, y_around, y_waiting, y_operand, y_outer, y_kept⟩ := D
  obtain ⟨R0, R1⟩ := R
  show wY_goOn_121 (gy_R1 post M) (nI i) (nI k) (nI v) (nI kd) (nI (gy_two kd)) y_parts y_count y_place y_where y_values y_variables y_waits y_at y_world y_steps y_blame y_result y_given y_ty y_part y_kind y_end y_state y_with y_runKind y_runEnd y_runWith y_sort y_one y_two y_from y_to y_label y_held y_around y_waiting y_operand y_outer y_kept
  rw [h2]
  exact pk_eq kd 5 (fun z => absurd z c5) (fun _ => br_f (show ¬ (1 : Int32) = 0 by decide) (pk_eq k 0 (fun z => pk_eq kd 5 (fun z => absurd z c5) (fun _ => R0 z)) (fun z => R1 z)))
theorem gy_rest_sim {P : gm_P} {f : Nat → Nat → Nat → gm_S → Option gm_O} (hP : gy_P P y_ty y_runKind y_runEnd y_runWith) (hf : gy_IH post y_parts y_count y_place y_where y_given y_ty y_part y_kind y_end y_state y_with y_runKind y_runEnd y_runWith f) (hlf : gm_LF f) {h i w v wc C M : Nat} {s : gm_S} {out : gm_O} {D0 D : gy_D} {kept : Int32} (H : gm_rest P f h i w v (gm_tk s) = some out) (hi : i < gm_cn P) (h4 : 4 ≤ gm_kd P i) (hC : 2000004 ≤ C) (hu : gm_u s < 1000000) (hwc : wc + 1 ≤ gm_T s) (hM : C + 1 ≤ M + 2 * gm_u (gm_tk s)) (hH : gy_H y_ty s D) (hwt : gy_wt D = nI wc) (hfr : gy_fr D wc = (nI i, nI 0, nI w - 1, kept)) (hA : gy_A wc D0 D) (K0 : gy_K0 post y_parts y_count y_place y_where y_given y_ty y_part y_kind y_end y_state y_with y_runKind y_runEnd y_runWith C wc D0 out) (KB : gy_KB post y_parts y_count y_place y_where y_given y_ty y_part y_kind y_end y_state y_with y_runKind y_runEnd y_runWith out) : gy_G post y_parts y_count y_place y_where y_given y_ty y_part y_kind y_end y_state y_with y_runKind y_runEnd y_runWith M i 0 v (gm_kd P i) D := by
  have c36 : gm_cn P ≤ 36 := hP.1
  have hK : gy_K y_ty := hP.2.1
  have k12 : gm_kd P i < 12 := (hP.2.2 i hi).2.1
  have eu : gm_u (gm_tk s) = gm_u s + 1 := rfl
  have H0 : gy_H y_ty (gm_tk s) D := hH
  have T40 : gm_T s ≤ 40 := by
    obtain ⟨y_values, y_variables, y_waits, y_at, y_world, y_steps, y_blame, y_result, y_sort, y_one, y_two, y_from, y_to, y_label, y_held, y_around, y_waiting, y_operand, y_outer, y_kept⟩ := D
    exact hH.2.2.2.2.2.1
  have leO := gm_LE_rest hlf H
  have uO : gm_u (gm_tk s) ≤ gm_u out.2.2.2 := leO.2.2.1
  have hwc3 : wc < 299 := by omega
  have fo : (gy_fr D wc).2.2.1 = nI w - 1 := by rw [hfr]
  unfold gm_rest at H
  by_cases c9 : gm_kd P i = 9 ∨ gm_kd P i = 10
  · rw [if_pos c9] at H
    have code : out.1 ≠ 0 → out.1 = 4 := fun z => gm_take_code _ _ _ _ _ H z
    have t0 : gy_two (gm_kd P i) = 0 := by unfold gy_two; rw [if_neg (by omega)]
    have part : ∀ side, side = gm_kd P i - 9 → (match D with | (y_values, y_variables, y_waits, y_at, y_world, y_steps, y_blame, y_result, y_sort, y_one, y_two, y_from, y_to, y_label, y_held, y_around, y_waiting, y_operand, y_outer, y_kept) => wY_goOn_254 (gy_R1 post M) (nI (gm_kd P i)) (nI 0) (if side = 0 then 1 else 0) (nI v) y_parts y_count y_place y_where y_values y_variables y_waits y_at y_world y_steps y_blame y_result y_given y_ty y_part y_kind y_end y_state y_with y_runKind y_runEnd y_runWith y_sort y_one y_two y_from y_to y_label y_held y_around y_waiting y_operand y_outer y_kept) := by
      intro side es
      rw [← es] at H
      have g := gy_partOf (R0 := fun r u => match u with | (y_parts, y_count, y_place, y_where, y_values, y_variables, y_waits, y_at, y_world, y_steps, y_blame, y_result, y_given, y_ty, y_part, y_kind, y_end, y_state, y_with, y_runKind, y_runEnd, y_runWith, y_sort, y_one, y_two, y_from, y_to, y_label, y_held, y_around, y_waiting, y_operand, y_outer, y_kept) => wY_goOn_258 (gy_R1 post M) r (nI (gm_kd P i)) (nI 0) y_parts y_count y_place y_where y_values y_variables y_waits y_at y_world y_steps y_blame y_result y_given y_ty y_part y_kind y_end y_state y_with y_runKind y_runEnd y_runWith y_sort y_one y_two y_from y_to y_label y_held y_around y_waiting y_operand y_outer y_kept) (s := gm_tk s) (show side < 2 by omega) hK H H0 (fun z D' hD' hS => by
        have r := gy_fin (M := M) K0 z hD' (hS.1.trans hwt) (fun q hq => (hS.2.2.2.2 q).trans (hA q hq)) (by omega) (by omega)
        obtain ⟨y_values, y_variables, y_waits, y_at, y_world, y_steps, y_blame, y_result, y_sort, y_one, y_two, y_from, y_to, y_label, y_held, y_around, y_waiting, y_operand, y_outer, y_kept⟩ := D'
        exact br_t rfl r) (fun z x D' hE _ => by
        have r := gy_finB (M := M) (x := x) KB (code z) hE
        obtain ⟨y_values, y_variables, y_waits, y_at, y_world, y_steps, y_blame, y_result, y_sort, y_one, y_two, y_from, y_to, y_label, y_held, y_around, y_waiting, y_operand, y_outer, y_kept⟩ := D'
        exact br_t rfl r)
      obtain ⟨y_values, y_variables, y_waits, y_at, y_world, y_steps, y_blame, y_result, y_sort, y_one, y_two, y_from, y_to, y_label, y_held, y_around, y_waiting, y_operand, y_outer, y_kept⟩ := D
      exact g
    obtain ⟨y_values, y_variables, y_waits, y_at, y_world, y_steps, y_blame, y_result, y_sort, y_one, y_two, y_from, y_to, y_label, y_held, y_around, y_waiting, y_operand, y_outer, y_kept⟩ := D
    show wY_goOn_121 (gy_R1 post M) (nI i) (nI 0) (nI v) (nI (gm_kd P i)) (nI (gy_two (gm_kd P i))) y_parts y_count y_place y_where y_values y_variables y_waits y_at y_world y_steps y_blame y_result y_given y_ty y_part y_kind y_end y_state y_with y_runKind y_runEnd y_runWith y_sort y_one y_two y_from y_to y_label y_held y_around y_waiting y_operand y_outer y_kept
    rw [t0]
    refine pk_eq (gm_kd P i) 5 (fun z => by omega) (fun _ => br_t rfl (pk_eq (gm_kd P i) 4 (fun z => by omega) (fun _ => ?_)))
    rcases c9 with c | c
    · have p0 := part 0 (by omega)
      rw [c] at p0 ⊢
      exact br_t rfl (br_t rfl p0)
    · have p0 := part 1 (by omega)
      rw [c] at p0 ⊢
      exact br_f (show ¬ nI 10 = 9 by decide) (br_t rfl (br_f (show ¬ nI 10 = 9 by decide) p0))
  rw [if_neg c9] at H
  by_cases c5 : gm_kd P i = 5
  · rw [if_pos c5] at H
    obtain ⟨hv, H⟩ := gm_num_e H
    have hv' : v / 8 < gm_n s ∧ gm_ck (gm_h s (v / 8)) < 3 := hv
    have ar3 : gs_ar (gm_kd P i) = 3 := by rw [c5]; rfl
    have go : ∀ k D', (if gm_ci (gm_h (gm_tk s) (v / 8)) = 0 then 2 else 1) = k → gy_W y_ty P (gm_tk s) D0 D' wc i k w (nI v) → gy_lp post y_parts y_count y_place y_where y_given y_ty y_part y_kind y_end y_state y_with y_runKind y_runEnd y_runWith M 0 1 D' := by
      intro k D' ek hW
      rw [ek] at H
      have kk : k < 3 ∧ 0 < k := by rw [← ek]; split <;> decide
      refine gy_opr_sim hP hf hlf H hi h4 (by omega) kk.1 hC (by omega) hwc hW ?_ KB M (by omega)
      intro s2 o0 o1 o2 o3 M' D2 hM' g1 g2 g3 g4
      refine gy_G_give (by omega) (by omega) (by omega) k12 (by rw [c5]; rfl) (fun _ => kk.2) kk.1 ?_
      exact gy_fin K0 o0 (by rw [o1]; exact g1) g2 g4 (by rw [o1]; omega) (by omega)
    have s165 : ∀ k, (if gm_ci (gm_h (gm_tk s) (v / 8)) = 0 then 2 else 1) = k → (match D with | (y_values, y_variables, y_waits, y_at, y_world, y_steps, y_blame, y_result, y_sort, y_one, y_two, y_from, y_to, y_label, y_held, y_around, y_waiting, y_operand, y_outer, y_kept) => wY_goOn_165 (gy_R1 post M) (nI i) (nI v) (nI k) y_parts y_count y_place y_where y_values y_variables y_waits y_at y_world y_steps y_blame y_result y_given y_ty y_part y_kind y_end y_state y_with y_runKind y_runEnd y_runWith y_sort y_one y_two y_from y_to y_label y_held y_around y_waiting y_operand y_outer y_kept) := by
      intro k ek
      have kk : k < 3 := by rw [← ek]; split <;> decide
      exact gy_165 (hd := 0) hP hi (by omega) kk hwc3 H0 hwt fo hA (fun D' hW => go k D' ek hW)
    obtain ⟨y_values, y_variables, y_waits, y_at, y_world, y_steps, y_blame, y_result, y_sort, y_one, y_two, y_from, y_to, y_label, y_held, y_around, y_waiting, y_operand, y_outer, y_kept⟩ := D
    have one : y_one (v / 8) = gm_ci (gm_h s (v / 8)) := (hH.1.2.2 _ hv'.1).2.2.1 hv'.2
    have n5 : gm_n s ≤ 5000 := hH.1.2.1
    show wY_goOn_121 (gy_R1 post M) (nI i) (nI 0) (nI v) (nI (gm_kd P i)) (nI (gy_two (gm_kd P i))) y_parts y_count y_place y_where y_values y_variables y_waits y_at y_world y_steps y_blame y_result y_given y_ty y_part y_kind y_end y_state y_with y_runKind y_runEnd y_runWith y_sort y_one y_two y_from y_to y_label y_held y_around y_waiting y_operand y_outer y_kept
    rw [c5]
    refine br_t rfl (br_t rfl (br_t rfl ?_))
    rw [gy_div (by omega), nI_clamp (show v / 8 < 2 ^ 31 by omega), one]
    refine And.intro (by decide) (And.intro (vp_in_nI (by omega) (by decide)) (br_c (fun z => ?_) (fun z => ?_)))
    · exact s165 2 (by show (if gm_ci (gm_h s (v / 8)) = 0 then 2 else 1) = 2; rw [if_pos z])
    · exact s165 1 (by show (if gm_ci (gm_h s (v / 8)) = 0 then 2 else 1) = 1; rw [if_neg z])
  rw [if_neg c5] at H
  by_cases c11 : gm_kd P i = 11
  · rw [if_pos c11] at H
    injection H with H
    subst H
    refine gy_G_give (by omega) (by omega) (by omega) k12 (by rw [c11]; rfl) (fun z => absurd z c5) (by decide) ?_
    exact gy_fin K0 rfl H0 hwt hA (by show C ≤ M + 2 * gm_u (gm_tk s); omega) (by omega)
  rw [if_neg c11] at H
  have hk4 : gm_kd P i = 4 ∨ gm_kd P i = 6 ∨ gm_kd P i = 7 ∨ gm_kd P i = 8 := by omega
  have ar2 : gs_ar (gm_kd P i) = 2 := by rcases hk4 with c | c | c | c <;> rw [c] <;> rfl
  have t1 : gy_two (gm_kd P i) = 1 := by unfold gy_two; rw [if_pos (by omega)]
  have go : ∀ D', gy_W y_ty P (gm_tk s) D0 D' wc i 1 w (nI v) → gy_lp post y_parts y_count y_place y_where y_given y_ty y_part y_kind y_end y_state y_with y_runKind y_runEnd y_runWith M 0 1 D' := by
    intro D' hW
    refine gm_bd_e H ?_ ?_
    · intro v' p' s' e1 H1
      refine gy_opr_sim (out := (0, v', p', s')) hP hf hlf e1 hi h4 (by omega) (by decide) hC (by omega) hwc hW ?_ (fun z => absurd rfl z) M (by omega)
      intro s2 o0 o1 o2 o3 M' D2 hM' g1 g2 g3 g4
      have o1' : s' = gm_tk s2 := o1
      subst o1'
      have o2' : gm_T s ≤ gm_T s2 := o2
      have G2 : gy_H y_ty (gm_tk s2) D2 := g1
      have eu2 : gm_u (gm_tk s2) = gm_u s2 + 1 := rfl
      have n5 : gm_n s2 ≤ 5000 := by
        obtain ⟨y_values, y_variables, y_waits, y_at, y_world, y_steps, y_blame, y_result, y_sort, y_one, y_two, y_from, y_to, y_label, y_held, y_around, y_waiting, y_operand, y_outer, y_kept⟩ := D2
        exact g1.1.2.1
      refine gy_G_two t1 c5 k12 (by decide) ?_
      by_cases c4 : gm_kd P i = 4
      · rw [if_pos c4] at H1
        obtain ⟨q5, H1⟩ := gm_if_e H1
        have lt := gm_call_lt H1
        have lt' : v / 8 < gm_n s2 := lt
        have leC := gm_LE_call hlf _ _ _ _ _ _ H1
        have main := gy_call_l (x1 := v) (M := M') hf hlf hK (by omega) hC (by omega) _ 0 h v v' (gm_tk s2) out D2 H1 (by omega) (by show wc + 1 ≤ gm_T s2; omega) rfl (fun q hq => absurd hq (Nat.not_lt_zero _)) G2 g2 g4 (by omega) (fun _ => K0) (fun M'' hM'' z D' a1 a2 a3 => gy_un0 (gy_fin K0 z a1 a2 a3 hM'' (by omega))) KB _ (Nat.lt_succ_self _)
        obtain ⟨y_values, y_variables, y_waits, y_at, y_world, y_steps, y_blame, y_result, y_sort, y_one, y_two, y_from, y_to, y_label, y_held, y_around, y_waiting, y_operand, y_outer, y_kept⟩ := D2
        have e1 : y_waits = nI wc := g2
        subst e1
        have gk : (y_waiting wc, y_operand wc, y_outer wc, y_kept wc) = (nI i, nI 1, nI w - 1, nI v) := g3
        have kv : y_kept wc = nI v := congrArg (fun q => q.2.2.2) gk
        refine ⟨fun z => absurd z (by decide), fun _ => ?_⟩
        rw [c4]
        refine br_t rfl ?_
        rw [nI_clamp (show wc < 2 ^ 31 by omega), kv]
        exact And.intro (vp_in_nI (by omega) (by decide)) (And.intro (by decide) (nm_r (gy_div (by omega)) (Exists.intro _ main)))
      · rw [if_neg c4] at H1
        have eO : gm_u out.2.2.2 = gm_u (gm_tk s2) := by
          by_cases c6 : gm_kd P i = 6
          · rw [if_pos c6] at H1
            exact (gm_new_same (gm_num_e (gm_num_e H1).2).2).2.2.2
          rw [if_neg c6] at H1
          by_cases c7 : gm_kd P i = 7
          · rw [if_pos c7] at H1
            exact (gm_new_same (gm_num_e (gm_num_e H1).2).2).2.2.2
          rw [if_neg c7] at H1
          exact (gm_new_same (gm_if_e (gm_if_e H1).2).2).2.2.2
        have j := gy_joined (R0 := gy_R3 post M') (s := gm_tk s2) (v := v) (v' := v') G2 H1 (fun z D' a1 a2 => gy_fin K0 z a1 (a2.1.trans g2) (fun q hq => (a2.2.2.2.2 q).trans (g4 q hq)) (by rw [eO]; omega) (by omega))
        obtain ⟨y_values, y_variables, y_waits, y_at, y_world, y_steps, y_blame, y_result, y_sort, y_one, y_two, y_from, y_to, y_label, y_held, y_around, y_waiting, y_operand, y_outer, y_kept⟩ := D2
        have e1 : y_waits = nI wc := g2
        subst e1
        have gk : (y_waiting wc, y_operand wc, y_outer wc, y_kept wc) = (nI i, nI 1, nI w - 1, nI v) := g3
        have kv : y_kept wc = nI v := congrArg (fun q => q.2.2.2) gk
        refine ⟨fun z => absurd z (by decide), fun _ => ?_⟩
        refine pk_eq (gm_kd P i) 4 (fun z => absurd z c4) (fun _ => pk_eq (gm_kd P i) 9 (fun z => by omega) (fun _ => pk_eq (gm_kd P i) 10 (fun z => by omega) (fun _ => br_f (show ¬ (1 : Int32) = 0 by decide) ?_)))
        rw [nI_clamp (show wc < 2 ^ 31 by omega), kv]
        exact And.intro (vp_in_nI (by omega) (by decide)) j
    · intro e1 nz
      exact gy_opr_sim hP hf hlf e1 hi h4 (by omega) (by decide) hC (by omega) hwc hW (fun _ z => absurd z nz) KB M (by omega)
  refine gy_G_two t1 c5 k12 (by decide) ?_
  have s165 : (match D with | (y_values, y_variables, y_waits, y_at, y_world, y_steps, y_blame, y_result, y_sort, y_one, y_two, y_from, y_to, y_label, y_held, y_around, y_waiting, y_operand, y_outer, y_kept) => wY_goOn_165 (gy_R1 post M) (nI i) (nI v) (nI 1) y_parts y_count y_place y_where y_values y_variables y_waits y_at y_world y_steps y_blame y_result y_given y_ty y_part y_kind y_end y_state y_with y_runKind y_runEnd y_runWith y_sort y_one y_two y_from y_to y_label y_held y_around y_waiting y_operand y_outer y_kept) := gy_165 (hd := 0) hP hi (by omega) (by decide) hwc3 H0 hwt fo hA go
  obtain ⟨y_values, y_variables, y_waits, y_at, y_world, y_steps, y_blame, y_result, y_sort, y_one, y_two, y_from, y_to, y_label, y_held, y_around, y_waiting, y_operand, y_outer, y_kept⟩ := D
  exact ⟨fun _ => s165, fun z => absurd rfl z⟩
theorem gy_ev_sim {P : gm_P} (hP : gy_P P y_ty y_runKind y_runEnd y_runWith) : ∀ d, gy_IH post y_parts y_count y_place y_where y_given y_ty y_part y_kind y_end y_state y_with y_runKind y_runEnd y_runWith (gm_ev P d) := by
  intro d
  have c36 : gm_cn P ≤ 36 := hP.1
  induction d with
  | zero =>
    intro h i w s out D C wc H
    exact absurd H (by simp [gm_ev])
  | succ d ih =>
    intro h i w s out D C wc H hC hu0 hH hwt hwc hat hwd K0 KB
    have leO := gm_LE_ev (P := P) (d + 1) _ _ _ _ _ H
    simp only [gm_ev] at H
    obtain ⟨hi, H⟩ := gm_if_e H
    obtain ⟨⟨r1, r2, r3, r4⟩, H⟩ := gm_tick_e H
    have H0 : gy_H y_ty (gm_tk s) D := hH
    have eu : gm_u (gm_tk s) = gm_u s + 1 := rfl
    have i36 : i < 36 := by omega
    have T40 : gm_T s ≤ 40 := by
      obtain ⟨y_values, y_variables, y_waits, y_at, y_world, y_steps, y_blame, y_result, y_sort, y_one, y_two, y_from, y_to, y_label, y_held, y_around, y_waiting, y_operand, y_outer, y_kept⟩ := D
      exact hH.2.2.2.2.2.1
    by_cases hT : 40 ≤ gm_T (gm_tk s)
    · rw [if_pos hT] at H
      injection H with H
      subst H
      exact gy_bLong hC hu0 hT hH KB
    rw [if_neg hT] at H
    have hT' : gm_T s < 40 := Nat.lt_of_not_le hT
    by_cases k4 : 4 ≤ gm_kd P i
    · rw [if_neg (by omega), if_neg (by omega), if_neg (by omega), if_neg (by omega)] at H
      refine gy_b0 hC hu0 hT' hH (fun M hM => gy_bOp (s := gm_tk s) hP hi k4 hT' (by omega) H0 hwt hat hwd (fun D' hW => ?_))
      have ar : 0 < gs_ar (gm_kd P i) := gs_ar_k k4 (Or.inl rfl)
      have eT : gm_T (gm_st (gm_tk s)) = gm_T s + 1 := rfl
      have eu2 : gm_u (gm_st (gm_tk s)) = gm_u s + 1 := rfl
      refine gm_bd_e H ?_ ?_
      · intro v p s1 e1 H1
        refine gy_opr_sim (out := (0, v, p, s1)) hP ih (gm_LE_ev d) e1 hi k4 ar (by decide) hC (by omega) (by omega) hW ?_ (fun z => absurd rfl z) M (by omega)
        intro s2 o0 o1 o2 o3 M' D2 hM' g1 g2 g3 g4
        have o1' : s1 = gm_tk s2 := o1
        subst o1'
        exact gy_rest_sim hP ih (gm_LE_ev d) H1 hi k4 hC o3 (by omega) hM' g1 g2 g3 g4 K0 KB
      · intro e1 nz
        exact gy_opr_sim hP ih (gm_LE_ev d) e1 hi k4 ar (by decide) hC (by omega) (by omega) hW (fun _ z => absurd z nz) KB M (by omega)
    · have H' : (if gm_kd P i = 0 then gm_new (gm_st (gm_tk s)) (1, gm_vl P i, 0, 0, .leaf 0, .leaf 0, 0, 0, 0, 0, 0) 0
          else if gm_kd P i = 1 then gm_new (gm_st (gm_tk s)) (2, gm_vl P i, 0, 0, .leaf 1, .leaf 1, 0, 0, 0, 0, 0) 0
          else if gm_kd P i = 2 then (match gm_var (gm_st (gm_tk s)) (gm_vl P i).toNatClampNeg w with | none => none | some v => some (0, v, 0, gm_st (gm_tk s)))
          else if gm_kd P i = 3 then gm_new (gm_st (gm_tk s)) (3, 0, i, w, gm_ty P i, gm_ty P i, 0, 0, 0, 0, 0) 0 else none) = some out := by
        by_cases k0 : gm_kd P i = 0
        · rw [if_pos k0] at H ⊢; exact H
        rw [if_neg k0] at H ⊢
        by_cases k1 : gm_kd P i = 1
        · rw [if_pos k1] at H ⊢; exact H
        rw [if_neg k1] at H ⊢
        by_cases k2 : gm_kd P i = 2
        · rw [if_pos k2] at H ⊢; exact H
        rw [if_neg k2] at H ⊢
        have k3 : gm_kd P i = 3 := by omega
        rw [if_pos k3] at H ⊢
        exact H
      have uO : gm_u s + 1 ≤ gm_u out.2.2.2 := by
        by_cases k0 : gm_kd P i = 0
        · rw [if_pos k0] at H'
          exact Nat.le_of_eq (gm_new_same H').2.2.2.symm
        rw [if_neg k0] at H'
        by_cases k1 : gm_kd P i = 1
        · rw [if_pos k1] at H'
          exact Nat.le_of_eq (gm_new_same H').2.2.2.symm
        rw [if_neg k1] at H'
        by_cases k2 : gm_kd P i = 2
        · rw [if_pos k2] at H'
          cases hv : gm_var (gm_st (gm_tk s)) (gm_vl P i).toNatClampNeg w with
          | none => rw [hv] at H'; exact absurd H' (by simp)
          | some v => rw [hv] at H'; injection H' with H'; subst H'; exact Nat.le_refl _
        rw [if_neg k2] at H'
        exact Nat.le_of_eq (gm_new_same (gm_if_e H').2).2.2.2.symm
      refine gy_b0 hC hu0 hT' hH (fun M hM => gy_bNew (s := gm_tk s) hP hi hT' H0 hat hwd H' ?_)
      intro z D' a1 a2 a3
      exact gy_fin K0 z a1 (a2.trans hwt) (fun q hq => a3 q) (by omega) (by omega)
end
