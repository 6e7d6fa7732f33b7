/-! ===== 25: calls in the reference ===== -/
def gy_setw (D : gy_D) (x : Int32) : gy_D := match D with | (y_values, y_variables, y_waits, y_at, y_world, y_steps, y_blame, y_result, y_sort, y_one, y_two, y_from, y_to, y_label, y_held, y_around, y_waiting, y_operand, y_outer, y_kept) => (y_values, y_variables, x, y_at, y_world, y_steps, y_blame, y_result, y_sort, y_one, y_two, y_from, y_to, y_label, y_held, y_around, y_waiting, y_operand, y_outer, y_kept)
/-- what is known of the evaluator with less fuel -/
def gy_IH (post : Int32 → SY → Prop) (y_parts y_count y_place y_where y_given : Int32) (y_ty y_part y_kind y_end y_state y_with y_runKind y_runEnd y_runWith : Nat → Int32) (f : Nat → Nat → Nat → gm_S → Option gm_O) : Prop :=
  ∀ (h i w : Nat) (s : gm_S) (out : gm_O) (D : gy_D) (C wc : Nat), f h i w s = some out → 2000004 ≤ C → gm_u s ≤ 1000000 → gy_H y_ty s D → gy_wt D = nI wc → wc ≤ gm_T s → gy_at D = nI i → gy_wd D = nI w - 1 → gy_K0 post y_parts y_count y_place y_where y_given y_ty y_part y_kind y_end y_state y_with y_runKind y_runEnd y_runWith C wc D out → gy_KB post y_parts y_count y_place y_where y_given y_ty y_part y_kind y_end y_state y_with y_runKind y_runEnd y_runWith out → gy_go post y_parts y_count y_place y_where y_given y_ty y_part y_kind y_end y_state y_with y_runKind y_runEnd y_runWith C 0 1 s D
section
variable {y_parts y_count y_place y_where y_values y_variables y_waits y_at y_world y_steps y_blame y_result y_given : Int32} {y_ty y_part y_kind y_end y_state y_with y_runKind y_runEnd y_runWith y_sort y_one y_two y_from y_to y_label y_held y_around y_waiting y_operand y_outer y_kept : Nat → Int32}
variable {post : Int32 → SY → Prop}
theorem gy_ret {C wc J f8 v : Nat} {s : gm_S} {D : gy_D} (hu : gm_u s ≤ 1000000) (hC : 2000004 ≤ C) (hwt : gy_wt D = nI (wc + 1)) (hw : wc < 299) (hfr : gy_fr D wc = (-1, 0, nI f8, nI J)) (hrs : gy_rs D = nI v) (U : ∀ M, C ≤ M + 2 * gm_u s → gy_un (gy_R3 post M) y_parts y_count y_place y_where y_given y_ty y_part y_kind y_end y_state y_with y_runKind y_runEnd y_runWith f8 0 J v (gy_setw D (nI wc))) : gy_go post y_parts y_count y_place y_where y_given y_ty y_part y_kind y_end y_state y_with y_runKind y_runEnd y_runWith (C + 1) 1 (gy_mo (wc + 1)) s D := by
  intro N hN
  obtain ⟨N, rfl⟩ : ∃ k, N = k + 1 := ⟨N - 1, by omega⟩
  have un := gy_unwind (U N (by omega))
  obtain ⟨y_values, y_variables, y_waits, y_at, y_world, y_steps, y_blame, y_result, y_sort, y_one, y_two, y_from, y_to, y_label, y_held, y_around, y_waiting, y_operand, y_outer, y_kept⟩ := D
  have e1 : y_waits = nI (wc + 1) := hwt
  have e2 : y_result = nI v := hrs
  subst e1 e2
  have hfr' : (y_waiting wc, y_operand wc, y_outer wc, y_kept wc) = ((-1 : Int32), (0 : Int32), nI f8, nI J) := hfr
  injection hfr' with f0 f1
  injection f1 with f1 f2
  injection f2 with f2 f3
  have vin : vp_in (nI wc) 300 := vp_in_nI (by omega) (by decide)
  have em : gy_mo (wc + 1) = 1 := by unfold gy_mo; rw [if_neg (by omega)]
  rw [em]
  refine br_f (show ¬ (1 : Int32) = 0 by decide) (br_f (show ¬ (1 : Int32) = 0 by decide) (br_f (show ¬ (1 : Int32) = 0 by decide) (nm_r (nI_pred wc) ?_)))
  rw [nI_clamp (show wc < 2 ^ 31 by omega), f0, f2, f3]
  exact And.intro vin (nm_e (br_f (show ¬ (0 : Int32) ≤ -1 by decide) (And.intro vin (And.intro vin un))))
theorem gy_later {post : SY → Prop} {wc : Nat} (hw : wc < 300) {a b c d : Int32} (ha : vp_nar .byte a.toInt8.toInt32 = a) (hb : vp_nar .byte b.toInt8.toInt32 = b) (P : post (y_parts, y_count, y_place, y_where, y_values, y_variables, nI (wc + 1), y_at, y_world, y_steps, y_blame, y_result, y_given, y_ty, y_part, y_kind, y_end, y_state, y_with, y_runKind, y_runEnd, y_runWith, y_sort, y_one, y_two, y_from, y_to, y_label, y_held, y_around, upd y_waiting wc a, upd y_operand wc b, upd y_outer wc c, upd y_kept wc d)) : wpY_later post (y_parts, y_count, y_place, y_where, y_values, y_variables, nI wc, y_at, y_world, y_steps, y_blame, y_result, y_given, y_ty, y_part, y_kind, y_end, y_state, y_with, y_runKind, y_runEnd, y_runWith, y_sort, y_one, y_two, y_from, y_to, y_label, y_held, y_around, y_waiting, y_operand, y_outer, y_kept) a b c d := by
  have e : (nI wc).toNatClampNeg = wc := nI_clamp (by omega)
  have vin : vp_in (nI wc) 300 := vp_in_nI hw (by decide)
  have e1 : upd y_waiting (nI wc).toNatClampNeg (vp_nar .byte a.toInt8.toInt32) = upd y_waiting wc a := by rw [e, ha]
  have e2 : upd y_operand (nI wc).toNatClampNeg (vp_nar .byte b.toInt8.toInt32) = upd y_operand wc b := by rw [e, hb]
  exact And.intro vin (nm_r e1 (And.intro vin (nm_r e2 (And.intro vin (nm_r (congrArg (fun k => upd y_outer k c) e) (nm_r (nI_1 wc) (And.intro vin (nm_r (congrArg (fun k => upd y_kept k d) e) P))))))))
theorem gy_call_l {f : Nat → Nat → Nat → gm_S → Option gm_O} (hf : gy_IH post y_parts y_count y_place y_where y_given y_ty y_part y_kind y_end y_state y_with y_runKind y_runEnd y_runWith f) (hlf : gm_LF f) (hK : gy_K y_ty) {x1 C wc M : Nat} {D0 : gy_D} (hx1 : x1 / 8 < 5001) (hC : 2000004 ≤ C) (hwc : wc < 100) :
    ∀ (n j h g a : Nat) (s : gm_S) (out : gm_O) (D : gy_D), gm_call f n h g a s = some out → C + 1 ≤ M + 2 * gm_u s → wc + 1 ≤ gm_T s → gm_wlk s j (x1 / 8) = g / 8 → gm_CC s (x1 / 8) j → gy_H y_ty s D → gy_wt D = nI wc → gy_A wc D0 D → j + n < 1000000 →
    (j = 0 → gy_K0 post y_parts y_count y_place y_where y_given y_ty y_part y_kind y_end y_state y_with y_runKind y_runEnd y_runWith C wc D0 out) →
    (∀ M', C ≤ M' + 2 * gm_u out.2.2.2 → out.1 = 0 → ∀ D', gy_H y_ty out.2.2.2 D' → gy_wt D' = nI wc → gy_A wc D0 D' → gy_un (gy_R3 post M') y_parts y_count y_place y_where y_given y_ty y_part y_kind y_end y_state y_with y_runKind y_runEnd y_runWith (x1 / 8) 0 j out.2.1 D') →
    gy_KB post y_parts y_count y_place y_where y_given y_ty y_part y_kind y_end y_state y_with y_runKind y_runEnd y_runWith out →
    ∀ N, n < N → (match D with | (y_values, y_variables, y_waits, y_at, y_world, y_steps, y_blame, y_result, y_sort, y_one, y_two, y_from, y_to, y_label, y_held, y_around, y_waiting, y_operand, y_outer, y_kept) => wY_call_11 (gy_R2 post M) (nI x1) N (nI a) (nI (g / 8)) (nI j) y_parts y_count y_place y_where y_values y_variables y_waits y_at y_world y_steps y_blame y_result y_given y_ty y_part y_kind y_end y_state y_with y_runKind y_runEnd y_runWith y_sort y_one y_two y_from y_to y_label y_held y_around y_waiting y_operand y_outer y_kept) := by
  intro n
  induction n with
  | zero =>
    intro j h g a s out D H hM hT hw hCC hH hwt hA hj K0 KU KB N hN
    simp only [gm_call] at H
    obtain ⟨⟨r1, r2, r3, r4⟩, H⟩ := gm_tick_e H
    obtain ⟨⟨hv, hk⟩, H⟩ := gm_if_e H
    have hv' : g / 8 < gm_n s := hv
    have hk' : gm_ck (gm_h s (g / 8)) = 3 := hk
    have le1 := (hlf _ _ _ _ _ H)
    have goBody := fun D' C' wc' a1 a2 a3 a4 a5 a6 a7 a8 => hf h (gm_ca (gm_h s (g / 8)) + 1) (gm_m s) (gm_scope (gm_tk s) a (gm_cb (gm_h s (g / 8)))) out D' C' wc' H a1 a2 a3 a4 a5 a6 a7 a8 KB
    obtain ⟨y_values, y_variables, y_waits, y_at, y_world, y_steps, y_blame, y_result, y_sort, y_one, y_two, y_from, y_to, y_label, y_held, y_around, y_waiting, y_operand, y_outer, y_kept⟩ := D
    obtain ⟨N, rfl⟩ : ∃ k, N = k + 1 := ⟨N - 1, by omega⟩
    obtain ⟨⟨v0, v5, vc⟩, h1, h2, h3, h4, h5, h6, h7⟩ := hH
    have e1 : y_waits = nI wc := hwt
    subst e1 h1 h6
    have cv := vc _ hv'
    have c3 := cv.2.2.2.1 hk'
    have vin : vp_in (nI (g / 8)) 5000 := vp_in_nI (by omega) (by decide)
    have vinm : vp_in (nI (gm_m s - 1)) 100 := vp_in_nI (by omega) (by decide)
    have em : (nI (gm_m s - 1)).toNatClampNeg = gm_m s - 1 := nI_clamp (by omega)
    have em1 : nI (gm_m s - 1) + 1 = nI (gm_m s) := by rw [nI_1]; exact congrArg nI (by omega)
    have emw : nI (gm_m s) - 1 = nI (gm_m s - 1) := pk_sub (b := 1) h2
    have fin : ∀ (wt : Int32) (wa op ou ke : Nat → Int32), (gy_H y_ty (gm_scope (gm_tk s) a (gm_cb (gm_h s (g / 8)))) (y_values, nI (gm_m s), wt, nI (gm_ca (gm_h s (g / 8)) + 1), nI (gm_m s - 1), y_steps, 0, y_result, y_sort, y_one, y_two, y_from, y_to, y_label, upd y_held (gm_m s - 1) (nI a), upd y_around (gm_m s - 1) (nI (gm_cb (gm_h s (g / 8))) - 1), wa, op, ou, ke) → gy_lp post y_parts y_count y_place y_where y_given y_ty y_part y_kind y_end y_state y_with y_runKind y_runEnd y_runWith M 0 1 (y_values, nI (gm_m s), wt, nI (gm_ca (gm_h s (g / 8)) + 1), nI (gm_m s - 1), y_steps, 0, y_result, y_sort, y_one, y_two, y_from, y_to, y_label, upd y_held (gm_m s - 1) (nI a), upd y_around (gm_m s - 1) (nI (gm_cb (gm_h s (g / 8))) - 1), wa, op, ou, ke)) → wY_call_98 (gy_R2 post M) (nI a) (nI (g / 8)) y_parts y_count y_place y_where y_values (nI (gm_m s - 1)) wt y_at y_world y_steps 0 y_result y_given y_ty y_part y_kind y_end y_state y_with y_runKind y_runEnd y_runWith y_sort y_one y_two y_from y_to y_label y_held y_around wa op ou ke := by
      intro wt wa op ou ke hgo
      unfold wY_call_98
      rw [em, nI_clamp (show g / 8 < 2 ^ 31 by omega), c3.1, c3.2, em1]
      refine And.intro vinm (nm_e (And.intro vin (And.intro vinm (nm_e (nm_e (And.intro vin (nm_r (nI_1 _) ?_)))))))
      refine And.intro rfl (gy_R1_0 (D := (y_values, nI (gm_m s), wt, nI (gm_ca (gm_h s (g / 8)) + 1), nI (gm_m s - 1), y_steps, 0, y_result, y_sort, y_one, y_two, y_from, y_to, y_label, upd y_held (gm_m s - 1) (nI a), upd y_around (gm_m s - 1) (nI (gm_cb (gm_h s (g / 8))) - 1), wa, op, ou, ke)) rfl (hgo ?_))
      refine ⟨⟨v0, v5, vc⟩, ?_, ?_, ?_, h4, h5, rfl, ?_⟩
      · exact congrArg nI (show gm_m s = gm_m s + 1 - 1 by omega)
      · show 1 ≤ gm_m s + 1
        omega
      · show gm_m s + 1 ≤ 64
        have r3' : gm_m s < 64 := r3
        omega
      · intro w w0 w1
        have w1' : w < gm_m s + 1 := w1
        have eE : gm_e (gm_scope (gm_tk s) a (gm_cb (gm_h s (g / 8)))) w = if w = gm_m s then (a, gm_cb (gm_h s (g / 8))) else gm_e s w := rfl
        rw [eE]
        by_cases c : w = gm_m s
        · subst c
          rw [if_pos rfl, pk_us, pk_us]
          exact ⟨rfl, rfl⟩
        · rw [if_neg c, pk_un (by omega), pk_un (by omega)]
          exact h7 w w0 (by omega)
    show vp_in (nI (g / 8)) 5000 ∧ _
    rw [nI_clamp (show g / 8 < 2 ^ 31 by omega), cv.1, hk']
    have eu : gm_u (gm_scope (gm_tk s) a (gm_cb (gm_h s (g / 8)))) = gm_u s + 1 := rfl
    have eT : gm_T (gm_scope (gm_tk s) a (gm_cb (gm_h s (g / 8)))) = gm_T s := rfl
    refine And.intro vin (br_f (show ¬ nI 3 = 4 by decide) (pk_le j 0 (fun z => ?_) (fun z => ?_)))
    · have j0 : j = 0 := by omega
      refine fin _ _ _ _ _ (fun hD => ?_)
      refine goBody _ C wc hC (by omega) hD rfl (by omega) rfl emw.symm ?_ M (by omega)
      intro D' a1 a2 a3 a4 a5
      exact K0 j0 D' a1 a2 a3 (gy_A_trans hA a4 (Nat.le_refl _)) a5
    · rw [gy_div hx1]
      refine And.intro (by decide) (gy_later (by omega) (by decide) (by decide) ?_)
      refine fin _ _ _ _ _ (fun hD => ?_)
      refine goBody _ (C + 1) (wc + 1) (by omega) (by omega) hD rfl (by omega) rfl emw.symm ?_ M (by omega)
      intro D' a1 a2 a3 a4 a5
      have hfr : gy_fr D' wc = (-1, 0, nI (x1 / 8), nI j) := by
        rw [a4 wc (by omega)]
        show (upd y_waiting wc (-1) wc, upd y_operand wc 0 wc, upd y_outer wc (nI (x1 / 8)) wc, upd y_kept wc (nI j) wc) = _
        rw [pk_us, pk_us, pk_us, pk_us]
      refine gy_ret (C := C) (J := j) (le1.2.2.2 (show gm_u s + 1 ≤ 1000000 by omega)) hC a3 (by omega) hfr a5 ?_
      intro M' hM'
      refine KU M' hM' a1 (gy_setw D' (nI wc)) ?_ ?_ ?_
      · obtain ⟨y_values, y_variables, y_waits, y_at, y_world, y_steps, y_blame, y_result, y_sort, y_one, y_two, y_from, y_to, y_label, y_held, y_around, y_waiting, y_operand, y_outer, y_kept⟩ := D'
        exact a2
      · obtain ⟨y_values, y_variables, y_waits, y_at, y_world, y_steps, y_blame, y_result, y_sort, y_one, y_two, y_from, y_to, y_label, y_held, y_around, y_waiting, y_operand, y_outer, y_kept⟩ := D'
        rfl
      · intro q hq
        have q1 : gy_fr (gy_setw D' (nI wc)) q = gy_fr D' q := by
          obtain ⟨y_values, y_variables, y_waits, y_at, y_world, y_steps, y_blame, y_result, y_sort, y_one, y_two, y_from, y_to, y_label, y_held, y_around, y_waiting, y_operand, y_outer, y_kept⟩ := D'
          rfl
        rw [q1, a4 q (by omega), ← hA q hq]
        show (upd y_waiting wc (-1) q, upd y_operand wc 0 q, upd y_outer wc (nI (x1 / 8)) q, upd y_kept wc (nI j) q) = (y_waiting q, y_operand q, y_outer q, y_kept q)
        rw [pk_un (by omega), pk_un (by omega), pk_un (by omega), pk_un (by omega)]
  | succ n ih =>
    intro j h g a s out D H hM hT hw hCC hH hwt hA hj K0 KU KB N hN
    simp only [gm_call] at H
    obtain ⟨⟨r1, r2, r3, r4⟩, H⟩ := gm_tick_e H
    obtain ⟨⟨hv, hk⟩, H⟩ := gm_if_e H
    have hv' : g / 8 < gm_n s := hv
    have hk' : gm_ck (gm_h s (g / 8)) = 4 := hk
    obtain ⟨N, rfl⟩ : ∃ k, N = k + 1 := ⟨N - 1, by omega⟩
    have hCs : gm_CC s (x1 / 8) (j + 1) := gm_CC_s hCC (by rw [hw]; exact hv') (by rw [hw]; exact Or.inl hk')
    have hC1 : gm_CC (gm_tk s) (x1 / 8) (j + 1) := gm_CC_le (gm_le_tk s) hCs
    have wtk : ∀ i, i ≤ j + 1 → gm_wlk (gm_tk s) i (x1 / 8) = gm_wlk s i (x1 / 8) := fun i hi => gm_wlk_le (gm_le_tk s) _ i (fun x hx => (hCs x (by omega)).1)
    have hH0 := hH
    obtain ⟨y_values, y_variables, y_waits, y_at, y_world, y_steps, y_blame, y_result, y_sort, y_one, y_two, y_from, y_to, y_label, y_held, y_around, y_waiting, y_operand, y_outer, y_kept⟩ := D
    obtain ⟨⟨v0, v5, vc⟩, h1, h2, h3, h4, h5, h6, h7⟩ := hH
    have cv := vc _ hv'
    obtain ⟨q1, q2, q3, q4, q5, i0, j0, q6, q7, q8, q9, q10, q11, k, b, c, b', c', ef, et⟩ := cv.2.2.2.2.2 (Or.inl hk')
    have vin : vp_in (nI (g / 8)) 5000 := vp_in_nI (by omega) (by decide)
    show vp_in (nI (g / 8)) 5000 ∧ _
    rw [nI_clamp (show g / 8 < 2 ^ 31 by omega), cv.1, hk', q2, q6, q7, nI_1 j0, nI_1 i0, gm_lb_neg]
    have tf : gd_TY (.branch k b c) := ef ▸ q4
    have tt : gd_TY (.branch k b' c') := et ▸ q5
    have lf := gy_Sp_l (ef ▸ q8) (ef ▸ q10)
    have lt := gy_Sp_l (et ▸ q9) (et ▸ q11)
    refine And.intro vin (br_t rfl (And.intro vin (And.intro vin (And.intro vin ?_))))
    have efl : gd_lf (gm_cf (gm_h s (g / 8))) = b := by rw [ef]; rfl
    have etl : gd_lf (gm_ct (gm_h s (g / 8))) = b' := by rw [et]; rfl
    have castOut : ∀ o1 : gm_O, gm_cast (gm_tk s) a b' b (- gm_cp (gm_h s (g / 8))) = some o1 →
        (o1.1 = 0 → ∀ D', gy_H y_ty o1.2.2.2 D' → gy_Sm (y_values, y_variables, y_waits, y_at, y_world, y_steps, y_blame, y_result, y_sort, y_one, y_two, y_from, y_to, y_label, y_held, y_around, y_waiting, y_operand, y_outer, y_kept) D' → (match D' with | (y_values, y_variables, y_waits, y_at, y_world, y_steps, y_blame, y_result, y_sort, y_one, y_two, y_from, y_to, y_label, y_held, y_around, y_waiting, y_operand, y_outer, y_kept) => wY_call_11 (gy_R2 post M) (nI x1) N (nI o1.2.1) (nI (gm_ca (gm_h s (g / 8)) / 8)) (nI (j + 1)) y_parts y_count y_place y_where y_values y_variables y_waits y_at y_world y_steps y_blame y_result y_given y_ty y_part y_kind y_end y_state y_with y_runKind y_runEnd y_runWith y_sort y_one y_two y_from y_to y_label y_held y_around y_waiting y_operand y_outer y_kept) ∧ gm_ca (gm_h s (g / 8)) / 8 < 5001) →
        (o1.1 ≠ 0 → ∀ D', gy_E y_ty o1 D' → post 4 (gy_Y y_parts y_count y_place y_where y_given y_ty y_part y_kind y_end y_state y_with y_runKind y_runEnd y_runWith D')) → gm_ca (gm_h s (g / 8)) / 8 < 5001 ∨ o1.1 ≠ 0 → wpY_cast (fun r u => match u with | (y_parts, y_count, y_place, y_where, y_values, y_variables, y_waits, y_at, y_world, y_steps, y_blame, y_result, y_given, y_ty, y_part, y_kind, y_end, y_state, y_with, y_runKind, y_runEnd, y_runWith, y_sort, y_one, y_two, y_from, y_to, y_label, y_held, y_around, y_waiting, y_operand, y_outer, y_kept) => ((y_blame = 0 → (vp_in (nI (g / 8)) 5000 ∧ (¬ (8 : Int32) = 0 ∧ (∀ z : Int32, z = (y_one (g / 8)) / 8 → (∀ z' : Int32, z' = nI j + 1 → (wY_call_11 (gy_R2 post M) (nI x1) N r z z' y_parts y_count y_place y_where y_values y_variables y_waits y_at y_world y_steps y_blame y_result y_given y_ty y_part y_kind y_end y_state y_with y_runKind y_runEnd y_runWith y_sort y_one y_two y_from y_to y_label y_held y_around y_waiting y_operand y_outer y_kept)))))) ∧ (¬ y_blame = 0 → (gy_R2 post M 1 (y_parts, y_count, y_place, y_where, y_values, y_variables, y_waits, y_at, y_world, y_steps, y_blame, y_result, y_given, y_ty, y_part, y_kind, y_end, y_state, y_with, y_runKind, y_runEnd, y_runWith, y_sort, y_one, y_two, y_from, y_to, y_label, y_held, y_around, y_waiting, y_operand, y_outer, y_kept))))) (y_parts, y_count, y_place, y_where, y_values, y_variables, y_waits, y_at, y_world, y_steps, y_blame, y_result, y_given, y_ty, y_part, y_kind, y_end, y_state, y_with, y_runKind, y_runEnd, y_runWith, y_sort, y_one, y_two, y_from, y_to, y_label, y_held, y_around, y_waiting, y_operand, y_outer, y_kept) (nI a) (nI (j0 + 1)) (nI (i0 + 1)) (gm_lb (- gm_cp (gm_h s (g / 8)))) := by
      intro o1 e1 Kc Bc hca
      have same := gm_cast_same e1
      refine gy_cast (s := gm_tk s) e1 ⟨v0, v5, vc⟩ hK lt.1 lf.1 lt.2 lf.2 (gm_PB_neg q3) ?_ ?_
      · intro w s' vs so o1' o2 fr to lb eo hH'
        subst eo
        obtain ⟨m1, m2, m3, m4⟩ := same
        have hD' : gy_H y_ty s' (vs, y_variables, y_waits, y_at, y_world, y_steps, y_blame, y_result, so, o1', o2, fr, to, lb, y_held, y_around, y_waiting, y_operand, y_outer, y_kept) := by
          refine ⟨hH', ?_, ?_, ?_, ?_, ?_, h6, ?_⟩
          · rw [h1]
            exact congrArg (fun k => nI (k - 1)) m1.symm
          · show 1 ≤ gm_m s'
            rw [show gm_m s' = gm_m s from m1]; exact h2
          · show gm_m s' ≤ 64
            rw [show gm_m s' = gm_m s from m1]; exact h3
          · exact h4.trans (congrArg nI m3.symm)
          · show gm_T s' ≤ 40
            rw [show gm_T s' = gm_T s from m3]; exact h5
          · intro w' a1 b1
            show y_held (w' - 1) = nI (gm_e s' w').1 ∧ y_around (w' - 1) = nI (gm_e s' w').2 - 1
            rw [show gm_e s' = gm_e s from m2]
            exact h7 w' a1 (by rw [← show gm_m s' = gm_m s from m1]; exact b1)
        obtain ⟨k1, k2⟩ := Kc rfl _ hD' ⟨rfl, rfl, rfl, rfl, fun _ => rfl⟩
        have le2 := (gm_LE_cast e1).1
        have lt2 : g / 8 < gm_n s' := Nat.lt_of_lt_of_le hv le2.1
        have eh : gm_h s' (g / 8) = gm_h s (g / 8) := le2.2.1 _ hv
        have one' : o1' (g / 8) = nI (gm_ca (gm_h s (g / 8))) := by
          have := (hH'.2.2 _ lt2).2.2.2.2.2 (by rw [eh]; exact Or.inl hk')
          rw [eh] at this
          exact this.1
        refine br_t h6 (And.intro vin (And.intro (by decide) ?_))
        rw [one']
        exact nm_r (gy_div k2) (nm_r (nI_1 j) k1)
      · intro eo
        subst eo
        refine br_f (gm_lb_ne (gm_PB_neg q3)) (And.intro rfl ?_)
        exact gy_R1_B (D := (y_values, y_variables, y_waits, y_at, y_world, y_steps, gm_lb (- gm_cp (gm_h s (g / 8))), y_result, y_sort, y_one, y_two, y_from, y_to, y_label, y_held, y_around, y_waiting, y_operand, y_outer, y_kept)) (gm_lb_ne (gm_PB_neg q3)) (Bc (show (4 : Nat) ≠ 0 by decide) _ ⟨h4, fun _ => ⟨rfl, gm_PB_neg q3⟩, fun z => absurd (show (4 : Nat) = 5 from z) (by decide), ⟨v0, v5, vc⟩, h1, h2, h3, h4, h5, rfl, h7⟩)
    have H' : gm_bd (gm_cast (gm_tk s) a b' b (- gm_cp (gm_h s (g / 8)))) (fun a' s' =>
          gm_bd (gm_call f n (h + 1) (gm_ca (gm_h s (g / 8))) a' s') (fun u s'' =>
            gm_fc s'' (h + 1) u (gd_rt (gm_cf (gm_h s (g / 8)))) (gd_rt (gm_ct (gm_h s (g / 8)))) (gm_cp (gm_h s (g / 8))))) = some out := by
      rw [← efl, ← etl]
      exact H
    refine gm_bd_e H' ?_ ?_
    · intro a' p' s' e1 H1
      have same := gm_cast_same e1
      have le0 := gm_LE_cast e1
      have eu : gm_u s' = gm_u s + 1 := same.2.2.2
      have eT : gm_T s' = gm_T s := same.2.2.1
      have hC2 : gm_CC s' (x1 / 8) (j + 1) := gm_CC_le le0.1 hC1
      have hw2 : gm_wlk s' (j + 1) (x1 / 8) = gm_ca (gm_h s (g / 8)) / 8 := by rw [gm_wlk_le le0.1 _ (j + 1) (gm_CC_CH hC1), wtk (j + 1) (Nat.le_refl _), gm_wlk_s, hw]
      have hlt : gm_ca (gm_h s (g / 8)) / 8 < gm_n s' := by
        refine gm_bd_e H1 ?_ ?_
        · intro u p s1 e2 H2
          exact gm_call_lt e2
        · intro e2 nz
          exact gm_call_lt e2
      have hn5 : gm_n s' ≤ 5000 := by
        refine gm_bd_e H1 ?_ ?_
        · intro u p s1 e2 H2
          exact gm_call_n e2
        · intro e2 nz
          exact gm_call_n e2
      refine castOut (0, a', p', s') e1 ?_ (fun z => absurd rfl z) (Or.inl (by omega))
      intro _ D' hD' hS
      refine ⟨?_, by omega⟩
      have hwt' : gy_wt D' = nI wc := hS.1.trans hwt
      have hA' : gy_A wc D0 D' := gy_A_trans hA (fun q _ => hS.2.2.2.2 q) (Nat.le_refl _)
      refine gm_bd_e H1 ?_ ?_
      · intro u p s1 e2 H2
        have le2 := gm_LE_call hlf _ _ _ _ _ _ e2
        have le3 := gm_LE_fc H2
        refine ih (j + 1) (h + 1) (gm_ca (gm_h s (g / 8))) a' s' (0, u, p, s1) D' e2 (by omega) (by omega) hw2 hC2 hD' hwt' hA' (by omega) (fun z => by omega) ?_ (fun z => absurd rfl z) N (by omega)
        intro M' hM' _ D'' hD'' hwt'' hA''
        have eh : gm_h s1 (g / 8) = gm_h s (g / 8) := (le2.1.2.1 _ (Nat.lt_of_lt_of_le hv le0.1.1)).trans (le0.1.2.1 _ hv)
        have wj : gm_wlk s1 j (x1 / 8) = g / 8 := by
          rw [gm_wlk_le le2.1 _ j (fun x hx => (hC2 x (by omega)).1), gm_wlk_le le0.1 _ j (fun x hx => (hC1 x (by omega)).1), wtk j (by omega), hw]
        have hCC1 := gm_CC_le le2.1 hC2
        refine gy_un_step (s := s1) (h := h + 1) (c := g / 8) (out := out) (by rw [eh]; exact H2) wj (fun i hi => hCC1 i (by omega)) (by decide) (by omega) hK hD'' ?_ ?_
        · intro z D3 hD3 hS3
          have le3u := le3.2.2.1
          exact KU M' (by have : gm_u (0, u, p, s1).2.2.2 = gm_u s1 := rfl; omega) z D3 hD3 (hS3.1.trans hwt'') (gy_A_trans hA'' (fun q _ => hS3.2.2.2.2 q) (Nat.le_refl _))
        · intro z x D3 hE _
          have c4 : out.1 = 4 := by
            by_cases q : out.1 = 4
            · exact q
            · exact (gm_fc_code H2 z q).elim
          have b := hE.2.1 c4
          refine gy_R3_B (by rw [b.1]; exact gm_lb_ne b.2) ?_
          have := KB z (gy_setr D3 x) (by obtain ⟨y_values, y_variables, y_waits, y_at, y_world, y_steps, y_blame, y_result, y_sort, y_one, y_two, y_from, y_to, y_label, y_held, y_around, y_waiting, y_operand, y_outer, y_kept⟩ := D3; exact hE)
          rw [c4] at this
          exact this
      · intro e2 nz
        exact ih (j + 1) (h + 1) (gm_ca (gm_h s (g / 8))) a' s' out D' e2 (by omega) (by omega) hw2 hC2 hD' hwt' hA' (by omega) (fun z => by omega) (fun M' _ z => absurd z nz) KB N (by omega)
    · intro e1 nz
      have c4 : out.1 = 4 := by
        rcases gm_cast_code e1 with q | q
        · exact absurd q nz
        · exact q
      refine castOut out e1 (fun z => absurd z nz) ?_ (Or.inr nz)
      intro z D' hE
      have := KB z D' hE
      rw [c4] at this
      exact this
end
