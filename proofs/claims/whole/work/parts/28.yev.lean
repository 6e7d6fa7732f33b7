/-! ===== 28: the reference's run follows the evaluator ===== -/
section
variable {y_parts y_count y_place y_where y_values y_variables y_waits y_at y_world y_steps y_blame y_result y_given : Int32} {y_ty y_part y_kind y_end y_state y_with y_runKind y_runEnd y_runWith y_sort y_one y_two y_from y_to y_label y_held y_around y_waiting y_operand y_outer y_kept : Nat → Int32}
variable {post : Int32 → SY → Prop}
theorem gy_b0 {s : gm_S} {D : gy_D} {C : Nat} (hC : 2000004 ≤ C) (hu : gm_u s ≤ 1000000) (hT : gm_T s < 40) (hH : gy_H y_ty s D) (G : ∀ M, C ≤ M + 1 + 2 * gm_u s → wpY_begin (gy_R1 post M) (gy_Y y_parts y_count y_place y_where y_given y_ty y_part y_kind y_end y_state y_with y_runKind y_runEnd y_runWith D)) : gy_go post y_parts y_count y_place y_where y_given y_ty y_part y_kind y_end y_state y_with y_runKind y_runEnd y_runWith C 0 1 s D := by
  intro N hN
  obtain ⟨N, rfl⟩ : ∃ k, N = k + 1 := ⟨N - 1, by omega⟩
  have g := G N (by omega)
  obtain ⟨y_values, y_variables, y_waits, y_at, y_world, y_steps, y_blame, y_result, y_sort, y_one, y_two, y_from, y_to, y_label, y_held, y_around, y_waiting, y_operand, y_outer, y_kept⟩ := D
  obtain ⟨h0, h1, h2, h3, h4, h5, h6, h7⟩ := hH
  have nsteps : ¬ y_steps = 40 := by
    rw [h4]
    intro z
    have := (nI_eq (a := gm_T s) (b := 40) (by omega) (by decide)).mp z
    omega
  exact br_f (show ¬ (1 : Int32) = 0 by decide) (br_t rfl (br_f nsteps (br_t rfl g)))
theorem gy_bLong {s : gm_S} {D : gy_D} {C : Nat} (hC : 2000004 ≤ C) (hu : gm_u s ≤ 1000000) (hT : 40 ≤ gm_T s) (hH : gy_H y_ty s D) (KB : gy_KB post y_parts y_count y_place y_where y_given y_ty y_part y_kind y_end y_state y_with y_runKind y_runEnd y_runWith (5, 0, 0, gm_tk s)) : gy_go post y_parts y_count y_place y_where y_given y_ty y_part y_kind y_end y_state y_with y_runKind y_runEnd y_runWith C 0 1 s D := by
  intro N hN
  obtain ⟨N, rfl⟩ : ∃ k, N = k + 1 := ⟨N - 1, by omega⟩
  have kb := KB (show (5 : Nat) ≠ 0 by decide) D
  obtain ⟨y_values, y_variables, y_waits, y_at, y_world, y_steps, y_blame, y_result, y_sort, y_one, y_two, y_from, y_to, y_label, y_held, y_around, y_waiting, y_operand, y_outer, y_kept⟩ := D
  obtain ⟨h0, h1, h2, h3, h4, h5, h6, h7⟩ := hH
  have e40 : gm_T s = 40 := by omega
  have steps : y_steps = 40 := by rw [h4, e40]; rfl
  exact br_f (show ¬ (1 : Int32) = 0 by decide) (br_t rfl (br_t steps (kb ⟨h4, fun z => absurd (show (5 : Nat) = 4 from z) (by decide), fun _ => h6, h0, h1, h2, h3, h4, h5, rfl, h7⟩)))
theorem gy_bOp {P : gm_P} {s : gm_S} {D : gy_D} {i w wc M : Nat} (hP : gy_P P y_ty y_runKind y_runEnd y_runWith) (hi : i < gm_cn P) (h4 : 4 ≤ gm_kd P i) (hT : gm_T s < 40) (hw : wc < 299) (hH : gy_H y_ty s D) (hwt : gy_wt D = nI wc) (hat : gy_at D = nI i) (hwd : gy_wd D = nI w - 1) (G : ∀ D', gy_W y_ty P (gm_st s) D D' wc i 0 w 0 → gy_lp post y_parts y_count y_place y_where y_given y_ty y_part y_kind y_end y_state y_with y_runKind y_runEnd y_runWith M 0 1 D') : wpY_begin (gy_R1 post M) (gy_Y y_parts y_count y_place y_where y_given y_ty y_part y_kind y_end y_state y_with y_runKind y_runEnd y_runWith D) := by
  obtain ⟨c36, hK, hP⟩ := hP
  obtain ⟨p1, p2, p3, p4, p5, p6, p7, p8, p9, p10, p11⟩ := hP i hi
  obtain ⟨y_values, y_variables, y_waits, y_at, y_world, y_steps, y_blame, y_result, y_sort, y_one, y_two, y_from, y_to, y_label, y_held, y_around, y_waiting, y_operand, y_outer, y_kept⟩ := D
  have e1 : y_waits = nI wc := hwt
  have e2 : y_at = nI i := hat
  have e3 : y_world = nI w - 1 := hwd
  subst e1 e2 e3
  obtain ⟨h0, h1, h2, h3, h4', h5, h6, h7⟩ := hH
  subst h4'
  refine nm_r (nI_1 _) ?_
  rw [nI_clamp (show i < 2 ^ 31 by omega), p1]
  refine And.intro (vp_in_nI (by omega) (by decide)) (nm_e (br_f (nI_pos (by omega)) (br_t (nI_lt (a := 3) (by omega) (by omega)) (gy_later (by omega) (gy_nb i (by omega)) (by decide) (nm_r (nI_1 i) ?_)))))
  refine gy_R1_0 (D := (y_values, y_variables, nI (wc + 1), nI (i + 1), nI w - 1, nI (gm_T s + 1), y_blame, y_result, y_sort, y_one, y_two, y_from, y_to, y_label, y_held, y_around, upd y_waiting wc (nI i), upd y_operand wc 0, upd y_outer wc (nI w - 1), upd y_kept wc 0)) h6 (G _ ⟨⟨h0, h1, h2, h3, rfl, hT, h6, h7⟩, ?_, rfl, ?_, ?_, rfl⟩)
  · intro q hq
    show (upd y_waiting wc (nI i) q, upd y_operand wc 0 q, upd y_outer wc (nI w - 1) q, upd y_kept wc 0 q) = (y_waiting q, y_operand q, y_outer q, y_kept q)
    rw [pk_un (by omega), pk_un (by omega), pk_un (by omega), pk_un (by omega)]
  · show (upd y_waiting wc (nI i) wc, upd y_operand wc 0 wc, upd y_outer wc (nI w - 1) wc, upd y_kept wc 0 wc) = _
    rw [pk_us, pk_us, pk_us, pk_us]
    rfl
  · rw [p7]; rfl
theorem gy_var_l {i K v M : Nat} {s : gm_S} (hi : i < 36) (hwi : y_runWith i = nI K) (hK : K < 100) (h64 : gm_m s ≤ 64) (hsc : ∀ w, 0 < w → w < gm_m s → y_held (w - 1) = nI (gm_e s w).1 ∧ y_around (w - 1) = nI (gm_e s w).2 - 1) (P : gy_R3 post M (nI v) (y_parts, y_count, y_place, y_where, y_values, y_variables, y_waits, y_at, y_world, y_steps, y_blame, y_result, y_given, y_ty, y_part, y_kind, y_end, y_state, y_with, y_runKind, y_runEnd, y_runWith, y_sort, y_one, y_two, y_from, y_to, y_label, y_held, y_around, y_waiting, y_operand, y_outer, y_kept)) : ∀ k w j : Nat, j + k = K → gm_var s k w = some v → wY_begin_92 (gy_R1 post M) (nI i) y_parts y_count y_place y_where y_values y_variables y_waits y_at y_world y_steps y_blame y_result y_given y_ty y_part y_kind y_end y_state y_with y_runKind y_runEnd y_runWith y_sort y_one y_two y_from y_to y_label y_held y_around y_waiting y_operand y_outer y_kept (k + 1) (nI w - 1) (nI j) := by
  intro k
  induction k with
  | zero =>
    intro w j hj H
    simp only [gm_var] at H
    by_cases c : 0 < w ∧ w < gm_m s
    · rw [if_pos c] at H
      injection H with H
      have ew : nI w - 1 = nI (w - 1) := pk_sub (b := 1) c.1
      have sc := hsc w c.1 c.2
      show vp_in (nI i) 36 ∧ _
      rw [ew, nI_clamp (show i < 2 ^ 31 by omega), hwi, nI_clamp (show w - 1 < 2 ^ 31 by omega), sc.1, H]
      exact And.intro (vp_in_nI hi (by decide)) (br_t (nI_le (by omega) (by omega)) (And.intro (vp_in_nI (by omega) (by decide)) P))
    · rw [if_neg c] at H
      exact absurd H (by simp)
  | succ k ih =>
    intro w j hj H
    simp only [gm_var] at H
    by_cases c : 0 < w ∧ w < gm_m s
    · rw [if_pos c] at H
      have ew : nI w - 1 = nI (w - 1) := pk_sub (b := 1) c.1
      have sc := hsc w c.1 c.2
      show vp_in (nI i) 36 ∧ _
      rw [ew, nI_clamp (show i < 2 ^ 31 by omega), hwi, nI_clamp (show w - 1 < 2 ^ 31 by omega), sc.2]
      exact And.intro (vp_in_nI hi (by decide)) (br_f (nI_ge (by omega) (by omega)) (And.intro (vp_in_nI (by omega) (by decide)) (nm_e (nm_r (nI_1 j) (ih (gm_e s w).2 (j + 1) (by omega) H)))))
    · rw [if_neg c] at H
      exact absurd H (by simp)
theorem gy_bNew {P : gm_P} {s : gm_S} {D : gy_D} {i w M : Nat} {out : gm_O} {t : Lean.RArray Nat} (hP : gy_P P y_ty y_runKind y_runEnd y_runWith) (hi : i < gm_cn P) (hT : gm_T s < 40) (hH : gy_H y_ty s D) (hat : gy_at D = nI i) (hwd : gy_wd D = nI w - 1)
    (H : (if gm_kd P i = 0 then gm_new (gm_st s) (1, gm_vl P i, 0, 0, .leaf 0, .leaf 0, 0, 0, 0, 0, 0) 0
          else if gm_kd P i = 1 then gm_new (gm_st s) (2, gm_vl P i, 0, 0, .leaf 1, .leaf 1, 0, 0, 0, 0, 0) 0
          else if gm_kd P i = 2 then (match gm_var (gm_st s) (gm_vl P i).toNatClampNeg w with | none => none | some v => some (0, v, 0, gm_st s))
          else if gm_kd P i = 3 then gm_new (gm_st s) (3, 0, i, w, t, t, 0, 0, 0, 0, 0) 0 else none) = some out)
    (K : out.1 = 0 → ∀ D', gy_H y_ty out.2.2.2 D' → gy_wt D' = gy_wt D → (∀ j, gy_fr D' j = gy_fr D j) → gy_R3 post M (nI out.2.1) (gy_Y y_parts y_count y_place y_where y_given y_ty y_part y_kind y_end y_state y_with y_runKind y_runEnd y_runWith D')) : wpY_begin (gy_R1 post M) (gy_Y y_parts y_count y_place y_where y_given y_ty y_part y_kind y_end y_state y_with y_runKind y_runEnd y_runWith D) := by
  obtain ⟨c36, hK, hP⟩ := hP
  obtain ⟨p1, p2, p3, p4, p5, p6, p7, p8, p9, p10, p11⟩ := hP i hi
  obtain ⟨y_values, y_variables, y_waits, y_at, y_world, y_steps, y_blame, y_result, y_sort, y_one, y_two, y_from, y_to, y_label, y_held, y_around, y_waiting, y_operand, y_outer, y_kept⟩ := D
  have e2 : y_at = nI i := hat
  have e3 : y_world = nI w - 1 := hwd
  subst e2 e3
  obtain ⟨h0, h1, h2, h3, h4, h5, h6, h7⟩ := hH
  subst h4
  have hH1 : gy_H0 y_ty (gm_st s) y_values y_sort y_one y_two y_from y_to y_label := h0
  obtain ⟨hc, hn, vc⟩ := h0
  subst hc
  have vin : vp_in (nI i) 36 := vp_in_nI (by omega) (by decide)
  have cn : ∀ (c : gm_Cell) (k : Nat) (o1 o2 o3 o4 o5 : Int32), gm_ck c = k → k < 3 → o1 = gm_ci c → gy_C y_ty c (nI k) o1 o2 o3 o4 o5 := by
    intro c k o1 o2 o3 o4 o5 hk k3 e
    unfold gy_C
    rw [hk]
    exact ⟨rfl, by omega, fun _ => e, fun z => by omega, fun z => by omega, fun z => by omega⟩
  have fin : ∀ (c : gm_Cell) (p0 : Nat) (p1 p2 : Int32), p0 < 128 → (∀ o3 o4 o5, gy_C y_ty c (nI p0) p1 p2 o3 o4 o5) → gm_new (gm_st s) c 0 = some out → wpY_make (gy_R3 post M) (y_parts, y_count, y_place, y_where, nI (gm_n s), y_variables, y_waits, nI i, nI w - 1, nI (gm_T s + 1), y_blame, y_result, y_given, y_ty, y_part, y_kind, y_end, y_state, y_with, y_runKind, y_runEnd, y_runWith, y_sort, y_one, y_two, y_from, y_to, y_label, y_held, y_around, y_waiting, y_operand, y_outer, y_kept) (nI p0) p1 p2 := by
    intro c p0 p1 p2 hp hc hnew
    obtain ⟨n5, e⟩ := gm_new_e hnew
    subst e
    have n5' : gm_n s < 5000 := n5
    refine gy_make (by omega) hp ?_
    have hnew' : gy_H0 y_ty (gm_push (gm_st s) c) (nI (gm_n s + 1)) (upd y_sort (gm_n s) (nI p0)) (upd y_one (gm_n s) p1) (upd y_two (gm_n s) p2) y_from y_to y_label := by
      refine gy_H0_push hH1 n5 ?_ ?_
      · show gy_C y_ty c (upd y_sort (gm_n s) (nI p0) (gm_n s)) (upd y_one (gm_n s) p1 (gm_n s)) (upd y_two (gm_n s) p2 (gm_n s)) (y_from (gm_n s)) (y_to (gm_n s)) (y_label (gm_n s))
        rw [pk_us, pk_us, pk_us]
        exact hc _ _ _
      · intro j hj
        have hj' : j ≠ gm_n s := hj
        rw [pk_un hj', pk_un hj', pk_un hj']
        exact ⟨rfl, rfl, rfl, rfl, rfl, rfl⟩
    exact K rfl (nI (gm_n s + 1), y_variables, y_waits, nI i, nI w - 1, nI (gm_T s + 1), y_blame, y_result, upd y_sort (gm_n s) (nI p0), upd y_one (gm_n s) p1, upd y_two (gm_n s) p2, y_from, y_to, y_label, y_held, y_around, y_waiting, y_operand, y_outer, y_kept) ⟨hnew', h1, h2, h3, rfl, hT, h6, h7⟩ rfl (fun _ => rfl)
  refine nm_r (nI_1 _) ?_
  rw [nI_clamp (show i < 2 ^ 31 by omega), p1]
  by_cases k0 : gm_kd P i = 0
  · rw [if_pos k0] at H
    rw [k0]
    refine And.intro vin (nm_e (br_f (by decide) (br_f (by decide) (br_t rfl ?_))))
    unfold wY_begin_52
    rw [nI_clamp (show i < 2 ^ 31 by omega), p1, k0]
    refine And.intro vin (br_t rfl ?_)
    unfold wY_begin_67
    rw [nI_clamp (show i < 2 ^ 31 by omega), p3]
    exact And.intro vin (fin _ 1 _ _ (by decide) (fun o3 o4 o5 => cn _ 1 _ _ _ _ _ rfl (by decide) rfl) H)
  rw [if_neg k0] at H
  by_cases k1 : gm_kd P i = 1
  · rw [if_pos k1] at H
    rw [k1]
    refine And.intro vin (nm_e (br_f (by decide) (br_f (by decide) (br_f (by decide) (br_t rfl ?_)))))
    unfold wY_begin_52
    rw [nI_clamp (show i < 2 ^ 31 by omega), p1, k1]
    refine And.intro vin (br_f (by decide) ?_)
    unfold wY_begin_67
    rw [nI_clamp (show i < 2 ^ 31 by omega), p3]
    exact And.intro vin (fin _ 2 _ _ (by decide) (fun o3 o4 o5 => cn _ 2 _ _ _ _ _ rfl (by decide) rfl) H)
  rw [if_neg k1] at H
  by_cases k2 : gm_kd P i = 2
  · rw [if_pos k2] at H
    obtain ⟨n, n10, en⟩ := p4 k2
    rw [k2]
    refine And.intro vin (nm_e (br_f (by decide) (br_f (by decide) (br_f (by decide) (br_f (by decide) (br_t rfl ?_))))))
    rw [en, nI_clamp (by omega)] at H
    cases hv : gm_var (gm_st s) n w with
    | none => rw [hv] at H; exact absurd H (by simp)
    | some v =>
      rw [hv] at H
      injection H with H
      subst H
      refine Exists.intro (n + 1) (gy_var_l (s := gm_st s) (v := v) (by omega) (p3.trans en) (by omega) h3 h7 ?_ n w 0 (Nat.zero_add n) hv)
      exact K rfl (nI (gm_n s), y_variables, y_waits, nI i, nI w - 1, nI (gm_T s + 1), y_blame, y_result, y_sort, y_one, y_two, y_from, y_to, y_label, y_held, y_around, y_waiting, y_operand, y_outer, y_kept) ⟨hH1, h1, h2, h3, rfl, hT, h6, h7⟩ rfl (fun _ => rfl)
  rw [if_neg k2] at H
  obtain ⟨k3, H3⟩ := gm_if_e H
  rw [k3]
  refine And.intro vin (nm_e (br_f (by decide) (br_f (by decide) (br_f (by decide) (br_f (by decide) (br_f (by decide) (br_t rfl ?_)))))))
  refine fin _ 3 _ _ (by decide) (fun o3 o4 o5 => ?_) H3
  exact ⟨rfl, show (3 : Nat) < 7 by decide, fun z => absurd (show (3 : Nat) < 3 from z) (by decide), fun _ => ⟨rfl, rfl⟩, fun z => absurd (show (3 : Nat) = 5 from z) (by decide), fun z => absurd (show (3 : Nat) = 4 ∨ (3 : Nat) = 6 from z) (by decide)⟩
theorem gy_opr_sim {P : gm_P} {f : Nat → Nat → Nat → gm_S → Option gm_O} (hP : gy_P P y_ty y_runKind y_runEnd y_runWith) (hf : gy_IH post y_parts y_count y_place y_where y_given y_ty y_part y_kind y_end y_state y_with y_runKind y_runEnd y_runWith f) (hlf : gm_LF f) {h i k w wc C : Nat} {s : gm_S} {out : gm_O} {D0 D : gy_D} {kept : Int32} (H : gm_opr P f h i k w s = some out) (hi : i < gm_cn P) (h4 : 4 ≤ gm_kd P i) (hk : k < gs_ar (gm_kd P i)) (hk3 : k < 3) (hC : 2000004 ≤ C) (hu : gm_u s ≤ 1000000) (hwc : wc + 1 ≤ gm_T s) (hW : gy_W y_ty P s D0 D wc i k w kept)
    (K : ∀ s2, out.1 = 0 → out.2.2.2 = gm_tk s2 → gm_T s ≤ gm_T s2 → gm_u s2 < 1000000 → ∀ M D2, C + 1 ≤ M + 2 * gm_u (gm_tk s2) → gy_H y_ty s2 D2 → gy_wt D2 = nI wc → gy_fr D2 wc = (nI i, nI k, nI w - 1, kept) → gy_A wc D0 D2 → gy_G post y_parts y_count y_place y_where y_given y_ty y_part y_kind y_end y_state y_with y_runKind y_runEnd y_runWith M i k out.2.1 (gm_kd P i) D2)
    (KB : gy_KB post y_parts y_count y_place y_where y_given y_ty y_part y_kind y_end y_state y_with y_runKind y_runEnd y_runWith out) : gy_go post y_parts y_count y_place y_where y_given y_ty y_part y_kind y_end y_state y_with y_runKind y_runEnd y_runWith C 0 1 s D := by
  obtain ⟨w1, w2, w3, w4, w5, w6⟩ := hW
  have T40 : gm_T s ≤ 40 := by
    obtain ⟨y_values, y_variables, y_waits, y_at, y_world, y_steps, y_blame, y_result, y_sort, y_one, y_two, y_from, y_to, y_label, y_held, y_around, y_waiting, y_operand, y_outer, y_kept⟩ := D
    exact w1.2.2.2.2.2.1
  unfold gm_opr at H
  refine gm_bd_e H ?_ ?_
  · intro v p s1 e1 H1
    have le1 := hlf _ _ _ _ _ e1
    refine hf (h + 2) _ w s (0, v, p, s1) D C (wc + 1) e1 hC hu w1 w3 hwc w5 w6 ?_ (fun z => absurd rfl z)
    intro D1 _ b1 b2 b3 b4
    have frc : gy_fr D1 wc = gy_fr D wc := b3 wc (by omega)
    have hu1 : gm_u s1 ≤ 1000000 := le1.2.2.2 hu
    have A1 : gy_A wc D0 D1 := gy_A_trans w2 b3 (by omega)
    have f0 : (gy_fr D1 wc).1 = nI i := by rw [frc, w4]
    have f1 : (gy_fr D1 wc).2.1 = nI k := by rw [frc, w4]
    refine gm_bd_e H1 ?_ ?_
    · intro v' p' s2 e2 H2
      obtain ⟨⟨r1, r2, r3, r4⟩, H2⟩ := gm_tick_e H2
      injection H2 with H2
      have le2 := gm_LE_fc e2
      refine gy_goOn (out := (0, v', p', s2)) hP hi h4 hk hk3 hC hu1 e2 b1 b2 (by omega) f0 f1 b4 ?_ (fun z => absurd rfl z)
      intro _ M D' hM hD' hwt' hfr'
      have eu : gm_u (gm_tk s2) = gm_u s2 + 1 := rfl
      have hM' : C ≤ M + 1 + 2 * gm_u s1 := hM
      have l2 : gm_u s1 ≤ gm_u s2 := le2.2.2.1
      have l1 : gm_T s ≤ gm_T s1 := le1.2.1
      have l3 : gm_T s1 ≤ gm_T s2 := le2.2.1
      have := K s2 (by rw [← H2]) (by rw [← H2]) (by omega) r1 M D' (by omega) hD' hwt' (by rw [hfr' wc, frc, w4]) (fun q hq => (hfr' q).trans (A1 q hq))
      rw [← H2] at this
      exact this
    · intro e2 nz
      exact gy_goOn hP hi h4 hk hk3 hC hu1 e2 b1 b2 (by omega) f0 f1 b4 (fun z => absurd z nz) KB
  · intro e1 nz
    exact hf (h + 2) _ w s out D C (wc + 1) e1 hC hu w1 w3 hwc w5 w6 (fun _ z => absurd z nz) KB
end
