/-! ===== 26: what the reference does with an operand ===== -/
/-- the reference's copy of the program -/
def gy_P (P : gm_P) (ty runKind runEnd runWith : Nat → Int32) : Prop :=
  gm_cn P ≤ 36 ∧ gy_K ty ∧ ∀ i, i < gm_cn P → runKind i = nI (gm_kd P i) ∧ gm_kd P i < 12 ∧ runWith i = gm_vl P i ∧ gx_vn P i ∧ gd_TY (gm_ty P i) ∧ gd_Sp ty (gm_ty P i) (400 + 8 * i) ∧ gm_op P i 0 = i + 1 ∧
    (∀ k, k < gs_ar (gm_kd P i) → gm_op P i k < gm_cn P ∧ gd_TY (gm_tg P i k) ∧ gm_tg P i k = gs_tg (gm_kd P i) k (gm_ty P i) (gm_ty P (gm_op P i 0)) (gm_ty P (gm_op P i k))) ∧
    (∀ k, k + 1 < gs_ar (gm_kd P i) → runEnd (gm_op P i k) = nI (gm_op P i (k + 1))) ∧
    (gm_kd P i = 4 → gd_hd (gm_ty P (gm_op P i 0)) = 2 ∨ gd_hd (gm_ty P (gm_op P i 0)) = 3) ∧ (gm_kd P i = 5 → gm_ty P i = gm_ty P (gm_op P i 1))
theorem gy_RG8 {i : Nat} (hi : i < 36) {t : Lean.RArray Nat} (ht : gd_TY t) : gy_RG (400 + 8 * i) t := by
  have := ht.2
  unfold gy_RG
  omega
section
variable {y_parts y_count y_place y_where y_values y_variables y_waits y_at y_world y_steps y_blame y_result y_given : Int32} {y_ty y_part y_kind y_end y_state y_with y_runKind y_runEnd y_runWith y_sort y_one y_two y_from y_to y_label y_held y_around y_waiting y_operand y_outer y_kept : Nat → Int32}
variable {post : Int32 → SY → Prop}
theorem gy_piece_l {post : Int32 → Prop} {P : gm_P} {i K : Nat} (hP : gy_P P y_ty y_runKind y_runEnd y_runWith) (hi : i < gm_cn P) (hK : K < gs_ar (gm_kd P i)) (hK3 : K < 3) (H : post (nI (gm_op P i K))) : ∀ d k, k + d = K → wY_piece_7 post (nI K) y_parts y_count y_place y_where y_values y_variables y_waits y_at y_world y_steps y_blame y_result y_given y_ty y_part y_kind y_end y_state y_with y_runKind y_runEnd y_runWith y_sort y_one y_two y_from y_to y_label y_held y_around y_waiting y_operand y_outer y_kept (d + 1) (nI (gm_op P i k)) (nI k) := by
  obtain ⟨c36, hk, hP⟩ := hP
  obtain ⟨p1, p2, p3, p4, p5, p6, p7, p8, p9, p10, p11⟩ := hP i hi
  intro d
  induction d with
  | zero =>
    intro k e
    have e' : k = K := by omega
    subst e'
    exact br_t (Int32.le_refl _) H
  | succ d ih =>
    intro k e
    have o := (p8 k (by omega)).1
    refine br_f (nI_ge (by omega) (by omega)) ?_
    rw [nI_clamp (show gm_op P i k < 2 ^ 31 by omega), p9 k (by omega)]
    exact And.intro (vp_in_nI (by omega) (by decide)) (nm_e (nm_r (nI_1 k) (ih (k + 1) (by omega))))
theorem gy_piece {post : Int32 → Prop} {P : gm_P} {i k : Nat} (hP : gy_P P y_ty y_runKind y_runEnd y_runWith) (hi : i < gm_cn P) (hk : k < gs_ar (gm_kd P i)) (hk3 : k < 3) (H : post (nI (gm_op P i k))) : wpY_piece post (y_parts, y_count, y_place, y_where, y_values, y_variables, y_waits, y_at, y_world, y_steps, y_blame, y_result, y_given, y_ty, y_part, y_kind, y_end, y_state, y_with, y_runKind, y_runEnd, y_runWith, y_sort, y_one, y_two, y_from, y_to, y_label, y_held, y_around, y_waiting, y_operand, y_outer, y_kept) (nI i) (nI k) := by
  have main := gy_piece_l (y_parts := y_parts) (y_count := y_count) (y_place := y_place) (y_where := y_where) (y_values := y_values) (y_variables := y_variables) (y_waits := y_waits) (y_at := y_at) (y_world := y_world) (y_steps := y_steps) (y_blame := y_blame) (y_result := y_result) (y_given := y_given) (y_ty := y_ty) (y_part := y_part) (y_kind := y_kind) (y_end := y_end) (y_state := y_state) (y_with := y_with) (y_runKind := y_runKind) (y_runEnd := y_runEnd) (y_runWith := y_runWith) (y_sort := y_sort) (y_one := y_one) (y_two := y_two) (y_from := y_from) (y_to := y_to) (y_label := y_label) (y_held := y_held) (y_around := y_around) (y_waiting := y_waiting) (y_operand := y_operand) (y_outer := y_outer) (y_kept := y_kept) hP hi hk hk3 H k 0 (Nat.zero_add k)
  obtain ⟨c36, hK, hP⟩ := hP
  obtain ⟨p1, p2, p3, p4, p5, p6, p7, p8, p9, p10, p11⟩ := hP i hi
  refine nm_r (nI_1 i) (Exists.intro (k + 1) ?_)
  rw [p7] at main
  exact main
theorem gy_fit {R0 : Int32 → SY → Prop} {P : gm_P} {s : gm_S} {D : gy_D} {h v i k : Nat} {out : gm_O} (hP : gy_P P y_ty y_runKind y_runEnd y_runWith) (hi : i < gm_cn P) (h4 : 4 ≤ gm_kd P i) (hk : k < gs_ar (gm_kd P i)) (hk3 : k < 3) (H : gm_fc s h v (gm_ty P (gm_op P i k)) (gm_tg P i k) (3 * i + k + 1) = some out) (hH : gy_H y_ty s D)
    (K : out.1 = 0 → ∀ D', gy_H y_ty out.2.2.2 D' → gy_Sm D D' → R0 (nI out.2.1) (gy_Y y_parts y_count y_place y_where y_given y_ty y_part y_kind y_end y_state y_with y_runKind y_runEnd y_runWith D'))
    (B : out.1 ≠ 0 → ∀ x D', gy_E y_ty out D' → gy_Sm D D' → R0 x (gy_Y y_parts y_count y_place y_where y_given y_ty y_part y_kind y_end y_state y_with y_runKind y_runEnd y_runWith D')) : wpY_fitting R0 (gy_Y y_parts y_count y_place y_where y_given y_ty y_part y_kind y_end y_state y_with y_runKind y_runEnd y_runWith D) (nI i) (nI k) (nI v) := by
  have hP0 := hP
  obtain ⟨c36, hK, hP⟩ := hP
  obtain ⟨p1, p2, p3, p4, p5, p6, p7, p8, p9, p10, p11⟩ := hP i hi
  obtain ⟨o1, o2, o3⟩ := p8 k hk
  have qo := hP _ o1
  have z0 : 0 < gs_ar (gm_kd P i) := by omega
  obtain ⟨oo1, oo2, oo3⟩ := p8 0 z0
  have q0 := hP _ oo1
  have pb := gm_PB_op (show i < 36 by omega) hk3
  have lbl : gm_lb (3 * i + k + 1) = nI (3 * i + k + 1) := rfl
  have rgo : gy_RG (400 + 8 * gm_op P i k) (gm_ty P (gm_op P i k)) := gy_RG8 (by omega) qo.2.2.2.2.1
  have cast : ∀ j, gd_Sp y_ty (gm_tg P i k) j → gy_RG j (gm_tg P i k) → wpY_cast R0 (gy_Y y_parts y_count y_place y_where y_given y_ty y_part y_kind y_end y_state y_with y_runKind y_runEnd y_runWith D) (nI v) (nI (400 + 8 * gm_op P i k)) (nI j) (nI (3 * i + k + 1)) := by
    intro j sj rj
    rw [← lbl]
    exact gy_fcast H hK qo.2.2.2.2.1 o2 qo.2.2.2.2.2.1 sj rgo rj pb hH K B
  have keep : gm_tg P i k = gm_ty P (gm_op P i k) → R0 (nI v) (gy_Y y_parts y_count y_place y_where y_given y_ty y_part y_kind y_end y_state y_with y_runKind y_runEnd y_runWith D) := by
    intro e
    unfold gm_fc at H
    rw [if_pos (by rw [e])] at H
    injection H with H
    subst H
    exact K rfl D hH (gy_Sm_refl D)
  have e5 : (400 : Int32) + 8 * nI (gm_op P i k) = nI (400 + 8 * gm_op P i k) := by
    rw [show (8 : Int32) * nI (gm_op P i k) = nI (8 * gm_op P i k) from pk_mul 8 _]
    exact nI_add 400 _
  have e6 : (400 : Int32) + 8 * (nI i + 1) = nI (400 + 8 * (i + 1)) := by
    rw [nI_1, show (8 : Int32) * nI (i + 1) = nI (8 * (i + 1)) from pk_mul 8 _]
    exact nI_add 400 _
  have e7 : (3 : Int32) * nI i + nI k + 1 = nI (3 * i + k + 1) := by
    rw [show (3 : Int32) * nI i = nI (3 * i) from pk_mul 3 i, nI_add, nI_1]
  obtain ⟨y_values, y_variables, y_waits, y_at, y_world, y_steps, y_blame, y_result, y_sort, y_one, y_two, y_from, y_to, y_label, y_held, y_around, y_waiting, y_operand, y_outer, y_kept⟩ := D
  refine gy_piece hP0 hi hk hk3 (nm_r e5 (nm_r e6 (nm_r e7 ?_)))
  rw [nI_clamp (show i < 2 ^ 31 by omega), p1]
  refine And.intro (vp_in_nI (by omega) (by decide)) (nm_e (br_f (nI_nlt (b := 4) h4 (by omega)) (br_f (nI_nlt (a := 11) (b := gm_kd P i) (by omega) (by decide)) ?_)))
  have s0 : gd_Sp y_ty (gm_ty P (gm_op P i 0)) (400 + 8 * (i + 1)) := by
    have := q0.2.2.2.2.2.1
    rw [p7] at this ⊢
    exact this
  have t0 := q0.2.2.2.2.1
  have vf : vp_in (nI (400 + 8 * (i + 1))) 700 := vp_in_nI (by omega) (by decide)
  have h0 : y_ty (nI (400 + 8 * (i + 1))).toNatClampNeg = nI (gd_hd (gm_ty P (gm_op P i 0))) := by
    rw [nI_clamp (show 400 + 8 * (i + 1) < 2 ^ 31 by omega)]
    exact gd_sp_hd s0
  have lt0 := gd_hd_lt t0.1
  have f227 : gm_kd P i = 9 ∨ gm_kd P i = 10 → wY_fitting_227 R0 (nI v) (nI (400 + 8 * gm_op P i k)) (nI (400 + 8 * (i + 1))) (nI (3 * i + k + 1)) y_parts y_count y_place y_where y_values y_variables y_waits y_at y_world y_steps y_blame y_result y_given y_ty y_part y_kind y_end y_state y_with y_runKind y_runEnd y_runWith y_sort y_one y_two y_from y_to y_label y_held y_around y_waiting y_operand y_outer y_kept := by
    intro c
    have k0 : k = 0 := by
      have : gs_ar (gm_kd P i) = 1 := by rcases c with c | c <;> rw [c] <;> rfl
      omega
    subst k0
    rw [gs_tg9 c] at o3
    unfold wY_fitting_227
    rw [h0]
    refine And.intro vf (pk_eq (gd_hd (gm_ty P (gm_op P i 0))) 2 (fun z => ?_) (fun z => ?_))
    · rw [if_pos z] at o3
      exact cast 374 (by rw [o3]; exact gy_K_4 hK) (by rw [o3]; unfold gy_RG; decide)
    · rw [if_neg z] at o3
      exact keep o3
  refine pk_eq (gm_kd P i) 4 (fun c => ?_) (fun c4 => ?_)
  · have ar2 : gs_ar (gm_kd P i) = 2 := by rw [c]; rfl
    rw [h0]
    refine And.intro vf (pk_eq (gd_hd (gm_ty P (gm_op P i 0))) 2 (fun z => ?_) (fun z => ?_))
    · refine pk_eq k 0 (fun y => ?_) (fun y => ?_)
      · subst y
        rw [c, gs_tg40, if_pos z] at o3
        exact cast 371 (by rw [o3]; exact gy_K_3 hK) (by rw [o3]; unfold gy_RG; decide)
      · have y1 : k = 1 := by omega
        subst y1
        rw [c, gs_tg41, if_pos z] at o3
        exact cast 370 (by rw [o3]; exact gy_K_2 hK) (by rw [o3]; unfold gy_RG; decide)
    · refine pk_eq k 0 (fun y => ?_) (fun y => ?_)
      · subst y
        rw [c, gs_tg40, if_neg z] at o3
        exact keep o3
      · have y1 : k = 1 := by omega
        subst y1
        rw [c, gs_tg41, if_neg z] at o3
        have h3 : gd_hd (gm_ty P (gm_op P i 0)) = 3 := (p10 c).resolve_left z
        have eb := gs_hd3 t0.1 h3
        have sl := gy_Sp_l (eb ▸ s0) (eb ▸ (gy_RG8 (show i + 1 < 36 by have := q0; rw [p7] at oo1; omega) t0))
        rw [nI_1]
        exact cast (400 + 8 * (i + 1) + 1) (by rw [o3]; exact sl.1) (by rw [o3]; exact sl.2)
  refine pk_eq (gm_kd P i) 5 (fun c => ?_) (fun c5 => ?_)
  · have ar3 : gs_ar (gm_kd P i) = 3 := by rw [c]; rfl
    have ti := p11 c
    obtain ⟨oo11, oo12, oo13⟩ := p8 1 (by omega)
    refine gy_piece hP0 hi (k := 1) (by omega) (by decide) (pk_eq k 1 (fun y => ?_) (fun y => ?_))
    · subst y
      rw [c] at o3
      exact keep (o3.trans ti)
    · refine pk_eq k 0 (fun y0 => ?_) (fun y0 => ?_)
      · subst y0
        rw [c] at o3
        have o3' : gm_tg P i 0 = .leaf 1 := o3
        exact cast 369 (by rw [o3']; exact gy_K_1 hK) (by rw [o3']; unfold gy_RG; decide)
      · have y2 : k = 2 := by omega
        subst y2
        rw [c] at o3
        have o3' : gm_tg P i 2 = gm_ty P (gm_op P i 1) := o3.trans ti
        have q1 := hP _ oo11
        rw [show (8 : Int32) * nI (gm_op P i 1) = nI (8 * gm_op P i 1) from pk_mul 8 _, show (400 : Int32) + nI (8 * gm_op P i 1) = nI (400 + 8 * gm_op P i 1) from nI_add 400 _]
        exact cast (400 + 8 * gm_op P i 1) (by rw [o3']; exact q1.2.2.2.2.2.1) (by rw [o3']; exact gy_RG8 (by omega) q1.2.2.2.2.1)
  have c67 : gm_kd P i = 6 ∨ gm_kd P i = 7 → wY_fitting_194 R0 (nI v) (nI (400 + 8 * gm_op P i k)) (nI (3 * i + k + 1)) y_parts y_count y_place y_where y_values y_variables y_waits y_at y_world y_steps y_blame y_result y_given y_ty y_part y_kind y_end y_state y_with y_runKind y_runEnd y_runWith y_sort y_one y_two y_from y_to y_label y_held y_around y_waiting y_operand y_outer y_kept := by
    intro c
    have o3' : gm_tg P i k = .leaf 0 := by
      rcases c with c | c
      · rw [c] at o3; exact o3
      · rw [c] at o3; exact o3
    exact cast 368 (by rw [o3']; exact gy_K_0 hK) (by rw [o3']; unfold gy_RG; decide)
  refine pk_eq (gm_kd P i) 6 (fun c => c67 (Or.inl c)) (fun c6 => pk_eq (gm_kd P i) 7 (fun c => c67 (Or.inr c)) (fun c7 => pk_eq (gm_kd P i) 8 (fun c => ?_) (fun c8 => pk_eq (gm_kd P i) 9 (fun c => f227 (Or.inl c)) (fun c9 => pk_eq (gm_kd P i) 10 (fun c => f227 (Or.inr c)) (fun c10 => pk_eq (gm_kd P i) 11 (fun c => ?_) (fun c11 => by omega))))))
  · rw [c] at o3
    exact keep o3
  · rw [c] at o3
    rw [show (8 : Int32) * nI i = nI (8 * i) from pk_mul 8 _, show (400 : Int32) + nI (8 * i) = nI (400 + 8 * i) from nI_add 400 _]
    have o3' : gm_tg P i k = gm_ty P i := o3
    exact cast (400 + 8 * i) (by rw [o3']; exact p6) (by rw [o3']; exact gy_RG8 (by omega) p5)
end
