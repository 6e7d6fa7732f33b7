/-! ===== 35: the reference's check: ends, operands, variables ===== -/
/-- the reference's draft -/
def gy_DR (kd : Nat → Nat) (vl : Nat → Int32) (nm : Nat → Lean.RArray Nat) (cnt : Nat) (ty kind wit : Nat → Int32) : Prop :=
  cnt ≤ 36 ∧ (∀ n, gd_TY (nm n)) ∧ (∀ n, n < 10 → gd_Sp ty (nm n) (288 + 8 * n)) ∧ gy_K ty ∧ ∀ i, i < cnt → kind i = nI (kd i) ∧ kd i < 12 ∧ wit i = vl i ∧ gs_vr kd vl i
theorem gd_sp_b {r : Nat → Int32} : ∀ (t : Lean.RArray Nat) (i : Nat), gd_vt t → gd_Sp r t i → ∀ k, k < gd_sz t → vp_nar .byte (r (i + k)) = r (i + k) := by
  intro t
  induction t with
  | leaf n =>
    intro i hv hs k hk
    simp only [gd_vt] at hv
    simp only [gd_sz] at hk
    have e : k = 0 := by omega
    subst e
    rw [Nat.add_zero, show r i = nI n from hs]
    exact gd_nb n (by omega)
  | branch h l x ihl ihr =>
    intro i hv hs k hk
    simp only [gd_vt] at hv
    simp only [gd_sz] at hk
    have hh := gd_h8 hv.1
    by_cases h0 : k = 0
    · subst h0
      rw [Nat.add_zero, show r i = nI h from hs.1]
      exact gd_nb h (by omega)
    · by_cases h1 : k ≤ gd_sz l
      · have := ihl (i + 1) hv.2.1 hs.2.1 (k - 1) (by omega)
        rw [show i + 1 + (k - 1) = i + k by omega] at this
        exact this
      · have := ihr (i + 1 + gd_sz l) hv.2.2 hs.2.2 (k - 1 - gd_sz l) (by omega)
        rw [show i + 1 + gd_sz l + (k - 1 - gd_sz l) = i + k by omega] at this
        exact this
theorem gd_sp_same {r r' : Nat → Int32} {t : Lean.RArray Nat} {i : Nat} (h : gd_Sp r t i) (e : ∀ k, k < gd_sz t → r' (i + k) = r (i + k)) : gd_Sp r' t i := gd_sp_cp t i i h e
theorem gy_ops {post : Int32 → Prop} {k : Nat} (hk : k < 12) (P : post (nI (gs_ar k))) : wpY_operands post (nI k) := by
  rcases gs_k12 hk with c | c | c | c | c | c | c | c | c | c | c | c <;> subst c
  · exact br_f (by decide) P
  · exact br_f (by decide) P
  · exact br_f (by decide) P
  · exact br_t (by decide) (br_f (by decide) (br_f (by decide) (br_t (by decide) P)))
  · exact br_t (by decide) (br_f (by decide) (br_t rfl P))
  · exact br_t (by decide) (br_t rfl P)
  · exact br_t (by decide) (br_f (by decide) (br_f (by decide) (br_f (by decide) (br_f (by decide) P))))
  · exact br_t (by decide) (br_f (by decide) (br_f (by decide) (br_f (by decide) (br_f (by decide) P))))
  · exact br_t (by decide) (br_f (by decide) (br_f (by decide) (br_f (by decide) (br_f (by decide) P))))
  · exact br_t (by decide) (br_f (by decide) (br_f (by decide) (br_f (by decide) (br_t (by decide) P))))
  · exact br_t (by decide) (br_f (by decide) (br_f (by decide) (br_f (by decide) (br_t (by decide) P))))
  · exact br_t (by decide) (br_f (by decide) (br_f (by decide) (br_f (by decide) (br_t (by decide) P))))
section
variable {y_parts y_count y_place y_where y_values y_variables y_waits y_at y_world y_steps y_blame y_result y_given : Int32} {y_ty y_part y_kind y_end y_state y_with y_runKind y_runEnd y_runWith y_sort y_one y_two y_from y_to y_label y_held y_around y_waiting y_operand y_outer y_kept : Nat → Int32}
variable {kd : Nat → Nat} {vl : Nat → Int32} {nm : Nat → Lean.RArray Nat} {cnt : Nat}
theorem gy_cp {post : Int32 → SY → Prop} {t : Lean.RArray Nat} (ht : gd_TY t) {o a : Nat} (sp : gd_Sp y_ty t o) (ho : o + 7 ≤ 700) (ha : a + 7 ≤ 700) (hd : a + gd_sz t ≤ o)
    (P : ∀ r' : Nat → Int32, gd_Sp r' t a → (∀ q, (q < a ∨ a + gd_sz t ≤ q) → r' q = y_ty q) → post (nI (a + gd_sz t)) (y_parts, y_count, y_place, y_where, y_values, y_variables, y_waits, y_at, y_world, y_steps, y_blame, y_result, y_given, r', y_part, y_kind, y_end, y_state, y_with, y_runKind, y_runEnd, y_runWith, y_sort, y_one, y_two, y_from, y_to, y_label, y_held, y_around, y_waiting, y_operand, y_outer, y_kept)) : wpY_copy post (y_parts, y_count, y_place, y_where, y_values, y_variables, y_waits, y_at, y_world, y_steps, y_blame, y_result, y_given, y_ty, y_part, y_kind, y_end, y_state, y_with, y_runKind, y_runEnd, y_runWith, y_sort, y_one, y_two, y_from, y_to, y_label, y_held, y_around, y_waiting, y_operand, y_outer, y_kept) (nI o) (nI a) :=
  gy_copy ht sp ho ha (Or.inr hd) (gd_sp_b t o ht.1 sp) P
theorem gy_endOf_l {post : Int32 → Prop} {i : Nat} (W : gs_WF kd cnt) (c36 : cnt ≤ 36) (hk : y_kind i = nI (kd i)) (k12 : kd i < 12) (hi : i < cnt) (he : ∀ j, i < j → j < cnt → y_end j = nI (gs_en kd cnt j)) (P : post (nI (gs_en kd cnt i))) : ∀ d k, k + d = gs_ar (kd i) → wY_endOf_6 post (nI i) y_parts y_count y_place y_where y_values y_variables y_waits y_at y_world y_steps y_blame y_result y_given y_ty y_part y_kind y_end y_state y_with y_runKind y_runEnd y_runWith y_sort y_one y_two y_from y_to y_label y_held y_around y_waiting y_operand y_outer y_kept (d + 1) (nI (gs_op (gs_en kd cnt) i k)) (nI k) := by
  have a3 := gs_ar3 (kd i)
  intro d
  induction d with
  | zero =>
    intro k e
    have e' : k = gs_ar (kd i) := by omega
    show vp_in (nI i) 36 ∧ _
    rw [nI_clamp (show i < 2 ^ 31 by omega), hk]
    refine And.intro (vp_in_nI (by omega) (by decide)) (gy_ops k12 (br_t (nI_le (by omega) (by omega)) ?_))
    rw [e', gs_op_end W hi]
    exact P
  | succ d ih =>
    intro k e
    have ol := gs_op_lt W hi (show k < gs_ar (kd i) by omega)
    show vp_in (nI i) 36 ∧ _
    rw [nI_clamp (show i < 2 ^ 31 by omega), hk]
    refine And.intro (vp_in_nI (by omega) (by decide)) (gy_ops k12 (br_f (nI_ge (by omega) (by omega)) ?_))
    rw [nI_clamp (show gs_op (gs_en kd cnt) i k < 2 ^ 31 by omega), he _ ol.1 ol.2]
    exact And.intro (vp_in_nI (by omega) (by decide)) (nm_e (nm_r (nI_1 k) (ih (k + 1) (by omega))))
theorem gy_endOf {post : Int32 → Prop} {i : Nat} (W : gs_WF kd cnt) (c36 : cnt ≤ 36) (hk : y_kind i = nI (kd i)) (k12 : kd i < 12) (hi : i < cnt) (he : ∀ j, i < j → j < cnt → y_end j = nI (gs_en kd cnt j)) (P : post (nI (gs_en kd cnt i))) : wpY_endOf post (y_parts, y_count, y_place, y_where, y_values, y_variables, y_waits, y_at, y_world, y_steps, y_blame, y_result, y_given, y_ty, y_part, y_kind, y_end, y_state, y_with, y_runKind, y_runEnd, y_runWith, y_sort, y_one, y_two, y_from, y_to, y_label, y_held, y_around, y_waiting, y_operand, y_outer, y_kept) (nI i) :=
  nm_r (nI_1 i) (Exists.intro (gs_ar (kd i) + 1) (gy_endOf_l W c36 hk k12 hi he P (gs_ar (kd i)) 0 (Nat.zero_add _)))
theorem gy_opd_l {post : Int32 → Prop} {i K : Nat} (W : gs_WF kd cnt) (c36 : cnt ≤ 36) (hi : i < cnt) (hK : K < gs_ar (kd i)) (he : ∀ j, i < j → j < cnt → y_end j = nI (gs_en kd cnt j)) (P : post (nI (gs_op (gs_en kd cnt) i K))) : ∀ d k, k + d = K → wY_operand_7 post (nI K) y_parts y_count y_place y_where y_values y_variables y_waits y_at y_world y_steps y_blame y_result y_given y_ty y_part y_kind y_end y_state y_with y_runKind y_runEnd y_runWith y_sort y_one y_two y_from y_to y_label y_held y_around y_waiting y_operand y_outer y_kept (d + 1) (nI (gs_op (gs_en kd cnt) i k)) (nI k) := by
  have a3 := gs_ar3 (kd i)
  intro d
  induction d with
  | zero =>
    intro k e
    have e' : k = K := by omega
    subst e'
    exact br_t (Int32.le_refl _) P
  | succ d ih =>
    intro k e
    have ol := gs_op_lt W hi (show k < gs_ar (kd i) by omega)
    refine br_f (nI_ge (by omega) (by omega)) ?_
    rw [nI_clamp (show gs_op (gs_en kd cnt) i k < 2 ^ 31 by omega), he _ ol.1 ol.2]
    exact And.intro (vp_in_nI (by omega) (by decide)) (nm_e (nm_r (nI_1 k) (ih (k + 1) (by omega))))
theorem gy_opd {post : Int32 → Prop} {i K : Nat} (W : gs_WF kd cnt) (c36 : cnt ≤ 36) (hi : i < cnt) (hK : K < gs_ar (kd i)) (he : ∀ j, i < j → j < cnt → y_end j = nI (gs_en kd cnt j)) (P : post (nI (gs_op (gs_en kd cnt) i K))) : wpY_operand post (y_parts, y_count, y_place, y_where, y_values, y_variables, y_waits, y_at, y_world, y_steps, y_blame, y_result, y_given, y_ty, y_part, y_kind, y_end, y_state, y_with, y_runKind, y_runEnd, y_runWith, y_sort, y_one, y_two, y_from, y_to, y_label, y_held, y_around, y_waiting, y_operand, y_outer, y_kept) (nI i) (nI K) :=
  nm_r (nI_1 i) (Exists.intro (K + 1) (gy_opd_l W c36 hi hK he P K 0 (Nat.zero_add _)))
def gy_cd (c : Nat) : Int32 := if c = 4 then -1 else nI c
theorem gy_cd0 {c : Nat} (h : c < 5) : gy_cd c = 0 ↔ c = 0 := by
  unfold gy_cd
  by_cases e : c = 4
  · rw [if_pos e]
    exact ⟨fun z => absurd z (by decide), fun z => by omega⟩
  · rw [if_neg e]
    exact nI_eq (b := 0) (by omega) (by decide)
theorem gy_sound_l {post : Int32 → Prop} {i : Nat} (W : gs_WF kd cnt) (c36 : cnt ≤ 36) (hk : y_kind i = nI (kd i)) (k12 : kd i < 12) (hi : i < cnt) (he : ∀ j, i < j → j < cnt → y_end j = nI (gs_en kd cnt j)) (hs : ∀ j, i < j → j < cnt → y_state j = gy_cd (gs_R kd vl nm cnt j).1)
    (P : (∀ m, m < gs_ar (kd i) → (gs_R kd vl nm cnt (gs_op (gs_en kd cnt) i m)).1 = 0) → post 1) (Q : ¬ (∀ m, m < gs_ar (kd i) → (gs_R kd vl nm cnt (gs_op (gs_en kd cnt) i m)).1 = 0) → post 0) : ∀ d k, k + d = gs_ar (kd i) → (∀ m, m < k → (gs_R kd vl nm cnt (gs_op (gs_en kd cnt) i m)).1 = 0) → wY_sound_2 post (nI i) y_parts y_count y_place y_where y_values y_variables y_waits y_at y_world y_steps y_blame y_result y_given y_ty y_part y_kind y_end y_state y_with y_runKind y_runEnd y_runWith y_sort y_one y_two y_from y_to y_label y_held y_around y_waiting y_operand y_outer y_kept (d + 1) (nI k) := by
  have a3 := gs_ar3 (kd i)
  intro d
  induction d with
  | zero =>
    intro k e h
    have e' : k = gs_ar (kd i) := by omega
    subst e'
    show vp_in (nI i) 36 ∧ _
    rw [nI_clamp (show i < 2 ^ 31 by omega), hk]
    exact And.intro (vp_in_nI (by omega) (by decide)) (gy_ops k12 (br_t (Int32.le_refl _) (P h)))
  | succ d ih =>
    intro k e h
    have kk : k < gs_ar (kd i) := by omega
    have ol := gs_op_lt W hi kk
    show vp_in (nI i) 36 ∧ _
    rw [nI_clamp (show i < 2 ^ 31 by omega), hk]
    refine And.intro (vp_in_nI (by omega) (by decide)) (gy_ops k12 (br_f (nI_ge (by omega) (by omega)) (gy_opd W c36 hi kk he ?_)))
    rw [nI_clamp (show gs_op (gs_en kd cnt) i k < 2 ^ 31 by omega), hs _ ol.1 ol.2]
    have cl := gs_code_lt (vl := vl) (nm := nm) W ol.2
    refine And.intro (vp_in_nI (by omega) (by decide)) (br_c (fun z => ?_) (fun z => ?_))
    · have c0 := (gy_cd0 cl).mp z
      refine nm_r (nI_1 k) (ih (k + 1) (by omega) ?_)
      intro m hm
      by_cases c : m = k
      · subst c; exact c0
      · exact h m (by omega)
    · exact Q (fun all => z ((gy_cd0 cl).mpr (all k kk)))
theorem gy_sound {post : Int32 → Prop} {i : Nat} (W : gs_WF kd cnt) (c36 : cnt ≤ 36) (hk : y_kind i = nI (kd i)) (k12 : kd i < 12) (hi : i < cnt) (he : ∀ j, i < j → j < cnt → y_end j = nI (gs_en kd cnt j)) (hs : ∀ j, i < j → j < cnt → y_state j = gy_cd (gs_R kd vl nm cnt j).1)
    (P : (∀ m, m < gs_ar (kd i) → (gs_R kd vl nm cnt (gs_op (gs_en kd cnt) i m)).1 = 0) → post 1) (Q : ¬ (∀ m, m < gs_ar (kd i) → (gs_R kd vl nm cnt (gs_op (gs_en kd cnt) i m)).1 = 0) → post 0) : wpY_sound post (y_parts, y_count, y_place, y_where, y_values, y_variables, y_waits, y_at, y_world, y_steps, y_blame, y_result, y_given, y_ty, y_part, y_kind, y_end, y_state, y_with, y_runKind, y_runEnd, y_runWith, y_sort, y_one, y_two, y_from, y_to, y_label, y_held, y_around, y_waiting, y_operand, y_outer, y_kept) (nI i) :=
  Exists.intro (gs_ar (kd i) + 1) (gy_sound_l W c36 hk k12 hi he hs P Q (gs_ar (kd i)) 0 (Nat.zero_add _) (fun m hm => absurd hm (Nat.not_lt_zero _)))
theorem gy_eol_l {post : Int32 → Prop} {j : Nat} (W : gs_WF kd cnt) (c36 : cnt ≤ 36) (hk : ∀ i, i < cnt → y_kind i = nI (kd i) ∧ kd i < 12) (hj : j < cnt) (P : post (nI (gs_en kd cnt j))) : ∀ d k, k + d = gs_en kd cnt j → j < k → wY_endOfLam_6 post y_parts y_count y_place y_where y_values y_variables y_waits y_at y_world y_steps y_blame y_result y_given y_ty y_part y_kind y_end y_state y_with y_runKind y_runEnd y_runWith y_sort y_one y_two y_from y_to y_label y_held y_around y_waiting y_operand y_outer y_kept (d + 1) (nI (gs_D kd k + 1 - gs_D kd j)) (nI k) := by
  obtain ⟨e1, e2, e3, e4⟩ := gs_en_ok W hj
  intro d
  induction d with
  | zero =>
    intro k e hk'
    have e' : k = gs_en kd cnt j := by omega
    subst e'
    refine br_t ?_ P
    rw [show gs_D kd (gs_en kd cnt j) + 1 - gs_D kd j = 0 by omega, nI_0]
    exact Int32.le_refl 0
  | succ d ih =>
    intro k e hk'
    have kc : k < cnt := by omega
    have dk := e4 k (by omega) (by omega)
    have d0 := W.1 j hj
    have dl := gs_D_le kd k
    obtain ⟨k1, k2⟩ := hk k kc
    refine br_f (nI_nle (by omega) (by omega)) (nm_r (nI_1 k) ?_)
    rw [nI_clamp (show k < 2 ^ 31 by omega), k1]
    have es : gs_D kd k + 1 - gs_D kd j + gs_ar (kd k) - 1 = gs_D kd (k + 1) + 1 - gs_D kd j := by
      have : gs_D kd (k + 1) = gs_D kd k + gs_ar (kd k) - 1 := rfl
      omega
    refine And.intro (vp_in_nI (by omega) (by decide)) (gy_ops k2 (nm_r (gx_am (by omega)) ?_))
    rw [es]
    exact ih (k + 1) (by omega) (by omega)
theorem gy_endOfLam {post : Int32 → Prop} {j : Nat} (W : gs_WF kd cnt) (c36 : cnt ≤ 36) (hk : ∀ i, i < cnt → y_kind i = nI (kd i) ∧ kd i < 12) (hj : j < cnt) (h3 : kd j = 3) (P : post (nI (gs_en kd cnt j))) : wpY_endOfLam post (y_parts, y_count, y_place, y_where, y_values, y_variables, y_waits, y_at, y_world, y_steps, y_blame, y_result, y_given, y_ty, y_part, y_kind, y_end, y_state, y_with, y_runKind, y_runEnd, y_runWith, y_sort, y_one, y_two, y_from, y_to, y_label, y_held, y_around, y_waiting, y_operand, y_outer, y_kept) (nI j) := by
  have e1 := (gs_en_ok W hj).1
  have d0 := W.1 j hj
  have ed : gs_D kd (j + 1) + 1 - gs_D kd j = 1 := by
    have : gs_D kd (j + 1) = gs_D kd j + gs_ar (kd j) - 1 := rfl
    rw [h3] at this
    have a : gs_ar 3 = 1 := rfl
    omega
  have main := gy_eol_l (y_parts := y_parts) (y_count := y_count) (y_place := y_place) (y_where := y_where) (y_values := y_values) (y_variables := y_variables) (y_waits := y_waits) (y_at := y_at) (y_world := y_world) (y_steps := y_steps) (y_blame := y_blame) (y_result := y_result) (y_given := y_given) (y_ty := y_ty) (y_part := y_part) (y_kind := y_kind) (y_end := y_end) (y_state := y_state) (y_with := y_with) (y_runKind := y_runKind) (y_runEnd := y_runEnd) (y_runWith := y_runWith) (y_sort := y_sort) (y_one := y_one) (y_two := y_two) (y_from := y_from) (y_to := y_to) (y_label := y_label) (y_held := y_held) (y_around := y_around) (y_waiting := y_waiting) (y_operand := y_operand) (y_outer := y_outer) (y_kept := y_kept) W c36 hk hj P (gs_en kd cnt j - (j + 1)) (j + 1) (by omega) (by omega)
  rw [ed] at main
  exact nm_r (nI_1 j) (Exists.intro _ main)
theorem gy_la_l {post : Int32 → Prop} {i : Nat} (W : gs_WF kd cnt) (hd : gy_DR kd vl nm cnt y_ty y_kind y_with) (hi : i < cnt) : ∀ d, d ≤ i → ∀ b, b < 40 →
    (∀ n, (gs_col kd (fun j => (vl j).toNatClampNeg) (gs_en kd cnt) i d)[b]? = some n → n < 10 → post (nI n)) → ((gs_col kd (fun j => (vl j).toNatClampNeg) (gs_en kd cnt) i d)[b]? = none → post (-1)) → wY_lamAround_7 post (nI i) y_parts y_count y_place y_where y_values y_variables y_waits y_at y_world y_steps y_blame y_result y_given y_ty y_part y_kind y_end y_state y_with y_runKind y_runEnd y_runWith y_sort y_one y_two y_from y_to y_label y_held y_around y_waiting y_operand y_outer y_kept (d + 1) (nI b) (nI d - 1) := by
  obtain ⟨c36, hn, hnm, hK, hk⟩ := hd
  intro d
  induction d with
  | zero =>
    intro _ b _ A B
    exact br_t (show nI 0 - 1 < 0 by decide) (B (by simp [gs_col]))
  | succ d ih =>
    intro hd b hb A B
    have dc : d < cnt := by omega
    obtain ⟨k1, k2, k3, k4⟩ := hk d dc
    have en36 : gs_en kd cnt d ≤ 36 := Nat.le_trans (gs_en_ok W dc).2.1 c36
    rw [nI_pred d]
    refine br_f (nI_pos (by omega)) ?_
    rw [nI_clamp (show d < 2 ^ 31 by omega), k1]
    have vin : vp_in (nI d) 36 := vp_in_nI (by omega) (by decide)
    have skip : ¬ (kd d = 3 ∧ i < gs_en kd cnt d) → wY_lamAround_7 post (nI i) y_parts y_count y_place y_where y_values y_variables y_waits y_at y_world y_steps y_blame y_result y_given y_ty y_part y_kind y_end y_state y_with y_runKind y_runEnd y_runWith y_sort y_one y_two y_from y_to y_label y_held y_around y_waiting y_operand y_outer y_kept (d + 1) (nI b) (nI d - 1) := by
      intro nz
      simp only [gs_col] at A B
      rw [if_neg nz] at A B
      exact ih (by omega) b hb A B
    refine And.intro vin (pk_eq (kd d) 3 (fun c3 => gy_endOfLam W c36 (fun q hq => ⟨(hk q hq).1, (hk q hq).2.1⟩) dc c3 (pk_lt i (gs_en kd cnt d) (fun lt => ?_) (fun le => nm_r (gx_am1 d) (skip (by omega))))) (fun c3 => nm_r (gx_am1 d) (skip (by omega))))
    simp only [gs_col] at A B
    rw [if_pos ⟨c3, lt⟩] at A B
    obtain ⟨n, n10, en⟩ := k4 (Or.inr (Or.inl c3))
    have ecl : (vl d).toNatClampNeg = n := by rw [en]; exact nI_clamp (by omega)
    refine nm_e (pk_eq b 0 (fun z => ?_) (fun z => ?_))
    · rw [k3, en]
      subst z
      exact And.intro vin (A n (by simp only [List.getElem?_cons_zero]; rw [ecl]) n10)
    · obtain ⟨b', rfl⟩ : ∃ k, b = k + 1 := ⟨b - 1, by omega⟩
      simp only [List.getElem?_cons_succ] at A B
      rw [pk_m1 b']
      exact nm_r (gx_am1 d) (ih (by omega) b' (by omega) A B)
theorem gy_compound {post : Int32 → SY → Prop} {h a b t : Nat} {A B : Lean.RArray Nat} (hh : h = 3 ∨ h = 4) (tA : gd_TY A) (tB : gd_TY B) (sA : gd_Sp y_ty A a) (sB : gd_Sp y_ty B b) (ha : a + 7 ≤ 700) (hb : b + 7 ≤ 700) (la : t + 8 ≤ a) (lb : t + 8 ≤ b)
    (P : 1 + gd_sz A + gd_sz B ≤ 7 → ∀ r, gd_Sp r (.branch h A B) t → (∀ q, (q < t ∨ t + 8 ≤ q) → r q = y_ty q) → post 0 (y_parts, y_count, y_place, y_where, y_values, y_variables, y_waits, y_at, y_world, y_steps, y_blame, y_result, y_given, r, y_part, y_kind, y_end, y_state, y_with, y_runKind, y_runEnd, y_runWith, y_sort, y_one, y_two, y_from, y_to, y_label, y_held, y_around, y_waiting, y_operand, y_outer, y_kept)) (Q : ¬ 1 + gd_sz A + gd_sz B ≤ 7 → post 3 (y_parts, y_count, y_place, y_where, y_values, y_variables, y_waits, y_at, y_world, y_steps, y_blame, y_result, y_given, y_ty, y_part, y_kind, y_end, y_state, y_with, y_runKind, y_runEnd, y_runWith, y_sort, y_one, y_two, y_from, y_to, y_label, y_held, y_around, y_waiting, y_operand, y_outer, y_kept)) : wpY_compound post (y_parts, y_count, y_place, y_where, y_values, y_variables, y_waits, y_at, y_world, y_steps, y_blame, y_result, y_given, y_ty, y_part, y_kind, y_end, y_state, y_with, y_runKind, y_runEnd, y_runWith, y_sort, y_one, y_two, y_from, y_to, y_label, y_held, y_around, y_waiting, y_operand, y_outer, y_kept) (nI h) (nI a) (nI b) (nI t) := by
  have zA := tA.2
  have zB := tB.2
  have pA := gd_sz_pos A
  have pB := gd_sz_pos B
  have h8 := gd_h8 hh
  unfold wpY_compound
  refine gy_behind tA sA (by omega) ?_
  refine gy_behind tB sB (by omega) ?_
  have e1 : (1 : Int32) + nI (a + gd_sz A) - nI a + nI (b + gd_sz B) - nI b = nI (1 + gd_sz A + gd_sz B) := by
    rw [show (1 : Int32) + nI (a + gd_sz A) = nI (1 + (a + gd_sz A)) from nI_add 1 _, pk_sub (by omega), nI_add, pk_sub (by omega)]
    exact congrArg nI (by omega)
  refine nm_r e1 (pk_le (1 + gd_sz A + gd_sz B) 7 (fun z => ?_) (fun z => Q (by omega)))
  rw [nI_clamp (show t < 2 ^ 31 by omega), gy_nb h (by omega), nI_1]
  refine And.intro (vp_in_nI (by omega) (by decide)) (nm_e ?_)
  have sA1 : gd_Sp (upd y_ty t (nI h)) A a := gd_sp_same sA (fun k hk => pk_un (by omega))
  refine gy_cp (y_ty := upd y_ty t (nI h)) tA sA1 ha (by omega) (by omega) ?_
  intro r1 s1 o1
  have sB1 : gd_Sp r1 B b := gd_sp_same sB (fun k hk => by rw [o1 _ (by omega), pk_un (by omega)])
  refine gy_cp (y_ty := r1) tB sB1 hb (by omega) (by omega) ?_
  intro r2 s2 o2
  refine P z r2 ⟨?_, ?_, ?_⟩ ?_
  · rw [o2 t (by omega), o1 t (by omega)]
    exact pk_us
  · exact gd_sp_same s1 (fun k hk => o2 _ (by omega))
  · exact s2
  · intro q hq
    rw [o2 q (by omega), o1 q (by omega), pk_un (by omega)]
end
