/-! ===== 27: the reference's steps ===== -/
def gy_two (k : Nat) : Nat := if k = 4 ∨ 6 ≤ k ∧ k ≤ 8 then 1 else 0
def gy_G (post : Int32 → SY → Prop) (y_parts y_count y_place y_where y_given : Int32) (y_ty y_part y_kind y_end y_state y_with y_runKind y_runEnd y_runWith : Nat → Int32) (M i k v kd : Nat) (D : gy_D) : Prop := match D with | (y_values, y_variables, y_waits, y_at, y_world, y_steps, y_blame, y_result, y_sort, y_one, y_two, y_from, y_to, y_label, y_held, y_around, y_waiting, y_operand, y_outer, y_kept) => wY_goOn_121 (gy_R1 post M) (nI i) (nI k) (nI v) (nI kd) (nI (gy_two kd)) y_parts y_count y_place y_where y_values y_variables y_waits y_at y_world y_steps y_blame y_result y_given y_ty y_part y_kind y_end y_state y_with y_runKind y_runEnd y_runWith y_sort y_one y_two y_from y_to y_label y_held y_around y_waiting y_operand y_outer y_kept
/-- D' waits for operand k of i -/
def gy_W (ty : Nat → Int32) (P : gm_P) (s : gm_S) (D D' : gy_D) (wc i k w : Nat) (kept : Int32) : Prop :=
  gy_H ty s D' ∧ gy_A wc D D' ∧ gy_wt D' = nI (wc + 1) ∧ gy_fr D' wc = (nI i, nI k, nI w - 1, kept) ∧ gy_at D' = nI (gm_op P i k) ∧ gy_wd D' = nI w - 1
section
variable {y_parts y_count y_place y_where y_values y_variables y_waits y_at y_world y_steps y_blame y_result y_given : Int32} {y_ty y_part y_kind y_end y_state y_with y_runKind y_runEnd y_runWith y_sort y_one y_two y_from y_to y_label y_held y_around y_waiting y_operand y_outer y_kept : Nat → Int32}
variable {post : Int32 → SY → Prop}
theorem gy_goOn {P : gm_P} {s : gm_S} {D : gy_D} {h v i k wc C : Nat} {out : gm_O} (hP : gy_P P y_ty y_runKind y_runEnd y_runWith) (hi : i < gm_cn P) (h4 : 4 ≤ gm_kd P i) (hk : k < gs_ar (gm_kd P i)) (hk3 : k < 3) (hC : 2000004 ≤ C) (hu : gm_u s ≤ 1000000) (H : gm_fc s h v (gm_ty P (gm_op P i k)) (gm_tg P i k) (3 * i + k + 1) = some out) (hH : gy_H y_ty s D) (hwt : gy_wt D = nI (wc + 1)) (hw : wc < 299) (f0 : (gy_fr D wc).1 = nI i) (f1 : (gy_fr D wc).2.1 = nI k) (hrs : gy_rs D = nI v)
    (K : out.1 = 0 → ∀ M D', C ≤ M + 1 + 2 * gm_u s → gy_H y_ty out.2.2.2 D' → gy_wt D' = nI wc → (∀ j, gy_fr D' j = gy_fr D j) → gy_G post y_parts y_count y_place y_where y_given y_ty y_part y_kind y_end y_state y_with y_runKind y_runEnd y_runWith M i k out.2.1 (gm_kd P i) D') (KB : gy_KB post y_parts y_count y_place y_where y_given y_ty y_part y_kind y_end y_state y_with y_runKind y_runEnd y_runWith out) : gy_go post y_parts y_count y_place y_where y_given y_ty y_part y_kind y_end y_state y_with y_runKind y_runEnd y_runWith C 1 (gy_mo (wc + 1)) s D := by
  intro N hN
  obtain ⟨N, rfl⟩ : ∃ k, N = k + 1 := ⟨N - 1, by omega⟩
  have hP0 := hP
  obtain ⟨c36, hK, hP⟩ := hP
  obtain ⟨p1, p2, p3, p4, p5, p6, p7, p8, p9, p10, p11⟩ := hP i hi
  obtain ⟨y_values, y_variables, y_waits, y_at, y_world, y_steps, y_blame, y_result, y_sort, y_one, y_two, y_from, y_to, y_label, y_held, y_around, y_waiting, y_operand, y_outer, y_kept⟩ := D
  have e1 : y_waits = nI (wc + 1) := hwt
  have e2 : y_result = nI v := hrs
  subst e1 e2
  have g0 : y_waiting wc = nI i := f0
  have g1 : y_operand wc = nI k := f1
  have vin : vp_in (nI wc) 300 := vp_in_nI (by omega) (by decide)
  have em : gy_mo (wc + 1) = 1 := by unfold gy_mo; rw [if_neg (by omega)]
  rw [em]
  refine br_f (show ¬ (1 : Int32) = 0 by decide) (br_f (show ¬ (1 : Int32) = 0 by decide) (br_f (show ¬ (1 : Int32) = 0 by decide) (nm_r (nI_pred wc) ?_)))
  rw [nI_clamp (show wc < 2 ^ 31 by omega), g0, g1]
  refine And.intro vin (nm_e (br_t (nI_pos' (by omega)) (And.intro vin (nm_e ?_))))
  refine gy_fit (D := (y_values, y_variables, nI wc, y_at, y_world, y_steps, y_blame, nI v, y_sort, y_one, y_two, y_from, y_to, y_label, y_held, y_around, y_waiting, y_operand, y_outer, y_kept)) hP0 hi h4 hk hk3 H hH ?_ ?_
  · intro z D' hD' hS
    have g := K z N D' (by omega) hD' hS.1 (fun j => hS.2.2.2.2 j)
    have hb : gy_bl D' = 0 := by
      obtain ⟨y_values, y_variables, y_waits, y_at, y_world, y_steps, y_blame, y_result, y_sort, y_one, y_two, y_from, y_to, y_label, y_held, y_around, y_waiting, y_operand, y_outer, y_kept⟩ := D'
      exact hD'.2.2.2.2.2.2.1
    obtain ⟨y_values, y_variables, y_waits, y_at, y_world, y_steps, y_blame, y_result, y_sort, y_one, y_two, y_from, y_to, y_label, y_held, y_around, y_waiting, y_operand, y_outer, y_kept⟩ := D'
    refine br_t hb ?_
    rw [nI_clamp (show i < 2 ^ 31 by omega), p1]
    refine And.intro (vp_in_nI (by omega) (by decide)) (nm_e (pk_eq (gm_kd P i) 4 (fun c => ?_) (fun c4 => pk_lt (gm_kd P i) 6 (fun c => ?_) (fun c6 => pk_lt 8 (gm_kd P i) (fun c => ?_) (fun c8 => ?_)))))
    · have e : gy_two (gm_kd P i) = 1 := by unfold gy_two; rw [if_pos (Or.inl c)]
      simp only [gy_G, e] at g
      exact g
    · have e : gy_two (gm_kd P i) = 0 := by unfold gy_two; rw [if_neg (by omega)]
      simp only [gy_G, e] at g
      exact g
    · have e : gy_two (gm_kd P i) = 0 := by unfold gy_two; rw [if_neg (by omega)]
      simp only [gy_G, e] at g
      exact g
    · have e : gy_two (gm_kd P i) = 1 := by unfold gy_two; rw [if_pos (Or.inr ⟨c6, c8⟩)]
      simp only [gy_G, e] at g
      exact g
  · intro z x D' hE hS
    have c4 : out.1 = 4 := by
      by_cases q : out.1 = 4
      · exact q
      · exact (gm_fc_code H z q).elim
    have b := hE.2.1 c4
    have kb := KB z D' hE
    rw [c4] at kb
    have nb : ¬ gy_bl D' = 0 := by rw [b.1]; exact gm_lb_ne b.2
    have r := gy_R1_B (post := post) (M := N) (x := 1) nb kb
    obtain ⟨y_values, y_variables, y_waits, y_at, y_world, y_steps, y_blame, y_result, y_sort, y_one, y_two, y_from, y_to, y_label, y_held, y_around, y_waiting, y_operand, y_outer, y_kept⟩ := D'
    exact br_f nb r
theorem gy_fin {C wc M : Nat} {D0 D : gy_D} {out : gm_O} (K0 : gy_K0 post y_parts y_count y_place y_where y_given y_ty y_part y_kind y_end y_state y_with y_runKind y_runEnd y_runWith C wc D0 out) (z : out.1 = 0) (hH : gy_H y_ty out.2.2.2 D) (hwt : gy_wt D = nI wc) (hA : gy_A wc D0 D) (hM : C ≤ M + 2 * gm_u out.2.2.2) (hw : wc < 300) : gy_R3 post M (nI out.2.1) (gy_Y y_parts y_count y_place y_where y_given y_ty y_part y_kind y_end y_state y_with y_runKind y_runEnd y_runWith D) := by
  have hb : gy_bl D = 0 := by
    obtain ⟨y_values, y_variables, y_waits, y_at, y_world, y_steps, y_blame, y_result, y_sort, y_one, y_two, y_from, y_to, y_label, y_held, y_around, y_waiting, y_operand, y_outer, y_kept⟩ := D
    exact hH.2.2.2.2.2.2.1
  refine gy_R3_1 hw hb hwt (K0 (gy_setr D (nI out.2.1)) z ?_ ?_ ?_ ?_ M hM)
  · obtain ⟨y_values, y_variables, y_waits, y_at, y_world, y_steps, y_blame, y_result, y_sort, y_one, y_two, y_from, y_to, y_label, y_held, y_around, y_waiting, y_operand, y_outer, y_kept⟩ := D
    exact hH
  · obtain ⟨y_values, y_variables, y_waits, y_at, y_world, y_steps, y_blame, y_result, y_sort, y_one, y_two, y_from, y_to, y_label, y_held, y_around, y_waiting, y_operand, y_outer, y_kept⟩ := D
    exact hwt
  · intro j hj
    have := hA j hj
    obtain ⟨y_values, y_variables, y_waits, y_at, y_world, y_steps, y_blame, y_result, y_sort, y_one, y_two, y_from, y_to, y_label, y_held, y_around, y_waiting, y_operand, y_outer, y_kept⟩ := D
    exact this
  · obtain ⟨y_values, y_variables, y_waits, y_at, y_world, y_steps, y_blame, y_result, y_sort, y_one, y_two, y_from, y_to, y_label, y_held, y_around, y_waiting, y_operand, y_outer, y_kept⟩ := D
    rfl
theorem gy_finB {M : Nat} {D : gy_D} {x : Int32} {out : gm_O} (KB : gy_KB post y_parts y_count y_place y_where y_given y_ty y_part y_kind y_end y_state y_with y_runKind y_runEnd y_runWith out) (c4 : out.1 = 4) (hE : gy_E y_ty out D) : gy_R3 post M x (gy_Y y_parts y_count y_place y_where y_given y_ty y_part y_kind y_end y_state y_with y_runKind y_runEnd y_runWith D) := by
  have b := hE.2.1 c4
  refine gy_R3_B (by rw [b.1]; exact gm_lb_ne b.2) ?_
  have := KB (by rw [c4]; decide) (gy_setr D x) (by obtain ⟨y_values, y_variables, y_waits, y_at, y_world, y_steps, y_blame, y_result, y_sort, y_one, y_two, y_from, y_to, y_label, y_held, y_around, y_waiting, y_operand, y_outer, y_kept⟩ := D; exact hE)
  rw [c4] at this
  exact this
theorem gy_165 {P : gm_P} {s : gm_S} {D0 D : gy_D} {i k v w wc M : Nat} {hd : Int32} (hP : gy_P P y_ty y_runKind y_runEnd y_runWith) (hi : i < gm_cn P) (hk : k < gs_ar (gm_kd P i)) (hk3 : k < 3) (hw : wc < 299) (hH : gy_H y_ty s D) (hwt : gy_wt D = nI wc) (hfr : (gy_fr D wc).2.2.1 = nI w - 1) (hA : gy_A wc D0 D)
    (G : ∀ D', gy_W y_ty P s D0 D' wc i k w (nI v) → gy_lp post y_parts y_count y_place y_where y_given y_ty y_part y_kind y_end y_state y_with y_runKind y_runEnd y_runWith M 0 1 D') : (match D with | (y_values, y_variables, y_waits, y_at, y_world, y_steps, y_blame, y_result, y_sort, y_one, y_two, y_from, y_to, y_label, y_held, y_around, y_waiting, y_operand, y_outer, y_kept) => wY_goOn_165 (gy_R1 post M) (nI i) (nI v) (nI k) y_parts y_count y_place y_where y_values y_variables y_waits y_at y_world y_steps y_blame y_result y_given y_ty y_part y_kind y_end y_state y_with y_runKind y_runEnd y_runWith y_sort y_one y_two y_from y_to y_label y_held y_around y_waiting y_operand y_outer y_kept) := by
  have c36 : gm_cn P ≤ 36 := hP.1
  obtain ⟨y_values, y_variables, y_waits, y_at, y_world, y_steps, y_blame, y_result, y_sort, y_one, y_two, y_from, y_to, y_label, y_held, y_around, y_waiting, y_operand, y_outer, y_kept⟩ := D
  have e1 : y_waits = nI wc := hwt
  subst e1
  have g2 : y_outer wc = nI w - 1 := hfr
  have hb : y_blame = 0 := hH.2.2.2.2.2.2.1
  show vp_in (nI wc) 300 ∧ _
  rw [nI_clamp (show wc < 2 ^ 31 by omega), g2]
  refine And.intro (vp_in_nI (by omega) (by decide)) (nm_e (gy_later (by omega) (gy_nb i (by omega)) (gy_nb k (by omega)) (gy_piece hP hi hk hk3 ?_)))
  refine gy_R1_0 (D := (y_values, y_variables, nI (wc + 1), nI (gm_op P i k), nI w - 1, y_steps, y_blame, y_result, y_sort, y_one, y_two, y_from, y_to, y_label, y_held, y_around, upd y_waiting wc (nI i), upd y_operand wc (nI k), upd y_outer wc (nI w - 1), upd y_kept wc (nI v))) hb (G _ ⟨hH, ?_, rfl, ?_, rfl, rfl⟩)
  · intro q hq
    rw [← hA q hq]
    show (upd y_waiting wc (nI i) q, upd y_operand wc (nI k) q, upd y_outer wc (nI w - 1) q, upd y_kept wc (nI v) q) = (y_waiting q, y_operand q, y_outer q, y_kept q)
    rw [pk_un (by omega), pk_un (by omega), pk_un (by omega), pk_un (by omega)]
  · show (upd y_waiting wc (nI i) wc, upd y_operand wc (nI k) wc, upd y_outer wc (nI w - 1) wc, upd y_kept wc (nI v) wc) = _
    rw [pk_us, pk_us, pk_us, pk_us]
theorem gy_joined {R0 : Int32 → SY → Prop} {s : gm_S} {D : gy_D} {k v v' r : Nat} {t : Lean.RArray Nat} {out : gm_O} (hH : gy_H y_ty s D)
    (H : (if k = 6 then gm_num s v (fun x => gm_num s v' (fun y => gm_new s (1, x + y, 0, 0, .leaf 0, .leaf 0, 0, 0, 0, 0, 0) 0))
    else if k = 7 then gm_num s v (fun x => gm_num s v' (fun y => gm_new s (2, if x < y then 1 else 0, 0, 0, .leaf 1, .leaf 1, 0, 0, 0, 0, 0) 0))
    else if k = 8 then (if v / 8 < gm_n s ∧ v' / 8 < gm_n s then gm_new s (5, 0, v, v', t, t, 0, 0, 0, 0, r) 0 else none) else none) = some out)
    (K : out.1 = 0 → ∀ D', gy_H y_ty out.2.2.2 D' → gy_Sm D D' → R0 (nI out.2.1) (gy_Y y_parts y_count y_place y_where y_given y_ty y_part y_kind y_end y_state y_with y_runKind y_runEnd y_runWith D')) : wpY_joined R0 (gy_Y y_parts y_count y_place y_where y_given y_ty y_part y_kind y_end y_state y_with y_runKind y_runEnd y_runWith D) (nI k) (nI v) (nI v') := by
  obtain ⟨y_values, y_variables, y_waits, y_at, y_world, y_steps, y_blame, y_result, y_sort, y_one, y_two, y_from, y_to, y_label, y_held, y_around, y_waiting, y_operand, y_outer, y_kept⟩ := D
  obtain ⟨h0, h1, h2, h3, h4, h5, h6, h7⟩ := hH
  have hH1 := h0
  obtain ⟨rfl, v5, vc⟩ := h0
  have hvv : v / 8 < gm_n s ∧ v' / 8 < gm_n s := by
    by_cases k6 : k = 6
    · rw [if_pos k6] at H
      have a := gm_num_e H
      exact ⟨a.1.1, (gm_num_e a.2).1.1⟩
    rw [if_neg k6] at H
    by_cases k7 : k = 7
    · rw [if_pos k7] at H
      have a := gm_num_e H
      exact ⟨a.1.1, (gm_num_e a.2).1.1⟩
    rw [if_neg k7] at H
    exact (gm_if_e (gm_if_e H).2).1
  obtain ⟨hv, hv'⟩ := hvv
  have vin : vp_in (nI (v / 8)) 5000 := vp_in_nI (by omega) (by decide)
  have vin' : vp_in (nI (v' / 8)) 5000 := vp_in_nI (by omega) (by decide)
  have fin : ∀ (c : gm_Cell) (p0 : Nat) (p1 p2 : Int32), p0 < 128 → (∀ o3 o4 o5, gy_C y_ty c (nI p0) p1 p2 o3 o4 o5) → gm_new s c 0 = some out → wpY_make R0 (y_parts, y_count, y_place, y_where, nI (gm_n s), y_variables, y_waits, y_at, y_world, y_steps, y_blame, y_result, y_given, y_ty, y_part, y_kind, y_end, y_state, y_with, y_runKind, y_runEnd, y_runWith, y_sort, y_one, y_two, y_from, y_to, y_label, y_held, y_around, y_waiting, y_operand, y_outer, y_kept) (nI p0) p1 p2 := by
    intro c p0 p1 p2 hp hc hn
    obtain ⟨n5, e⟩ := gm_new_e hn
    subst e
    refine gy_make (by omega) hp ?_
    refine K rfl (nI (gm_n s + 1), y_variables, y_waits, y_at, y_world, y_steps, y_blame, y_result, upd y_sort (gm_n s) (nI p0), upd y_one (gm_n s) p1, upd y_two (gm_n s) p2, y_from, y_to, y_label, y_held, y_around, y_waiting, y_operand, y_outer, y_kept) ⟨gy_H0_push hH1 n5 (by rw [pk_us, pk_us, pk_us]; exact hc _ _ _) (fun j hj => by rw [pk_un hj, pk_un hj, pk_un hj]; exact ⟨rfl, rfl, rfl, rfl, rfl, rfl⟩), h1, h2, h3, h4, h5, h6, h7⟩ ⟨rfl, rfl, rfl, rfl, fun _ => rfl⟩
  have num : ∀ {u : Nat} {g : Int32 → Option gm_O}, gm_num s u g = some out → y_one (u / 8) = gm_ci (gm_h s (u / 8)) ∧ g (gm_ci (gm_h s (u / 8))) = some out := by
    intro u g hu
    obtain ⟨⟨a, b⟩, c⟩ := gm_num_e hu
    exact ⟨(vc _ a).2.2.1 b, c⟩
  have cn : ∀ (c : gm_Cell) (k : Nat) (o1 o2 o3 o4 o5 : Int32), gm_ck c = k → k < 3 → o1 = gm_ci c → gy_C y_ty c (nI k) o1 o2 o3 o4 o5 := by
    intro c k o1 o2 o3 o4 o5 hk k3 e
    unfold gy_C
    rw [hk]
    exact ⟨rfl, by omega, fun _ => e, fun z => by omega, fun z => by omega, fun z => by omega⟩
  show ¬ (8 : Int32) = 0 ∧ _
  rw [gy_div (show v / 8 < 5001 by omega), gy_div (show v' / 8 < 5001 by omega), nI_clamp (show v / 8 < 2 ^ 31 by omega), nI_clamp (show v' / 8 < 2 ^ 31 by omega)]
  refine And.intro (by decide) (And.intro vin ?_)
  by_cases k6 : k = 6
  · subst k6
    rw [if_pos rfl] at H
    obtain ⟨a2, H⟩ := num H
    obtain ⟨b2, H⟩ := num H
    rw [a2, b2]
    refine nm_e (And.intro (by decide) (And.intro vin' (nm_e (br_t rfl ?_))))
    exact fin _ 1 _ _ (by decide) (fun o3 o4 o5 => cn _ 1 _ _ _ _ _ rfl (by decide) rfl) H
  rw [if_neg k6] at H
  by_cases k7 : k = 7
  · subst k7
    rw [if_pos rfl] at H
    obtain ⟨a2, H⟩ := num H
    obtain ⟨b2, H⟩ := num H
    rw [a2, b2]
    refine nm_e (And.intro (by decide) (And.intro vin' (nm_e (br_f (show ¬ nI 7 = 6 by decide) (br_t rfl (br_c (fun z => ?_) (fun z => ?_)))))))
    · rw [if_neg (Int32.not_lt.mpr z)] at H
      exact fin _ 2 _ _ (by decide) (fun o3 o4 o5 => cn _ 2 _ _ _ _ _ rfl (by decide) rfl) H
    · rw [if_pos (Int32.not_le.mp z)] at H
      exact fin _ 2 _ _ (by decide) (fun o3 o4 o5 => cn _ 2 _ _ _ _ _ rfl (by decide) rfl) H
  rw [if_neg k7] at H
  obtain ⟨k8, H8⟩ := gm_if_e H
  obtain ⟨_, H9⟩ := gm_if_e H8
  subst k8
  refine nm_e (And.intro (by decide) (And.intro vin' (nm_e (br_f (show ¬ nI 8 = 6 by decide) (br_f (show ¬ nI 8 = 7 by decide) ?_)))))
  refine fin _ 5 _ _ (by decide) (fun o3 o4 o5 => ?_) H9
  exact ⟨rfl, show (5 : Nat) < 7 by decide, fun z => absurd (show (5 : Nat) < 3 from z) (by decide), fun z => absurd (show (5 : Nat) = 3 from z) (by decide), fun _ => ⟨rfl, rfl⟩, fun z => absurd (show (5 : Nat) = 4 ∨ (5 : Nat) = 6 from z) (by decide)⟩
end
