/-! ===== 24: the parts of a pair, and what follows a step of the loop ===== -/
theorem gm_take_lt {side n h v : Nat} {s : gm_S} {out : gm_O} (H : gm_take side n h v s = some out) : v / 8 < gm_n s := by
  cases n with
  | zero =>
    simp only [gm_take] at H
    exact (gm_if_e (gm_tick_e H).2).1.1
  | succ n =>
    simp only [gm_take] at H
    exact (gm_if_e (gm_tick_e H).2).1.1
theorem gm_take_u {side : Nat} : ∀ (n h v : Nat) (s : gm_S) (out : gm_O), gm_take side n h v s = some out → gm_u s + n < 1000000 := by
  intro n
  induction n with
  | zero =>
    intro h v s out H
    simp only [gm_take] at H
    exact (gm_tick_e H).1.1
  | succ n ih =>
    intro h v s out H
    simp only [gm_take] at H
    obtain ⟨_, H⟩ := gm_if_e (gm_tick_e H).2
    have e : gm_u (gm_tk s) = gm_u s + 1 := rfl
    refine gm_bd_e H ?_ ?_
    · intro u p s1 e1 _
      have := ih _ _ _ _ e1
      omega
    · intro e1 _
      have := ih _ _ _ _ e1
      omega
theorem gm_call_lt {f : Nat → Nat → Nat → gm_S → Option gm_O} {n h g a : Nat} {s : gm_S} {out : gm_O} (H : gm_call f n h g a s = some out) : g / 8 < gm_n s := by
  cases n with
  | zero =>
    simp only [gm_call] at H
    exact (gm_if_e (gm_tick_e H).2).1.1
  | succ n =>
    simp only [gm_call] at H
    exact (gm_if_e (gm_tick_e H).2).1.1
theorem gm_call_n {f : Nat → Nat → Nat → gm_S → Option gm_O} {n h g a : Nat} {s : gm_S} {out : gm_O} (H : gm_call f n h g a s = some out) : gm_n s ≤ 5000 := by
  cases n with
  | zero =>
    simp only [gm_call] at H
    exact (gm_tick_e H).1.2.1
  | succ n =>
    simp only [gm_call] at H
    exact (gm_tick_e H).1.2.1
/-- the first j cells of the chain are casts -/
def gm_CC (s : gm_S) (c j : Nat) : Prop := ∀ i, i < j → gm_wlk s i c < gm_n s ∧ (gm_ck (gm_h s (gm_wlk s i c)) = 4 ∨ gm_ck (gm_h s (gm_wlk s i c)) = 6)
theorem gm_CC_CH {s : gm_S} {c j : Nat} (h : gm_CC s c j) : gm_CH s c j := fun i hi => (h i hi).1
theorem gm_CC_le {s s' : gm_S} (h : gm_le s s') {c j : Nat} (H : gm_CC s c j) : gm_CC s' c j := by
  intro i hi
  have a := H i hi
  rw [gm_wlk_le h c i (fun x hx => (H x (by omega)).1), h.2.1 _ a.1]
  exact ⟨Nat.lt_of_lt_of_le a.1 h.1, a.2⟩
theorem gm_CC_s {s : gm_S} {c j : Nat} (H : gm_CC s c j) (h : gm_wlk s j c < gm_n s) (k : gm_ck (gm_h s (gm_wlk s j c)) = 4 ∨ gm_ck (gm_h s (gm_wlk s j c)) = 6) : gm_CC s c (j + 1) := by
  intro i hi
  by_cases e : i = j
  · rw [e]; exact ⟨h, k⟩
  · exact H i (by omega)
def gy_R1 (post : Int32 → SY → Prop) (M : Nat) : Int32 → SY → Prop := fun r u => match u with | (y_parts, y_count, y_place, y_where, y_values, y_variables, y_waits, y_at, y_world, y_steps, y_blame, y_result, y_given, y_ty, y_part, y_kind, y_end, y_state, y_with, y_runKind, y_runEnd, y_runWith, y_sort, y_one, y_two, y_from, y_to, y_label, y_held, y_around, y_waiting, y_operand, y_outer, y_kept) => wY_run_180 post (wY_run_146 post M) r y_parts y_count y_place y_where y_values y_variables y_waits y_at y_world y_steps y_blame y_result y_given y_ty y_part y_kind y_end y_state y_with y_runKind y_runEnd y_runWith y_sort y_one y_two y_from y_to y_label y_held y_around y_waiting y_operand y_outer y_kept
def gy_R2 (post : Int32 → SY → Prop) (M : Nat) : Int32 → SY → Prop := fun r u => narrow .boolean (.int r) = .int r ∧ gy_R1 post M r u
def gy_R3 (post : Int32 → SY → Prop) (M : Nat) : Int32 → SY → Prop := fun r u => wpY_give (gy_R2 post M) u r
def gy_setr (D : gy_D) (x : Int32) : gy_D := match D with | (y_values, y_variables, y_waits, y_at, y_world, y_steps, y_blame, y_result, y_sort, y_one, y_two, y_from, y_to, y_label, y_held, y_around, y_waiting, y_operand, y_outer, y_kept) => (y_values, y_variables, y_waits, y_at, y_world, y_steps, y_blame, x, y_sort, y_one, y_two, y_from, y_to, y_label, y_held, y_around, y_waiting, y_operand, y_outer, y_kept)
section
variable {y_parts y_count y_place y_where y_values y_variables y_waits y_at y_world y_steps y_blame y_result y_given : Int32} {y_ty y_part y_kind y_end y_state y_with y_runKind y_runEnd y_runWith y_sort y_one y_two y_from y_to y_label y_held y_around y_waiting y_operand y_outer y_kept : Nat → Int32}
variable {post : Int32 → SY → Prop}
theorem gy_R1_0 {M : Nat} {D : gy_D} (hb : gy_bl D = 0) (h : gy_lp post y_parts y_count y_place y_where y_given y_ty y_part y_kind y_end y_state y_with y_runKind y_runEnd y_runWith M 0 1 D) : gy_R1 post M 0 (gy_Y y_parts y_count y_place y_where y_given y_ty y_part y_kind y_end y_state y_with y_runKind y_runEnd y_runWith D) := by
  obtain ⟨y_values, y_variables, y_waits, y_at, y_world, y_steps, y_blame, y_result, y_sort, y_one, y_two, y_from, y_to, y_label, y_held, y_around, y_waiting, y_operand, y_outer, y_kept⟩ := D
  exact br_t hb (br_t rfl h)
theorem gy_R1_1 {M wc : Nat} {D : gy_D} (hw : wc < 300) (hb : gy_bl D = 0) (hwt : gy_wt D = nI wc) (h : gy_lp post y_parts y_count y_place y_where y_given y_ty y_part y_kind y_end y_state y_with y_runKind y_runEnd y_runWith M 1 (gy_mo wc) D) : gy_R1 post M 1 (gy_Y y_parts y_count y_place y_where y_given y_ty y_part y_kind y_end y_state y_with y_runKind y_runEnd y_runWith D) := by
  obtain ⟨y_values, y_variables, y_waits, y_at, y_world, y_steps, y_blame, y_result, y_sort, y_one, y_two, y_from, y_to, y_label, y_held, y_around, y_waiting, y_operand, y_outer, y_kept⟩ := D
  have e : y_waits = nI wc := hwt
  subst e
  refine br_t hb (br_f (show ¬ (1 : Int32) = 0 by decide) ?_)
  unfold gy_mo at h
  refine pk_le wc 0 (fun z => ?_) (fun z => ?_)
  · rw [if_pos (by omega)] at h; exact h
  · rw [if_neg (by omega)] at h; exact h
theorem gy_R1_B {M : Nat} {x : Int32} {D : gy_D} (hb : ¬ gy_bl D = 0) (h : post 4 (gy_Y y_parts y_count y_place y_where y_given y_ty y_part y_kind y_end y_state y_with y_runKind y_runEnd y_runWith D)) : gy_R1 post M x (gy_Y y_parts y_count y_place y_where y_given y_ty y_part y_kind y_end y_state y_with y_runKind y_runEnd y_runWith D) := by
  obtain ⟨y_values, y_variables, y_waits, y_at, y_world, y_steps, y_blame, y_result, y_sort, y_one, y_two, y_from, y_to, y_label, y_held, y_around, y_waiting, y_operand, y_outer, y_kept⟩ := D
  exact br_f hb h
theorem gy_R3_1 {M wc : Nat} {v : Nat} {D : gy_D} (hw : wc < 300) (hb : gy_bl D = 0) (hwt : gy_wt D = nI wc) (h : gy_lp post y_parts y_count y_place y_where y_given y_ty y_part y_kind y_end y_state y_with y_runKind y_runEnd y_runWith M 1 (gy_mo wc) (gy_setr D (nI v))) : gy_R3 post M (nI v) (gy_Y y_parts y_count y_place y_where y_given y_ty y_part y_kind y_end y_state y_with y_runKind y_runEnd y_runWith D) := by
  have := gy_R1_1 (post := post) (D := gy_setr D (nI v)) (M := M) hw (by obtain ⟨y_values, y_variables, y_waits, y_at, y_world, y_steps, y_blame, y_result, y_sort, y_one, y_two, y_from, y_to, y_label, y_held, y_around, y_waiting, y_operand, y_outer, y_kept⟩ := D; exact hb) (by obtain ⟨y_values, y_variables, y_waits, y_at, y_world, y_steps, y_blame, y_result, y_sort, y_one, y_two, y_from, y_to, y_label, y_held, y_around, y_waiting, y_operand, y_outer, y_kept⟩ := D; exact hwt) h
  obtain ⟨y_values, y_variables, y_waits, y_at, y_world, y_steps, y_blame, y_result, y_sort, y_one, y_two, y_from, y_to, y_label, y_held, y_around, y_waiting, y_operand, y_outer, y_kept⟩ := D
  exact And.intro rfl this
theorem gy_R3_B {M : Nat} {x : Int32} {D : gy_D} (hb : ¬ gy_bl D = 0) (h : post 4 (gy_Y y_parts y_count y_place y_where y_given y_ty y_part y_kind y_end y_state y_with y_runKind y_runEnd y_runWith (gy_setr D x))) : gy_R3 post M x (gy_Y y_parts y_count y_place y_where y_given y_ty y_part y_kind y_end y_state y_with y_runKind y_runEnd y_runWith D) := by
  have := gy_R1_B (post := post) (D := gy_setr D x) (M := M) (x := 1) (by obtain ⟨y_values, y_variables, y_waits, y_at, y_world, y_steps, y_blame, y_result, y_sort, y_one, y_two, y_from, y_to, y_label, y_held, y_around, y_waiting, y_operand, y_outer, y_kept⟩ := D; exact hb) h
  obtain ⟨y_values, y_variables, y_waits, y_at, y_world, y_steps, y_blame, y_result, y_sort, y_one, y_two, y_from, y_to, y_label, y_held, y_around, y_waiting, y_operand, y_outer, y_kept⟩ := D
  exact And.intro rfl this
theorem gy_take_l {R0 : Int32 → SY → Prop} {side x1 : Nat} (h2 : side < 2) (hx1 : x1 / 8 < 5001) (hK : gy_K y_ty) : ∀ (n j h v : Nat) (s : gm_S) (out : gm_O) (D : gy_D), gm_take side n h v s = some out → gm_wlk s j (x1 / 8) = v / 8 → gm_CC s (x1 / 8) j → gy_H y_ty s D → j + n < 1000000 →
    (out.1 = 0 → ∀ D', gy_H y_ty out.2.2.2 D' → gy_Sm D D' → gy_un R0 y_parts y_count y_place y_where y_given y_ty y_part y_kind y_end y_state y_with y_runKind y_runEnd y_runWith (x1 / 8) (if side = 0 then 1 else 2) j out.2.1 D') → (out.1 ≠ 0 → ∀ x D', gy_E y_ty out D' → gy_rs D' = gy_rs D → R0 x (gy_Y y_parts y_count y_place y_where y_given y_ty y_part y_kind y_end y_state y_with y_runKind y_runEnd y_runWith D')) →
    ∀ N, n < N → (match D with | (y_values, y_variables, y_waits, y_at, y_world, y_steps, y_blame, y_result, y_sort, y_one, y_two, y_from, y_to, y_label, y_held, y_around, y_waiting, y_operand, y_outer, y_kept) => wY_partOf_8 R0 (nI x1) (if side = 0 then 1 else 0) y_parts y_count y_place y_where y_values y_variables y_waits y_at y_world y_steps y_blame y_result y_given y_ty y_part y_kind y_end y_state y_with y_runKind y_runEnd y_runWith y_sort y_one y_two y_from y_to y_label y_held y_around y_waiting y_operand y_outer y_kept N (nI (v / 8)) (nI j)) := by
  intro n
  induction n with
  | zero =>
    intro j h v s out D H hw hC hH hj K B N hN
    simp only [gm_take] at H
    obtain ⟨_, H⟩ := gm_tick_e H
    obtain ⟨⟨hv, hk⟩, H⟩ := gm_if_e H
    injection H with H
    subst H
    have k0 := K rfl D hH (gy_Sm_refl D)
    have un := gy_unwind k0
    obtain ⟨y_values, y_variables, y_waits, y_at, y_world, y_steps, y_blame, y_result, y_sort, y_one, y_two, y_from, y_to, y_label, y_held, y_around, y_waiting, y_operand, y_outer, y_kept⟩ := D
    obtain ⟨N, rfl⟩ : ∃ k, N = k + 1 := ⟨N - 1, by omega⟩
    obtain ⟨⟨v0, v5, vc⟩, _⟩ := hH
    have hv' : v / 8 < gm_n s := hv
    have hk' : gm_ck (gm_h s (v / 8)) = 5 := hk
    have cv := vc _ hv'
    have vin : vp_in (nI (v / 8)) 5000 := vp_in_nI (by omega) (by decide)
    have c5 := cv.2.2.2.2.1 hk'
    show vp_in (nI (v / 8)) 5000 ∧ _
    rw [nI_clamp (show v / 8 < 2 ^ 31 by omega), cv.1, c5.1, c5.2, hk']
    refine And.intro vin (br_f (show ¬ nI 5 = 6 by decide) ?_)
    by_cases hs : side = 0
    · rw [if_pos hs]
      rw [if_pos hs] at un
      refine br_f (show ¬ (1 : Int32) = 0 by decide) (And.intro vin (And.intro (by decide) (br_f (show ¬ (1 : Int32) = 0 by decide) ?_)))
      rw [gy_div hx1]
      simp only [if_pos hs] at un
      exact un
    · rw [if_neg hs]
      rw [if_neg hs] at un
      refine br_t rfl (And.intro vin (And.intro (by decide) (br_t rfl ?_)))
      rw [gy_div hx1]
      simp only [if_neg hs] at un
      exact un
  | succ n ih =>
    intro j h v s out D H hw hC hH hj K B N hN
    simp only [gm_take] at H
    obtain ⟨_, H⟩ := gm_tick_e H
    obtain ⟨⟨hv, hk⟩, H⟩ := gm_if_e H
    have hv' : v / 8 < gm_n s := hv
    have hk' : gm_ck (gm_h s (v / 8)) = 6 := hk
    have hCs : gm_CC s (x1 / 8) (j + 1) := gm_CC_s hC (by rw [hw]; exact hv') (by rw [hw]; exact Or.inr hk')
    have wtk : ∀ i, i ≤ j + 1 → gm_wlk (gm_tk s) i (x1 / 8) = gm_wlk s i (x1 / 8) := fun i hi => gm_wlk_le (gm_le_tk s) _ i (fun x hx => (hCs x (by omega)).1)
    have hw1 : gm_wlk (gm_tk s) (j + 1) (x1 / 8) = gm_ca (gm_h s (v / 8)) / 8 := by rw [wtk (j + 1) (Nat.le_refl _), gm_wlk_s, hw]
    have hC1 : gm_CC (gm_tk s) (x1 / 8) (j + 1) := gm_CC_le (gm_le_tk s) hCs
    have main : ∀ N, n < N → (match D with | (y_values, y_variables, y_waits, y_at, y_world, y_steps, y_blame, y_result, y_sort, y_one, y_two, y_from, y_to, y_label, y_held, y_around, y_waiting, y_operand, y_outer, y_kept) => wY_partOf_8 R0 (nI x1) (if side = 0 then 1 else 0) y_parts y_count y_place y_where y_values y_variables y_waits y_at y_world y_steps y_blame y_result y_given y_ty y_part y_kind y_end y_state y_with y_runKind y_runEnd y_runWith y_sort y_one y_two y_from y_to y_label y_held y_around y_waiting y_operand y_outer y_kept N (nI (gm_ca (gm_h s (v / 8)) / 8)) (nI (j + 1))) ∧ gm_ca (gm_h s (v / 8)) / 8 < gm_n s := by
      intro N hN
      refine gm_bd_e H ?_ ?_
      · intro u p s1 e1 H2
        refine ⟨ih (j + 1) (h + 1) (gm_ca (gm_h s (v / 8))) (gm_tk s) (0, u, p, s1) D e1 hw1 hC1 hH (by omega) ?_ (fun z => absurd rfl z) N hN, gm_take_lt (s := gm_tk s) e1⟩
        intro _ D' hD' hS
        have le1 : gm_le (gm_tk s) s1 := (gm_LE_take _ _ _ _ _ e1).1
        have eh : gm_h s1 (v / 8) = gm_h s (v / 8) := le1.2.1 _ hv
        have wj : gm_wlk s1 j (x1 / 8) = v / 8 := by rw [gm_wlk_le le1 _ j (fun x hx => (hC1 x (by omega)).1), wtk j (by omega), hw]
        have hCC := gm_CC_le le1 hC1
        refine gy_un_step (s := s1) (h := h + 1) (c := v / 8) (out := out) ?_ wj (fun i hi => hCC i (by omega)) (by split <;> decide) (by omega) hK hD' ?_ (fun z x D'' hE hr => B z x D'' hE (hr.trans hS.2.2.2.1))
        · rw [eh]
          unfold gy_pt
          by_cases hs : side = 0
          · simp only [if_pos hs] at H2 ⊢
            exact H2
          · simp only [if_neg hs] at H2 ⊢
            exact H2
        · intro z D'' hD'' hS'
          exact K z D'' hD'' (gy_Sm_trans hS hS')
      · intro e1 nz
        exact ⟨ih (j + 1) (h + 1) (gm_ca (gm_h s (v / 8))) (gm_tk s) out D e1 hw1 hC1 hH (by omega) (fun z => absurd z nz) B N hN, gm_take_lt (s := gm_tk s) e1⟩
    obtain ⟨y_values, y_variables, y_waits, y_at, y_world, y_steps, y_blame, y_result, y_sort, y_one, y_two, y_from, y_to, y_label, y_held, y_around, y_waiting, y_operand, y_outer, y_kept⟩ := D
    obtain ⟨N, rfl⟩ : ∃ k, N = k + 1 := ⟨N - 1, by omega⟩
    obtain ⟨m1, m2⟩ := main N (by omega)
    obtain ⟨⟨v0, v5, vc⟩, _⟩ := hH
    have cv := vc _ hv'
    have vin : vp_in (nI (v / 8)) 5000 := vp_in_nI (by omega) (by decide)
    show vp_in (nI (v / 8)) 5000 ∧ _
    rw [nI_clamp (show v / 8 < 2 ^ 31 by omega), cv.1, hk', (cv.2.2.2.2.2 (Or.inr hk')).1]
    exact And.intro vin (br_t rfl (And.intro vin (And.intro (by decide) (nm_r (gy_div (by omega)) (nm_r (nI_1 j) m1)))))
theorem gy_partOf {R0 : Int32 → SY → Prop} {side n h v : Nat} {s : gm_S} {out : gm_O} {D : gy_D} (h2 : side < 2) (hK : gy_K y_ty) (H : gm_take side n h v s = some out) (hH : gy_H y_ty s D)
    (K : out.1 = 0 → ∀ D', gy_H y_ty out.2.2.2 D' → gy_Sm D D' → R0 (nI out.2.1) (gy_Y y_parts y_count y_place y_where y_given y_ty y_part y_kind y_end y_state y_with y_runKind y_runEnd y_runWith D')) (B : out.1 ≠ 0 → ∀ x D', gy_E y_ty out D' → gy_rs D' = gy_rs D → R0 x (gy_Y y_parts y_count y_place y_where y_given y_ty y_part y_kind y_end y_state y_with y_runKind y_runEnd y_runWith D')) : wpY_partOf R0 (gy_Y y_parts y_count y_place y_where y_given y_ty y_part y_kind y_end y_state y_with y_runKind y_runEnd y_runWith D) (nI v) (if side = 0 then 1 else 0) := by
  have lt := gm_take_lt H
  have hn := gm_take_u _ _ _ _ _ H
  have n5 : gm_n s ≤ 5000 := by
    obtain ⟨y_values, y_variables, y_waits, y_at, y_world, y_steps, y_blame, y_result, y_sort, y_one, y_two, y_from, y_to, y_label, y_held, y_around, y_waiting, y_operand, y_outer, y_kept⟩ := D
    exact hH.1.2.1
  have main := gy_take_l (R0 := R0) (x1 := v) h2 (by omega) hK n 0 h v s out D H rfl (fun i hi => absurd hi (Nat.not_lt_zero _)) hH (by omega) (fun z D' a b => gy_un0 (K z D' a b)) B (n + 1) (Nat.lt_succ_self n)
  obtain ⟨y_values, y_variables, y_waits, y_at, y_world, y_steps, y_blame, y_result, y_sort, y_one, y_two, y_from, y_to, y_label, y_held, y_around, y_waiting, y_operand, y_outer, y_kept⟩ := D
  exact And.intro (by decide) (nm_r (gy_div (by omega)) (Exists.intro (n + 1) main))
end
