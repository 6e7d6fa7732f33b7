/-! ===== 03: the reference's walks over spelled types ===== -/
section
variable {y_parts y_count y_place y_where y_values y_variables y_waits y_at y_world y_steps y_blame y_result y_given : Int32} {y_ty y_part y_kind y_end y_state y_with y_runKind y_runEnd y_runWith y_sort y_one y_two y_from y_to y_label y_held y_around y_waiting y_operand y_outer y_kept : Nat → Int32}
theorem gy_be {post : Int32 → Prop} : ∀ t : Lean.RArray Nat, gd_vt t → ∀ i m n : Nat, gd_Sp y_ty t i → i + gd_sz t ≤ 700 → m + gd_sz t < 1000 → wY_behind_4 post y_parts y_count y_place y_where y_values y_variables y_waits y_at y_world y_steps y_blame y_result y_given y_ty y_part y_kind y_end y_state y_with y_runKind y_runEnd y_runWith y_sort y_one y_two y_from y_to y_label y_held y_around y_waiting y_operand y_outer y_kept n (nI m) (nI (i + gd_sz t)) → wY_behind_4 post y_parts y_count y_place y_where y_values y_variables y_waits y_at y_world y_steps y_blame y_result y_given y_ty y_part y_kind y_end y_state y_with y_runKind y_runEnd y_runWith y_sort y_one y_two y_from y_to y_label y_held y_around y_waiting y_operand y_outer y_kept (n + gd_sz t) (nI (m + 1)) (nI i) := by
  intro t
  induction t with
  | leaf k =>
    intro hk i m n sp hi hm H
    simp only [gd_vt] at hk
    simp only [gd_sz] at hi hm H ⊢
    have h0 : ¬ nI (m + 1) ≤ 0 := nI_nle (by omega) (by omega)
    have e : y_ty i = nI k := sp
    have hk3 : y_ty (nI i).toNatClampNeg ≤ 2 := by
      rw [nI_clamp (by omega), e]
      exact nI_le (b := 2) (by omega) (by decide)
    exact br_f h0 (nm_r (nI_1 i) (And.intro (vp_in_nI (by omega) (by decide)) (br_t hk3 (nm_r (pk_m1 m) H))))
  | branch h l r ihl ihr =>
    intro hv i m n sp hi hm H
    simp only [gd_vt] at hv
    have hh := gd_h8 hv.1
    have hl := gd_sz_pos l
    have hr := gd_sz_pos r
    simp only [gd_sz] at hi hm H ⊢
    have h0 : ¬ nI (m + 1) ≤ 0 := nI_nle (by omega) (by omega)
    have e : y_ty i = nI h := sp.1
    have hk3 : ¬ y_ty (nI i).toNatClampNeg ≤ 2 := by
      rw [nI_clamp (by omega), e]
      exact nI_ge (a := 2) (by omega) (by omega)
    rw [show n + (1 + gd_sz l + gd_sz r) = (n + gd_sz r + gd_sz l) + 1 by omega]
    rw [show i + (1 + gd_sz l + gd_sz r) = i + 1 + gd_sz l + gd_sz r by omega] at H
    exact br_f h0 (nm_r (nI_1 i) (And.intro (vp_in_nI (by omega) (by decide)) (br_f hk3 (nm_r (nI_1 (m + 1)) (ihl hv.2.1 (i + 1) (m + 1) (n + gd_sz r) sp.2.1 (by omega) (by omega) (ihr hv.2.2 (i + 1 + gd_sz l) m n sp.2.2 (by omega) (by omega) H))))))
theorem gy_behind {post : Int32 → Prop} {t : Lean.RArray Nat} (ht : gd_TY t) {i : Nat} (sp : gd_Sp y_ty t i) (hi : i + gd_sz t ≤ 700) (H : post (nI (i + gd_sz t))) : wpY_behind post (y_parts, y_count, y_place, y_where, y_values, y_variables, y_waits, y_at, y_world, y_steps, y_blame, y_result, y_given, y_ty, y_part, y_kind, y_end, y_state, y_with, y_runKind, y_runEnd, y_runWith, y_sort, y_one, y_two, y_from, y_to, y_label, y_held, y_around, y_waiting, y_operand, y_outer, y_kept) (nI i) := by
  have z := ht.2
  have y : wY_behind_4 post y_parts y_count y_place y_where y_values y_variables y_waits y_at y_world y_steps y_blame y_result y_given y_ty y_part y_kind y_end y_state y_with y_runKind y_runEnd y_runWith y_sort y_one y_two y_from y_to y_label y_held y_around y_waiting y_operand y_outer y_kept 1 (nI 0) (nI (i + gd_sz t)) := br_t (by rw [nI_0]; exact Int32.le_refl 0) H
  exact Exists.intro (1 + gd_sz t) (gy_be t ht.1 i 0 1 sp (by omega) (by omega) y)
theorem gy_same_l {post : Int32 → Prop} {f g : Lean.RArray Nat} (hf : gd_TY f) (hg : gd_TY g) {i j : Nat} (sf : gd_Sp y_ty f i) (sg : gd_Sp y_ty g j) (hi : i + 7 ≤ 700) (hj : j + 7 ≤ 700) (P : f = g → post 1) (Q : f ≠ g → post 0) : ∀ d k : Nat, k + d = gd_sz f → (∀ q, q < k → y_ty (i + q) = y_ty (j + q)) → wY_same_11 post (nI i) (nI j) (nI (gd_sz f)) y_parts y_count y_place y_where y_values y_variables y_waits y_at y_world y_steps y_blame y_result y_given y_ty y_part y_kind y_end y_state y_with y_runKind y_runEnd y_runWith y_sort y_one y_two y_from y_to y_label y_held y_around y_waiting y_operand y_outer y_kept (d + 1) (nI k) := by
  intro d
  have zf := hf.2
  induction d with
  | zero =>
    intro k hk h
    exact br_t (nI_le (by omega) (by omega)) (P (gd_sp_eq f hf.1 g hg.1 i j sf sg (fun q hq => h q (by omega))))
  | succ d ih =>
    intro k hk h
    refine br_f (nI_ge (by omega) (by omega)) ?_
    rw [nI_add, nI_add]
    refine And.intro (vp_in_nI (by omega) (by decide)) (And.intro (vp_in_nI (by omega) (by decide)) ?_)
    rw [nI_clamp (show i + k < 2 ^ 31 by omega), nI_clamp (show j + k < 2 ^ 31 by omega)]
    refine br_c (fun z => nm_r (nI_1 k) (ih (k + 1) (by omega) ?_)) (fun z => Q ?_)
    · intro q hq
      by_cases e : q = k
      · rw [e]; exact z
      · exact h q (by omega)
    · intro e
      subst e
      exact z (gd_sp_tok f i j sf sg k (by omega))
theorem gy_same {post : Int32 → Prop} {f g : Lean.RArray Nat} (hf : gd_TY f) (hg : gd_TY g) {i j : Nat} (sf : gd_Sp y_ty f i) (sg : gd_Sp y_ty g j) (hi : i + 7 ≤ 700) (hj : j + 7 ≤ 700) (P : f = g → post 1) (Q : f ≠ g → post 0) : wpY_same post (y_parts, y_count, y_place, y_where, y_values, y_variables, y_waits, y_at, y_world, y_steps, y_blame, y_result, y_given, y_ty, y_part, y_kind, y_end, y_state, y_with, y_runKind, y_runEnd, y_runWith, y_sort, y_one, y_two, y_from, y_to, y_label, y_held, y_around, y_waiting, y_operand, y_outer, y_kept) (nI i) (nI j) := by
  refine gy_behind hf sf (by have := hf.2; omega) ?_
  refine nm_r (e' := nI (gd_sz f)) ?_ ?_
  · rw [pk_sub (by omega)]
    exact congrArg nI (by omega)
  · exact Exists.intro (gd_sz f + 1) (gy_same_l hf hg sf sg hi hj P Q (gd_sz f) 0 (by omega) (fun q hq => absurd hq (Nat.not_lt_zero q)))
theorem gy_co_skip {post : Int32 → Prop} {J : Int32 → Int32 → Prop} {x5 : Int32} {f g : Lean.RArray Nat} (hf : gd_TY f) (hg : gd_TY g) {i j : Nat} (sf : gd_Sp y_ty f i) (sg : gd_Sp y_ty g j) (hi : i + gd_sz f ≤ 700) (hj : j + gd_sz g ≤ 700) (H : J (nI (i + gd_sz f)) (nI (j + gd_sz g))) : wY_consistent_39 post J (nI i) (nI j) x5 y_parts y_count y_place y_where y_values y_variables y_waits y_at y_world y_steps y_blame y_result y_given y_ty y_part y_kind y_end y_state y_with y_runKind y_runEnd y_runWith y_sort y_one y_two y_from y_to y_label y_held y_around y_waiting y_operand y_outer y_kept :=
  br_f (show ¬ (1 : Int32) = 0 by decide) (br_f (show ¬ (1 : Int32) = 0 by decide) (gy_behind hf sf hi (br_f (show ¬ (1 : Int32) = 0 by decide) (gy_behind hg sg hj H))))
theorem gy_co_step {post : Int32 → Prop} {J : Int32 → Int32 → Prop} {x5 : Int32} {a b : Nat} {i j : Nat} (ha : a < 10) (hb : b < 10) (sa : y_ty i = nI a) (sb : y_ty j = nI b) (hi : i < 700) (hj : j < 700) (H : a = b → J (nI (i + 1)) (nI (j + 1))) (D : a ≠ b → post 0) : wY_consistent_44 post J (nI i) (nI j) x5 0 y_parts y_count y_place y_where y_values y_variables y_waits y_at y_world y_steps y_blame y_result y_given y_ty y_part y_kind y_end y_state y_with y_runKind y_runEnd y_runWith y_sort y_one y_two y_from y_to y_label y_held y_around y_waiting y_operand y_outer y_kept := by
  refine br_t rfl (And.intro (vp_in_nI hi (by decide)) (And.intro (vp_in_nI hj (by decide)) ?_))
  rw [nI_clamp (show i < 2 ^ 31 by omega), nI_clamp (show j < 2 ^ 31 by omega), sa, sb]
  refine pk_eq a b (fun z => ?_) D
  refine br_t rfl (br_t rfl ?_)
  rw [nI_1 i]
  exact nm_r (nI_1 j) (H z)
theorem gy_co {post : Int32 → Prop} {E : Nat} (hE : E ≤ 700) : ∀ f : Lean.RArray Nat, gd_TY f → ∀ g : Lean.RArray Nat, gd_TY g → ∀ i j n : Nat, gd_Sp y_ty f i → gd_Sp y_ty g j → i + gd_sz f ≤ E → i + gd_sz f ≤ 700 → j + gd_sz g ≤ 700 →
    (gd_cb f g = true → ∀ N, n ≤ N → wY_consistent_12 post (nI E) y_parts y_count y_place y_where y_values y_variables y_waits y_at y_world y_steps y_blame y_result y_given y_ty y_part y_kind y_end y_state y_with y_runKind y_runEnd y_runWith y_sort y_one y_two y_from y_to y_label y_held y_around y_waiting y_operand y_outer y_kept N (nI (i + gd_sz f)) (nI (j + gd_sz g))) → (gd_cb f g = false → post 0) →
    ∀ N, n + gd_sz f ≤ N → wY_consistent_12 post (nI E) y_parts y_count y_place y_where y_values y_variables y_waits y_at y_world y_steps y_blame y_result y_given y_ty y_part y_kind y_end y_state y_with y_runKind y_runEnd y_runWith y_sort y_one y_two y_from y_to y_label y_held y_around y_waiting y_operand y_outer y_kept N (nI i) (nI j) := by
  intro f
  induction f with
  | leaf a =>
    intro hf g hg i j n sf sg hi hi7 hj7 C D N hN
    have zg0 := gd_sz_pos g
    have ha := hf.1
    simp only [gd_vt] at ha
    have hC := C
    simp only [gd_sz] at hi hN
    have ga := gd_hd_lt hg.1
    have sa : y_ty i = nI a := sf
    have sb := gd_sp_hd sg
    obtain ⟨N, rfl⟩ : ∃ K, N = K + 1 := ⟨N - 1, by omega⟩
    refine br_f (nI_ge (by omega) (by omega)) (And.intro (vp_in_nI (by omega) (by decide)) ?_)
    rw [nI_clamp (show i < 2 ^ 31 by omega), sa]
    refine pk_eq a 2 (fun z => gy_co_skip hf hg sf sg hi7 hj7 (C (by rw [z]; exact gd_cb_any g) N (by omega))) (fun z2 => And.intro (vp_in_nI (by omega) (by decide)) ?_)
    rw [nI_clamp (show j < 2 ^ 31 by omega), sb]
    refine pk_eq (gd_hd g) 2 (fun z => gy_co_skip hf hg sf sg hi7 hj7 (C ?_ N (by omega))) (fun z3 => ?_)
    · cases g with
      | leaf b => simp only [gd_hd] at z; rw [z]; exact gd_cb_any' _
      | branch h l r => have hv := hg.1; simp only [gd_vt] at hv; simp only [gd_hd] at z; omega
    refine gy_co_step (a := a) (b := gd_hd g) (by omega) (by omega) sa sb (by omega) (by omega) (fun z => ?_) (fun z => D ?_)
    · cases g with
      | leaf b =>
        simp only [gd_hd] at z
        subst z
        have c := C (gd_cb_refl _) N (by omega)
        simp only [gd_sz] at c
        exact c
      | branch h l r => have hv := hg.1; simp only [gd_vt] at hv; simp only [gd_hd] at z; omega
    · cases g with
      | leaf b => simp only [gd_hd] at z z3; simp [gd_cb, z2, z3, z]
      | branch h l r => simp [gd_cb, z2]
  | branch h l r ihl ihr =>
    intro hf g hg i j n sf sg hi hi7 hj7 C D N hN
    have zg0 := gd_sz_pos g
    have hv := hf.1
    simp only [gd_vt] at hv
    have hh := gd_h8 hv.1
    have zl := gd_sz_pos l
    have zr := gd_sz_pos r
    have zf := hf.2
    have ga := gd_hd_lt hg.1
    have sa : y_ty i = nI h := sf.1
    have sb := gd_sp_hd sg
    have hN0 := hN
    simp only [gd_sz] at hi hN zf
    obtain ⟨N, rfl⟩ : ∃ K, N = K + 1 := ⟨N - 1, by omega⟩
    refine br_f (nI_ge (by omega) (by omega)) (And.intro (vp_in_nI (by omega) (by decide)) ?_)
    rw [nI_clamp (show i < 2 ^ 31 by omega), sa]
    refine pk_eq h 2 (fun z => by omega) (fun z2 => And.intro (vp_in_nI (by omega) (by decide)) ?_)
    rw [nI_clamp (show j < 2 ^ 31 by omega), sb]
    refine pk_eq (gd_hd g) 2 (fun z => gy_co_skip hf hg sf sg hi7 hj7 (C ?_ N (by omega))) (fun z3 => ?_)
    · cases g with
      | leaf b => simp only [gd_hd] at z; rw [z]; exact gd_cb_any' _
      | branch h' l' r' => have hv' := hg.1; simp only [gd_vt] at hv'; simp only [gd_hd] at z; omega
    refine gy_co_step (a := h) (b := gd_hd g) (by omega) (by omega) sa sb (by omega) (by omega) (fun z => ?_) (fun z => D ?_)
    · cases g with
      | leaf b => have hv' := hg.1; simp only [gd_vt] at hv'; simp only [gd_hd] at z; omega
      | branch h' l' r' =>
        simp only [gd_hd] at z
        have zg := hg.2
        simp only [gd_sz] at C zg hj7
        have zl' := gd_sz_pos l'
        have zr' := gd_sz_pos r'
        refine ihl (gd_TY_l hf) l' (gd_TY_l hg) (i + 1) (j + 1) (n + gd_sz r) sf.2.1 sg.2.1 (by omega) (by omega) (by omega) ?_ ?_ N (by omega)
        · intro cl N' hN'
          refine ihr (gd_TY_r hf) r' (gd_TY_r hg) (i + 1 + gd_sz l) (j + 1 + gd_sz l') n sf.2.2 sg.2.2 (by omega) (by omega) (by omega) ?_ ?_ N' hN'
          · intro cr N'' hN''
            have c := C (by simp [gd_cb, z, cl, cr]) N'' hN''
            rw [show i + 1 + gd_sz l + gd_sz r = i + (1 + gd_sz l + gd_sz r) by omega, show j + 1 + gd_sz l' + gd_sz r' = j + (1 + gd_sz l' + gd_sz r') by omega]
            exact c
          · intro cr
            exact D (by simp [gd_cb, cr])
        · intro cl
          exact D (by simp [gd_cb, cl])
    · cases g with
      | leaf b => simp only [gd_hd] at z z3; simp [gd_cb, z3]
      | branch h' l' r' => simp only [gd_hd] at z; simp [gd_cb, z]
theorem gy_consistent {post : Int32 → Prop} {f g : Lean.RArray Nat} (hf : gd_TY f) (hg : gd_TY g) {i j : Nat} (sf : gd_Sp y_ty f i) (sg : gd_Sp y_ty g j) (hi : i + 7 ≤ 700) (hj : j + 7 ≤ 700) (P : gd_cb f g = true → post 1) (Q : gd_cb f g = false → post 0) : wpY_consistent post (y_parts, y_count, y_place, y_where, y_values, y_variables, y_waits, y_at, y_world, y_steps, y_blame, y_result, y_given, y_ty, y_part, y_kind, y_end, y_state, y_with, y_runKind, y_runEnd, y_runWith, y_sort, y_one, y_two, y_from, y_to, y_label, y_held, y_around, y_waiting, y_operand, y_outer, y_kept) (nI i) (nI j) := by
  have zf := hf.2
  have zg := hg.2
  refine gy_behind hf sf (by omega) ?_
  refine Exists.intro (1 + gd_sz f) ?_
  refine gy_co (E := i + gd_sz f) (by omega) f hf g hg i j 1 sf sg (by omega) (by omega) (by omega) ?_ Q _ (Nat.le_refl _)
  intro c N hN
  obtain ⟨N, rfl⟩ : ∃ K, N = K + 1 := ⟨N - 1, by omega⟩
  exact br_t (nI_le (by omega) (by omega)) (P c)
theorem gd_nb : ∀ k, k < 128 → vp_nar .byte (nI k) = nI k := by
  intro k hk
  rw [vp_nar_byte]
  revert k
  decide +kernel
/-- a copy: the target reads as the source did, the rest stays (the two don't meet) -/
theorem gy_copy_l {post : Int32 → SY → Prop} {o a n : Nat} (ho : o + n ≤ 700) (ha : a + n ≤ 700) (hd : o + n ≤ a ∨ a + n ≤ o) (r0 : Nat → Int32) (hb : ∀ k, k < n → vp_nar .byte (r0 (o + k)) = r0 (o + k))
    (P : ∀ r' : Nat → Int32, (∀ k, k < n → r' (a + k) = r0 (o + k)) → (∀ q, (q < a ∨ a + n ≤ q) → r' q = r0 q) → post (nI (a + n)) (y_parts, y_count, y_place, y_where, y_values, y_variables, y_waits, y_at, y_world, y_steps, y_blame, y_result, y_given, r', y_part, y_kind, y_end, y_state, y_with, y_runKind, y_runEnd, y_runWith, y_sort, y_one, y_two, y_from, y_to, y_label, y_held, y_around, y_waiting, y_operand, y_outer, y_kept)) :
    ∀ d k : Nat, k + d = n → ∀ r : Nat → Int32, (∀ q, q < k → r (a + q) = r0 (o + q)) → (∀ q, (q < a ∨ a + k ≤ q) → r q = r0 q) → wY_copy_11 post (nI o) (nI a) (nI n) y_parts y_count y_place y_where y_values y_variables y_waits y_at y_world y_steps y_blame y_result y_given (d + 1) (nI k) r y_part y_kind y_end y_state y_with y_runKind y_runEnd y_runWith y_sort y_one y_two y_from y_to y_label y_held y_around y_waiting y_operand y_outer y_kept := by
  intro d
  induction d with
  | zero =>
    intro k hk r h1 h2
    have e : k = n := by omega
    subst e
    refine br_t (Int32.le_refl _) ?_
    rw [nI_add]
    exact P r h1 h2
  | succ d ih =>
    intro k hk r h1 h2
    refine br_f (nI_ge (by omega) (by omega)) ?_
    rw [nI_add, nI_add]
    refine And.intro (vp_in_nI (by omega) (by decide)) (And.intro (vp_in_nI (by omega) (by decide)) ?_)
    rw [nI_clamp (show o + k < 2 ^ 31 by omega), nI_clamp (show a + k < 2 ^ 31 by omega)]
    have e1 : r (o + k) = r0 (o + k) := h2 _ (by omega)
    rw [e1, hb k (by omega)]
    refine nm_e (nm_r (nI_1 k) (ih (k + 1) (by omega) (upd r (a + k) (r0 (o + k))) ?_ ?_))
    · intro q hq
      by_cases e : q = k
      · subst e; exact pk_us
      · rw [pk_un (by omega)]; exact h1 q (by omega)
    · intro q hq
      rw [pk_un (by omega)]
      exact h2 q (by omega)
theorem gy_copy {post : Int32 → SY → Prop} {t : Lean.RArray Nat} (ht : gd_TY t) {o a : Nat} (sp : gd_Sp y_ty t o) (ho : o + 7 ≤ 700) (ha : a + 7 ≤ 700) (hd : o + gd_sz t ≤ a ∨ a + gd_sz t ≤ o) (hb : ∀ k, k < gd_sz t → vp_nar .byte (y_ty (o + k)) = y_ty (o + k))
    (P : ∀ r' : Nat → Int32, gd_Sp r' t a → (∀ q, (q < a ∨ a + gd_sz t ≤ q) → r' q = y_ty q) → post (nI (a + gd_sz t)) (y_parts, y_count, y_place, y_where, y_values, y_variables, y_waits, y_at, y_world, y_steps, y_blame, y_result, y_given, r', y_part, y_kind, y_end, y_state, y_with, y_runKind, y_runEnd, y_runWith, y_sort, y_one, y_two, y_from, y_to, y_label, y_held, y_around, y_waiting, y_operand, y_outer, y_kept)) : wpY_copy post (y_parts, y_count, y_place, y_where, y_values, y_variables, y_waits, y_at, y_world, y_steps, y_blame, y_result, y_given, y_ty, y_part, y_kind, y_end, y_state, y_with, y_runKind, y_runEnd, y_runWith, y_sort, y_one, y_two, y_from, y_to, y_label, y_held, y_around, y_waiting, y_operand, y_outer, y_kept) (nI o) (nI a) := by
  have z := ht.2
  refine gy_behind ht sp (by omega) ?_
  refine nm_r (e' := nI (gd_sz t)) ?_ ?_
  · rw [pk_sub (by omega)]
    exact congrArg nI (by omega)
  · refine Exists.intro (gd_sz t + 1) (gy_copy_l (by omega) (by omega) hd y_ty hb ?_ (gd_sz t) 0 (by omega) y_ty (fun q hq => absurd hq (Nat.not_lt_zero q)) (fun q _ => rfl))
    intro r' h1 h2
    exact P r' (gd_sp_cp t o a sp h1) h2
end
