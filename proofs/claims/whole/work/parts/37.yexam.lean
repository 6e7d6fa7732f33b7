/-! ===== 37: the reference's check ===== -/
theorem gs_WF_FA {kd : Nat → Nat} {cnt i : Nat} (W : gs_WF kd cnt) (F : gs_FA kd cnt i) : False := by
  rcases F.2 with c | c
  · have := W.1 i c.1; omega
  · have := W.2; omega
theorem gy_DR_r {kd : Nat → Nat} {vl : Nat → Int32} {nm : Nat → Lean.RArray Nat} {cnt : Nat} {ty r kind wit : Nat → Int32} (hd : gy_DR kd vl nm cnt ty kind wit) (h : ∀ q, 288 ≤ q → r q = ty q) : gy_DR kd vl nm cnt r kind wit := by
  obtain ⟨c36, hn, hnm, hK, hk⟩ := hd
  refine ⟨c36, hn, fun n hn' => gd_sp_same (hnm n hn') (fun k _ => h _ (by omega)), ?_, hk⟩
  obtain ⟨a, b, c, d, e, f, g, i, j⟩ := hK
  exact ⟨(h _ (by decide)).trans a, (h _ (by decide)).trans b, (h _ (by decide)).trans c, (h _ (by decide)).trans d, (h _ (by decide)).trans e, (h _ (by decide)).trans f, (h _ (by decide)).trans g, (h _ (by decide)).trans i, (h _ (by decide)).trans j⟩
theorem gy_cd_pos {c : Nat} (h : c < 5) : 0 < gy_cd c ↔ c ≠ 0 ∧ c ≠ 4 := by
  unfold gy_cd
  by_cases e : c = 4
  · rw [if_pos e]
    exact ⟨fun z => absurd z (by decide), fun z => absurd e z.2⟩
  · rw [if_neg e]
    have := nI_ltI (a := 0) (b := c) (by decide) (by omega)
    rw [nI_0] at this
    rw [this]
    omega
section
variable {y_parts y_count y_place y_where y_values y_variables y_waits y_at y_world y_steps y_blame y_result y_given : Int32} {y_ty y_part y_kind y_end y_state y_with y_runKind y_runEnd y_runWith y_sort y_one y_two y_from y_to y_label y_held y_around y_waiting y_operand y_outer y_kept : Nat → Int32}
variable {kd : Nat → Nat} {vl : Nat → Int32} {nm : Nat → Lean.RArray Nat} {cnt : Nat}
theorem gy_ex123 {post : Int32 → SY → Prop} (W : gs_WF kd cnt) (c36 : cnt ≤ 36) (hs : ∀ j, j < cnt → y_state j = gy_cd (gs_R kd vl nm cnt j).1)
    (B : ∀ i, i < cnt → (gs_R kd vl nm cnt i).1 ≠ 0 → (gs_R kd vl nm cnt i).1 ≠ 4 → (∀ j, j < i → (gs_R kd vl nm cnt j).1 = 0 ∨ (gs_R kd vl nm cnt j).1 = 4) → post (nI (gs_R kd vl nm cnt i).1) (y_parts, y_count, y_place, nI i, y_values, y_variables, y_waits, y_at, y_world, y_steps, y_blame, y_result, y_given, y_ty, y_part, y_kind, y_end, y_state, y_with, y_runKind, y_runEnd, y_runWith, y_sort, y_one, y_two, y_from, y_to, y_label, y_held, y_around, y_waiting, y_operand, y_outer, y_kept))
    (C : (∀ j, j < cnt → (gs_R kd vl nm cnt j).1 = 0 ∨ (gs_R kd vl nm cnt j).1 = 4) → ∀ w, post 0 (y_parts, y_count, y_place, w, y_values, y_variables, y_waits, y_at, y_world, y_steps, y_blame, y_result, y_given, y_ty, y_part, y_kind, y_end, y_state, y_with, y_runKind, y_runEnd, y_runWith, y_sort, y_one, y_two, y_from, y_to, y_label, y_held, y_around, y_waiting, y_operand, y_outer, y_kept)) :
    ∀ d, d ≤ cnt → ∀ x2 wh : Int32, (x2 = 0 ∧ (∀ j, d ≤ j → j < cnt → (gs_R kd vl nm cnt j).1 = 0 ∨ (gs_R kd vl nm cnt j).1 = 4) ∨ ∃ j, d ≤ j ∧ j < cnt ∧ (gs_R kd vl nm cnt j).1 ≠ 0 ∧ (gs_R kd vl nm cnt j).1 ≠ 4 ∧ x2 = nI (gs_R kd vl nm cnt j).1 ∧ wh = nI j ∧ ∀ q, d ≤ q → q < j → (gs_R kd vl nm cnt q).1 = 0 ∨ (gs_R kd vl nm cnt q).1 = 4) →
      wY_examine_123 post y_parts y_count y_place y_values y_variables y_waits y_at y_world y_steps y_blame y_result y_given y_ty y_part y_kind y_end y_state y_with y_runKind y_runEnd y_runWith y_sort y_one y_two y_from y_to y_label y_held y_around y_waiting y_operand y_outer y_kept (d + 1) x2 (nI d - 1) wh := by
  intro d
  induction d with
  | zero =>
    intro _ x2 wh h
    refine br_t (show nI 0 - 1 < 0 by decide) ?_
    rcases h with ⟨e, h⟩ | ⟨j, h1, h2, h3, h4, e, ew, h5⟩
    · rw [e]; exact C (fun j hj => h j (Nat.zero_le _) hj) wh
    · rw [e, ew]; exact B j h2 h3 h4 (fun q hq => h5 q (Nat.zero_le _) hq)
  | succ d ih =>
    intro hd x2 wh h
    have dc : d < cnt := by omega
    have cl := gs_code_lt (vl := vl) (nm := nm) W dc
    rw [nI_pred d]
    refine br_f (nI_pos (by omega)) ?_
    rw [nI_clamp (show d < 2 ^ 31 by omega), hs d dc]
    have vin : vp_in (nI d) 36 := vp_in_nI (by omega) (by decide)
    refine And.intro vin (br_c (fun z => And.intro vin ?_) (fun z => ?_))
    · have c := (gy_cd_pos cl).mp z
      have ec : gy_cd (gs_R kd vl nm cnt d).1 = nI (gs_R kd vl nm cnt d).1 := by unfold gy_cd; rw [if_neg c.2]
      refine nm_r ec (nm_r (gx_am1 d) (ih (by omega) _ _ (Or.inr ⟨d, Nat.le_refl _, dc, c.1, c.2, rfl, rfl, fun q h1 h2 => by omega⟩)))
    · have c : (gs_R kd vl nm cnt d).1 = 0 ∨ (gs_R kd vl nm cnt d).1 = 4 := by
        by_cases a : (gs_R kd vl nm cnt d).1 = 0
        · exact Or.inl a
        · by_cases b : (gs_R kd vl nm cnt d).1 = 4
          · exact Or.inr b
          · exact absurd ((gy_cd_pos cl).mpr ⟨a, b⟩) z
      refine nm_r (gx_am1 d) (ih (by omega) x2 wh ?_)
      rcases h with ⟨e, h⟩ | ⟨j, h1, h2, h3, h4, e, ew, h5⟩
      · left
        refine ⟨e, fun j h1 h2 => ?_⟩
        by_cases q : j = d
        · rw [q]; exact c
        · exact h j (by omega) h2
      · right
        refine ⟨j, by omega, h2, h3, h4, e, ew, fun q h6 h7 => ?_⟩
        by_cases r : q = d
        · rw [r]; exact c
        · exact h5 q (by omega) h7
theorem gy_ex66 {post : Int32 → SY → Prop} (W : gs_WF kd cnt) (hd : gy_DR kd vl nm cnt y_ty y_kind y_with)
    (B : ∀ i e st r, i < cnt → (gs_R kd vl nm cnt i).1 ≠ 0 → (gs_R kd vl nm cnt i).1 ≠ 4 → (∀ j, j < i → (gs_R kd vl nm cnt j).1 = 0 ∨ (gs_R kd vl nm cnt j).1 = 4) → (∀ q, 288 ≤ q → r q = y_ty q) → post (nI (gs_R kd vl nm cnt i).1) (y_parts, nI cnt, y_place, nI i, y_values, y_variables, y_waits, y_at, y_world, y_steps, y_blame, y_result, y_given, r, y_part, y_kind, e, st, y_with, y_runKind, y_runEnd, y_runWith, y_sort, y_one, y_two, y_from, y_to, y_label, y_held, y_around, y_waiting, y_operand, y_outer, y_kept))
    (C : ∀ e st r w, (∀ j, j < cnt → (gs_R kd vl nm cnt j).1 = 0 ∨ (gs_R kd vl nm cnt j).1 = 4) → (∀ j, j < cnt → e j = nI (gs_en kd cnt j) ∧ ((gs_R kd vl nm cnt j).1 = 0 → gd_Sp r (gs_R kd vl nm cnt j).2 (8 * j))) → (∀ q, 288 ≤ q → r q = y_ty q) → post 0 (y_parts, nI cnt, y_place, w, y_values, y_variables, y_waits, y_at, y_world, y_steps, y_blame, y_result, y_given, r, y_part, y_kind, e, st, y_with, y_runKind, y_runEnd, y_runWith, y_sort, y_one, y_two, y_from, y_to, y_label, y_held, y_around, y_waiting, y_operand, y_outer, y_kept)) :
    ∀ d, d ≤ cnt → ∀ e st r, (∀ j, d ≤ j → j < cnt → e j = nI (gs_en kd cnt j) ∧ st j = gy_cd (gs_R kd vl nm cnt j).1 ∧ ((gs_R kd vl nm cnt j).1 = 0 → gd_Sp r (gs_R kd vl nm cnt j).2 (8 * j))) → (∀ q, 288 ≤ q → r q = y_ty q) → wY_examine_66 post 0 (d + 1) (nI d - 1) y_parts (nI cnt) y_place y_where y_values y_variables y_waits y_at y_world y_steps y_blame y_result y_given r y_part y_kind e st y_with y_runKind y_runEnd y_runWith y_sort y_one y_two y_from y_to y_label y_held y_around y_waiting y_operand y_outer y_kept := by
  have c36 := hd.1
  intro d
  induction d with
  | zero =>
    intro _ e st r h hr
    refine br_t (show nI 0 - 1 < 0 by decide) (nm_e (Exists.intro (cnt + 1) ?_))
    refine gy_ex123 (y_count := nI cnt) (y_end := e) (y_state := st) (y_ty := r) W c36 (fun j hj => (h j (Nat.zero_le _) hj).2.1) (fun i a1 a2 a3 a4 => B i e st r a1 a2 a3 a4 hr) (fun all w => C e st r w all (fun j hj => ⟨(h j (Nat.zero_le _) hj).1, (h j (Nat.zero_le _) hj).2.2⟩) hr) cnt (Nat.le_refl _) 0 y_where (Or.inl ⟨rfl, fun j h1 h2 => by omega⟩)
  | succ d ih =>
    intro hdc e st r h hr
    have dc : d < cnt := by omega
    have hd' := gy_DR_r hd hr
    obtain ⟨k1, k2, k3, k4⟩ := hd'.2.2.2.2 d dc
    have en36 : gs_en kd cnt d ≤ 36 := Nat.le_trans (gs_en_ok W dc).2.1 c36
    have vin : vp_in (nI d) 36 := vp_in_nI (by omega) (by decide)
    rw [nI_pred d]
    refine br_f (nI_pos (by omega)) (gy_endOf (y_end := e) W c36 k1 k2 dc (fun j h1 h2 => (h j (by omega) h2).1) ?_)
    rw [nI_clamp (show d < 2 ^ 31 by omega), gy_nb _ (show gs_en kd cnt d < 128 by omega)]
    refine And.intro vin (nm_e ?_)
    have he : ∀ j, d < j → j < cnt → upd e d (nI (gs_en kd cnt d)) j = nI (gs_en kd cnt j) := fun j h1 h2 => by rw [pk_un (by omega)]; exact (h j (by omega) h2).1
    have e99 : ∀ (c : Nat) (x : Int32) (r' : Nat → Int32), (gs_R kd vl nm cnt d).1 = c → vp_nar .byte x.toInt8.toInt32 = gy_cd c → (∀ q, (q < 8 * d ∨ 8 * d + 8 ≤ q) → r' q = r q) → (c = 0 → gd_Sp r' (gs_R kd vl nm cnt d).2 (8 * d)) → wY_examine_99 post (wY_examine_66 post 0 (d + 1)) 0 (nI d) x y_parts (nI cnt) y_place y_where y_values y_variables y_waits y_at y_world y_steps y_blame y_result y_given r' y_part y_kind (upd e d (nI (gs_en kd cnt d))) st y_with y_runKind y_runEnd y_runWith y_sort y_one y_two y_from y_to y_label y_held y_around y_waiting y_operand y_outer y_kept := by
      intro c x r' ec ex ho hs
      unfold wY_examine_99
      rw [nI_clamp (show d < 2 ^ 31 by omega), ex]
      refine And.intro vin (nm_e (nm_r (gx_am1 d) (ih (by omega) _ _ r' ?_ ?_)))
      · intro j h1 h2
        by_cases q : j = d
        · subst q
          refine ⟨pk_us, ?_, fun z => hs (ec.symm.trans z)⟩
          rw [pk_us, ec]
        · obtain ⟨g1, g2, g3⟩ := h j (by omega) h2
          refine ⟨he j (by omega) h2, by rw [pk_un q]; exact g2, fun z => gd_sp_same (g3 z) (fun k hk => ho _ (by omega))⟩
      · intro q hq
        rw [ho q (by omega)]
        exact hr q hq
    refine gy_sound (y_end := upd e d (nI (gs_en kd cnt d))) (y_state := st) (y_ty := r) (vl := vl) (nm := nm) W c36 k1 k2 dc he (fun j h1 h2 => (h j (by omega) h2).2.1) (fun ok => br_f (show ¬ (1 : Int32) = 0 by decide) ?_) (fun nok => br_t rfl ?_)
    · refine gy_typed (y_end := upd e d (nI (gs_en kd cnt d))) (y_ty := r) W hd' dc he ok (fun j h1 h2 => (h j (by omega) h2).2.2) ?_
      intro r' o1 o2
      have cl := gs_code_lt (vl := vl) (nm := nm) W dc
      have n4 : (gs_R kd vl nm cnt d).1 ≠ 4 := by
        intro z
        have rho := gs_pr_rho (vl := vl) (nm := nm) W dc ok
        by_cases p0 : (gs_pr kd vl nm cnt d).1 = 0
        · have po := gs_pre_ok (nm := nm) (v := (vl d).toNatClampNeg) (l := gs_col kd (fun j => (vl j).toNatClampNeg) (gs_en kd cnt) d d) (t1 := gs_t kd vl nm cnt d 1) (t2 := gs_t kd vl nm cnt d 2) k2 (gs_t_TY W hd.2.1 dc 0).1 p0
          rw [← rho] at po
          have := po.2 (by rw [z]; decide)
          omega
        · have c := gs_pre_bad (t2 := gs_t kd vl nm cnt d 2) k2 p0
          rw [← rho] at c
          have : (gs_pr kd vl nm cnt d).1 = 4 := c.symm.trans z
          exact gs_pre_n4 k2 this
      refine e99 _ _ r' rfl ?_ o1 o2
      rw [gy_nb _ (by omega)]
      unfold gy_cd
      rw [if_neg n4]
    · have c4 : (gs_R kd vl nm cnt d).1 = 4 := by
        by_cases z : (gs_R kd vl nm cnt d).1 = 4
        · exact z
        · exact absurd (gs_code4 W dc z).1 nok
      exact e99 4 (-1) r c4 (by decide) (fun q _ => rfl) (fun z => absurd z (by decide))
theorem gy_ex4 {post : Int32 → SY → Prop} (hd : gy_DR kd vl nm cnt y_ty y_kind y_with)
    (A : ∀ i, gs_FA kd cnt i → post 1 (y_parts, nI cnt, y_place, nI i, y_values, y_variables, y_waits, y_at, y_world, y_steps, y_blame, y_result, y_given, y_ty, y_part, y_kind, y_end, y_state, y_with, y_runKind, y_runEnd, y_runWith, y_sort, y_one, y_two, y_from, y_to, y_label, y_held, y_around, y_waiting, y_operand, y_outer, y_kept)) (N : gs_WF kd cnt → ∃ n, wY_examine_66 post 0 n (nI cnt - 1) y_parts (nI cnt) y_place (nI cnt) y_values y_variables y_waits y_at y_world y_steps y_blame y_result y_given y_ty y_part y_kind y_end y_state y_with y_runKind y_runEnd y_runWith y_sort y_one y_two y_from y_to y_label y_held y_around y_waiting y_operand y_outer y_kept) : ∀ d i, i + d = cnt → (∀ j, j < i → 0 < gs_D kd j) → ∀ wh, wY_examine_4 post y_parts (nI cnt) y_place y_values y_variables y_waits y_at y_world y_steps y_blame y_result y_given y_ty y_part y_kind y_end y_state y_with y_runKind y_runEnd y_runWith y_sort y_one y_two y_from y_to y_label y_held y_around y_waiting y_operand y_outer y_kept (d + 1) (nI (gs_D kd i)) (nI i) wh := by
  obtain ⟨c36, hn, hnm, hK, hk⟩ := hd
  intro d
  induction d with
  | zero =>
    intro i e h wh
    have e' : i = cnt := by omega
    subst e'
    have dl := gs_D_le kd i
    exact br_t (Int32.le_refl _) (pk_le (gs_D kd i) 0 (fun z => nm_e (N ⟨h, by omega⟩)) (fun z => A i ⟨h, Or.inr ⟨rfl, z⟩⟩))
  | succ d ih =>
    intro i e h wh
    have dl := gs_D_le kd i
    obtain ⟨k1, k2, k3, k4⟩ := hk i (by omega)
    refine br_f (nI_ge (by omega) (by omega)) (pk_eq (gs_D kd i) 0 (fun z => A i ⟨h, Or.inl ⟨by omega, z⟩⟩) (fun z => ?_))
    rw [nI_clamp (show i < 2 ^ 31 by omega), k1]
    refine And.intro (vp_in_nI (by omega) (by decide)) (gy_ops k2 (nm_r (gx_am (by omega)) (nm_r (nI_1 i) (ih (i + 1) (by omega) ?_ (nI i)))))
    intro j hj
    by_cases c : j = i
    · rw [c]; omega
    · exact h j (by omega)
theorem gy_examine {post : Int32 → SY → Prop} (hd : gy_DR kd vl nm cnt y_ty y_kind y_with)
    (A : ∀ i, gs_FA kd cnt i → post 1 (y_parts, nI cnt, y_place, nI i, y_values, y_variables, y_waits, y_at, y_world, y_steps, y_blame, y_result, y_given, y_ty, y_part, y_kind, y_end, y_state, y_with, y_runKind, y_runEnd, y_runWith, y_sort, y_one, y_two, y_from, y_to, y_label, y_held, y_around, y_waiting, y_operand, y_outer, y_kept))
    (B : ∀ i e st r, gs_WF kd cnt → i < cnt → (gs_R kd vl nm cnt i).1 ≠ 0 → (gs_R kd vl nm cnt i).1 ≠ 4 → (∀ j, j < i → (gs_R kd vl nm cnt j).1 = 0 ∨ (gs_R kd vl nm cnt j).1 = 4) → (∀ q, 288 ≤ q → r q = y_ty q) → post (nI (gs_R kd vl nm cnt i).1) (y_parts, nI cnt, y_place, nI i, y_values, y_variables, y_waits, y_at, y_world, y_steps, y_blame, y_result, y_given, r, y_part, y_kind, e, st, y_with, y_runKind, y_runEnd, y_runWith, y_sort, y_one, y_two, y_from, y_to, y_label, y_held, y_around, y_waiting, y_operand, y_outer, y_kept))
    (C : ∀ e st r w, gs_WF kd cnt → (∀ j, j < cnt → (gs_R kd vl nm cnt j).1 = 0 ∨ (gs_R kd vl nm cnt j).1 = 4) → (∀ j, j < cnt → e j = nI (gs_en kd cnt j) ∧ ((gs_R kd vl nm cnt j).1 = 0 → gd_Sp r (gs_R kd vl nm cnt j).2 (8 * j))) → (∀ q, 288 ≤ q → r q = y_ty q) → post 0 (y_parts, nI cnt, y_place, w, y_values, y_variables, y_waits, y_at, y_world, y_steps, y_blame, y_result, y_given, r, y_part, y_kind, e, st, y_with, y_runKind, y_runEnd, y_runWith, y_sort, y_one, y_two, y_from, y_to, y_label, y_held, y_around, y_waiting, y_operand, y_outer, y_kept)) : wpY_examine post (y_parts, nI cnt, y_place, y_where, y_values, y_variables, y_waits, y_at, y_world, y_steps, y_blame, y_result, y_given, y_ty, y_part, y_kind, y_end, y_state, y_with, y_runKind, y_runEnd, y_runWith, y_sort, y_one, y_two, y_from, y_to, y_label, y_held, y_around, y_waiting, y_operand, y_outer, y_kept) := by
  refine Exists.intro (cnt + 1) (gy_ex4 hd A (fun W => Exists.intro (cnt + 1) ?_) cnt 0 (Nat.zero_add _) (fun j hj => absurd hj (Nat.not_lt_zero _)) y_where)
  exact gy_ex66 (y_where := nI cnt) W hd (fun i e st r => B i e st r W) (fun e st r w => C e st r w W) cnt (Nat.le_refl _) y_end y_state y_ty (fun j h1 h2 => by omega) (fun q _ => rfl)
end
