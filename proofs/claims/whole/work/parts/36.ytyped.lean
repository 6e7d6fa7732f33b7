/-! ===== 36: the reference's check: the type of a token ===== -/
section
variable {y_parts y_count y_place y_where y_values y_variables y_waits y_at y_world y_steps y_blame y_result y_given : Int32} {y_ty y_part y_kind y_end y_state y_with y_runKind y_runEnd y_runWith y_sort y_one y_two y_from y_to y_label y_held y_around y_waiting y_operand y_outer y_kept : Nat → Int32}
variable {kd : Nat → Nat} {vl : Nat → Int32} {nm : Nat → Lean.RArray Nat} {cnt : Nat}
theorem gy_typed {post : Int32 → SY → Prop} {i : Nat} (W : gs_WF kd cnt) (hd : gy_DR kd vl nm cnt y_ty y_kind y_with) (hi : i < cnt) (he : ∀ j, i < j → j < cnt → y_end j = nI (gs_en kd cnt j)) (ok : ∀ m, m < gs_ar (kd i) → (gs_R kd vl nm cnt (gs_op (gs_en kd cnt) i m)).1 = 0) (hsp : ∀ j, i < j → j < cnt → (gs_R kd vl nm cnt j).1 = 0 → gd_Sp y_ty (gs_R kd vl nm cnt j).2 (8 * j))
    (K : ∀ r, (∀ q, (q < 8 * i ∨ 8 * i + 8 ≤ q) → r q = y_ty q) → ((gs_R kd vl nm cnt i).1 = 0 → gd_Sp r (gs_R kd vl nm cnt i).2 (8 * i)) → post (nI (gs_R kd vl nm cnt i).1) (y_parts, y_count, y_place, y_where, y_values, y_variables, y_waits, y_at, y_world, y_steps, y_blame, y_result, y_given, r, y_part, y_kind, y_end, y_state, y_with, y_runKind, y_runEnd, y_runWith, y_sort, y_one, y_two, y_from, y_to, y_label, y_held, y_around, y_waiting, y_operand, y_outer, y_kept)) : wpY_typed post (y_parts, y_count, y_place, y_where, y_values, y_variables, y_waits, y_at, y_world, y_steps, y_blame, y_result, y_given, y_ty, y_part, y_kind, y_end, y_state, y_with, y_runKind, y_runEnd, y_runWith, y_sort, y_one, y_two, y_from, y_to, y_label, y_held, y_around, y_waiting, y_operand, y_outer, y_kept) (nI i) := by
  have hd0 := hd
  obtain ⟨c36, hn, hnm, hK, hk'⟩ := hd
  obtain ⟨k1, k2, k3, k4⟩ := hk' i hi
  have vin : vp_in (nI i) 36 := vp_in_nI (by omega) (by decide)
  have rho := gs_pr_rho (vl := vl) (nm := nm) W hi ok
  have a3 := gs_ar3 (kd i)
  have T := fun k => gs_t_TY (vl := vl) (nm := nm) W hn hi k
  have S : ∀ k, k < gs_ar (kd i) → gd_Sp y_ty (gs_t kd vl nm cnt i k) (8 * gs_op (gs_en kd cnt) i k) ∧ i < gs_op (gs_en kd cnt) i k ∧ gs_op (gs_en kd cnt) i k < cnt := by
    intro k hk
    have ol := gs_op_lt W hi hk
    rw [gs_t_k hk]
    exact ⟨hsp _ ol.1 ol.2 (ok k hk), ol⟩
  rw [rho] at K
  generalize ht0 : gs_t kd vl nm cnt i 0 = t0 at *
  generalize ht1 : gs_t kd vl nm cnt i 1 = t1 at *
  generalize ht2 : gs_t kd vl nm cnt i 2 = t2 at *
  have T0 : gd_TY t0 := ht0 ▸ T 0
  have T1 : gd_TY t1 := ht1 ▸ T 1
  have T2 : gd_TY t2 := ht2 ▸ T 2
  have S0 : 0 < gs_ar (kd i) → gd_Sp y_ty t0 (8 * (i + 1)) ∧ i + 1 < cnt := fun h => by
    have s := S 0 h
    rw [ht0] at s
    exact ⟨s.1, s.2.2⟩
  have S1 : 1 < gs_ar (kd i) → gd_Sp y_ty t1 (8 * gs_op (gs_en kd cnt) i 1) ∧ i < gs_op (gs_en kd cnt) i 1 ∧ gs_op (gs_en kd cnt) i 1 < cnt := fun h => ht1 ▸ S 1 h
  have S2 : 2 < gs_ar (kd i) → gd_Sp y_ty t2 (8 * gs_op (gs_en kd cnt) i 2) ∧ i < gs_op (gs_en kd cnt) i 2 ∧ gs_op (gs_en kd cnt) i 2 < cnt := fun h => ht2 ▸ S 2 h
  have keep : ∀ r : Nat → Int32, (∀ q, (q < 8 * i ∨ 8 * i + 7 ≤ q) → r q = y_ty q) → (∀ q, (q < 8 * i ∨ 8 * i + 8 ≤ q) → r q = y_ty q) := fun r h q hq => h q (by omega)
  have e2 : (8 : Int32) * (nI i + 1) = nI (8 * (i + 1)) := by rw [nI_1]; exact pk_mul 8 _
  have e3 : (8 : Int32) * nI i = nI (8 * i) := pk_mul 8 _
  have v8 : vp_in (nI (8 * i)) 700 := vp_in_nI (by omega) (by decide)
  have vval : kd i = 3 ∨ kd i = 11 → ∃ n, n < 10 ∧ vl i = nI n ∧ (vl i).toNatClampNeg = n := by
    intro c
    obtain ⟨n, a, b⟩ := k4 (by omega)
    exact ⟨n, a, b, by rw [b]; exact nI_clamp (by omega)⟩
  have enm : ∀ n, n < 10 → (288 : Int32) + 8 * nI n = nI (288 + 8 * n) := by
    intro n _
    rw [show (8 : Int32) * nI n = nI (8 * n) from pk_mul 8 _]
    exact nI_add 288 _
  /- a one-token type -/
  have one : ∀ (x : Nat) (R : SY → Prop), x < 3 → (∀ r, (∀ q, (q < 8 * i ∨ 8 * i + 8 ≤ q) → r q = y_ty q) → gd_Sp r (.leaf x) (8 * i) → R (y_parts, y_count, y_place, y_where, y_values, y_variables, y_waits, y_at, y_world, y_steps, y_blame, y_result, y_given, r, y_part, y_kind, y_end, y_state, y_with, y_runKind, y_runEnd, y_runWith, y_sort, y_one, y_two, y_from, y_to, y_label, y_held, y_around, y_waiting, y_operand, y_outer, y_kept)) → R (y_parts, y_count, y_place, y_where, y_values, y_variables, y_waits, y_at, y_world, y_steps, y_blame, y_result, y_given, upd y_ty (8 * i) (nI x), y_part, y_kind, y_end, y_state, y_with, y_runKind, y_runEnd, y_runWith, y_sort, y_one, y_two, y_from, y_to, y_label, y_held, y_around, y_waiting, y_operand, y_outer, y_kept) := by
    intro x R _ h
    exact h _ (fun q hq => pk_un (by omega)) pk_us
  have main : ∀ b : Nat, (1 < gs_ar (kd i) → b = gs_op (gs_en kd cnt) i 1) → wY_typed_38 post (nI i) (nI (8 * (i + 1))) (nI (8 * i)) (nI (8 * b)) y_parts y_count y_place y_where y_values y_variables y_waits y_at y_world y_steps y_blame y_result y_given y_ty y_part y_kind y_end y_state y_with y_runKind y_runEnd y_runWith y_sort y_one y_two y_from y_to y_label y_held y_around y_waiting y_operand y_outer y_kept := by
    intro b hb
    show vp_in (nI i) 36 ∧ _
    rw [nI_clamp (show i < 2 ^ 31 by omega), k1]
    refine And.intro vin (nm_e ?_)
    /- FIRST and SECOND -/
    have fs : kd i = 9 ∨ kd i = 10 → wY_typed_343 post (nI i) (nI (8 * (i + 1))) (nI (8 * i)) y_parts y_count y_place y_where y_values y_variables y_waits y_at y_world y_steps y_blame y_result y_given y_ty y_part y_kind y_end y_state y_with y_runKind y_runEnd y_runWith y_sort y_one y_two y_from y_to y_label y_held y_around y_waiting y_operand y_outer y_kept := by
      intro c
      obtain ⟨s0, i1⟩ := S0 (by rcases c with c | c <;> rw [c] <;> decide)
      have lt0 := gd_hd_lt T0.1
      have v0 : vp_in (nI (8 * (i + 1))) 700 := vp_in_nI (by omega) (by decide)
      have h0 : y_ty (nI (8 * (i + 1))).toNatClampNeg = nI (gd_hd t0) := by rw [nI_clamp (show 8 * (i + 1) < 2 ^ 31 by omega)]; exact gd_sp_hd s0
      rw [gs_typ9 c] at K
      have cp : ∀ (t : Lean.RArray Nat) (o : Nat), gd_TY t → gd_Sp y_ty t o → 8 * i + 8 ≤ o → o + 7 ≤ 700 → gs_typ nm (kd i) (vl i).toNatClampNeg (gs_col kd (fun j => (vl j).toNatClampNeg) (gs_en kd cnt) i i) t0 t1 t2 = (0, t) → wY_typed_403 post (nI (8 * i)) (nI o) y_parts y_count y_place y_where y_values y_variables y_waits y_at y_world y_steps y_blame y_result y_given y_ty y_part y_kind y_end y_state y_with y_runKind y_runEnd y_runWith y_sort y_one y_two y_from y_to y_label y_held y_around y_waiting y_operand y_outer y_kept := by
        intro t o tt so ho ho7 e
        rw [gs_typ9 c] at e
        rw [e] at K
        have z := tt.2
        exact gy_cp tt so ho7 (by omega) (by omega) (fun r sr or' => K r (fun q hq => or' q (by omega)) (fun _ => sr))
      unfold wY_typed_343
      rw [h0]
      have z0 := T0.2
      refine And.intro v0 (pk_eq (gd_hd t0) 2 (fun z => ?_) (fun z => And.intro v0 (pk_eq (gd_hd t0) 4 (fun z4 => ?_) (fun z4 => ?_))))
      · unfold wY_typed_365
        rw [h0]
        refine And.intro v0 (pk_eq (gd_hd t0) 2 (fun _ => ?_) (fun y => absurd z y))
        have et : t0 = .leaf 2 := by rw [gm_leaf_of T0.1 (by omega), z]
        exact cp t0 _ T0 s0 (by omega) (by omega) (by rw [gs_typ9 c, if_pos z, et])
      · unfold wY_typed_365
        rw [h0]
        refine And.intro v0 (pk_eq (gd_hd t0) 2 (fun y => absurd y z) (fun _ => ?_))
        have eb := gs_hd4 T0.1 z4
        have tb : gd_TY (.branch 4 (gd_lf t0) (gd_rt t0)) := eb ▸ T0
        have sb : gd_Sp y_ty (.branch 4 (gd_lf t0) (gd_rt t0)) (8 * (i + 1)) := eb ▸ s0
        have zb := tb.2
        simp only [gd_sz] at zb
        have zr := gd_sz_pos (gd_rt t0)
        rw [nI_clamp (show i < 2 ^ 31 by omega), k1, nI_1]
        refine And.intro vin (pk_eq (kd i) 9 (fun c9 => ?_) (fun c9 => ?_))
        · exact cp (gd_lf t0) _ (gd_TY_l tb) sb.2.1 (by omega) (by omega) (by rw [gs_typ9 c, if_neg z, if_pos z4, if_pos c9])
        · refine gy_behind (gd_TY_l tb) sb.2.1 (by omega) ?_
          exact cp (gd_rt t0) _ (gd_TY_r tb) sb.2.2 (by omega) (by omega) (by rw [gs_typ9 c, if_neg z, if_pos z4, if_neg c9])
      · rw [if_neg z, if_neg z4] at K
        exact K y_ty (fun q _ => rfl) (fun z => absurd (show (2 : Nat) = 0 from z) (by decide))
    /- ADD and LESS -/
    have al : ∀ x, (kd i = 6 ∧ x = 0) ∨ (kd i = 7 ∧ x = 1) → wY_typed_278 post (nI (8 * (i + 1))) (nI (8 * b)) (nI x) (nI (8 * i)) y_parts y_count y_place y_where y_values y_variables y_waits y_at y_world y_steps y_blame y_result y_given y_ty y_part y_kind y_end y_state y_with y_runKind y_runEnd y_runWith y_sort y_one y_two y_from y_to y_label y_held y_around y_waiting y_operand y_outer y_kept := by
      intro x c
      have ar2 : gs_ar (kd i) = 2 := by rcases c with c | c <;> rw [c.1] <;> rfl
      obtain ⟨s0, i1⟩ := S0 (by omega)
      obtain ⟨s1, i2, i3⟩ := S1 (by omega)
      have eb := hb (by omega)
      subst eb
      have et : gs_typ nm (kd i) (vl i).toNatClampNeg (gs_col kd (fun j => (vl j).toNatClampNeg) (gs_en kd cnt) i i) t0 t1 t2 = (if gd_cb t0 (.leaf 0) = true ∧ gd_cb t1 (.leaf 0) = true then 0 else 2, .leaf x) := by
        rcases c with c | c
        · rw [c.1, c.2]; rfl
        · rw [c.1, c.2]; rfl
      rw [et] at K
      have x3 : x < 3 := by omega
      unfold wY_typed_278
      rw [nI_clamp (show 8 * i < 2 ^ 31 by omega), gy_nb x (by omega)]
      refine And.intro v8 (nm_e ?_)
      have oth : ∀ q, (q < 8 * i ∨ 8 * i + 8 ≤ q) → upd y_ty (8 * i) (nI x) q = y_ty q := fun q hq => pk_un (by omega)
      have z0 := T0.2
      have z1 := T1.2
      have s0' : gd_Sp (upd y_ty (8 * i) (nI x)) t0 (8 * (i + 1)) := gd_sp_same s0 (fun k hk => oth _ (by omega))
      have s1' : gd_Sp (upd y_ty (8 * i) (nI x)) t1 (8 * gs_op (gs_en kd cnt) i 1) := gd_sp_same s1 (fun k hk => oth _ (by omega))
      have sI : gd_Sp (upd y_ty (8 * i) (nI x)) (.leaf 0) 368 := gd_sp_same (gy_K_0 hK) (fun k hk => oth _ (by omega))
      have L0 := gs_TY0 0 (by decide)
      refine gy_consistent (y_ty := upd y_ty (8 * i) (nI x)) T0 L0 s0' sI (by omega) (by decide) (fun z => br_f (show ¬ (1 : Int32) = 0 by decide) (gy_consistent (y_ty := upd y_ty (8 * i) (nI x)) T1 L0 s1' sI (by omega) (by decide) (fun z' => br_f (show ¬ (1 : Int32) = 0 by decide) ?_) (fun z' => br_t rfl ?_))) (fun z => br_t rfl ?_)
      · rw [if_pos ⟨z, z'⟩] at K
        exact K _ oth (fun _ => pk_us)
      · rw [if_neg (fun y => by rw [z'] at y; exact absurd y.2 (by decide))] at K
        exact K _ oth (fun y => absurd (show (2 : Nat) = 0 from y) (by decide))
      · rw [if_neg (fun y => by rw [z] at y; exact absurd y.1 (by decide))] at K
        exact K _ oth (fun y => absurd (show (2 : Nat) = 0 from y) (by decide))
    rcases gs_k12 k2 with c | c | c | c | c | c | c | c | c | c | c | c
    · rw [c] at K ⊢
      refine br_f (by decide) (br_f (by decide) (br_t rfl ?_))
      rw [nI_clamp (show 8 * i < 2 ^ 31 by omega)]
      exact And.intro v8 (nm_e (K _ (fun q hq => pk_un (by omega)) (fun _ => pk_us)))
    · rw [c] at K ⊢
      refine br_f (by decide) (br_f (by decide) (br_f (by decide) (br_t rfl ?_)))
      rw [nI_clamp (show 8 * i < 2 ^ 31 by omega)]
      exact And.intro v8 (nm_e (K _ (fun q hq => pk_un (by omega)) (fun _ => pk_us)))
    · obtain ⟨n, n10', en⟩ := k4 (Or.inl c)
      have ecl : (vl i).toNatClampNeg = n := by rw [en]; exact nI_clamp (by omega)
      rw [c, ecl] at K
      rw [c]
      refine br_f (by decide) (br_f (by decide) (br_f (by decide) (br_f (by decide) (br_t rfl ?_))))
      rw [k3, en]
      refine And.intro vin (nm_e (Exists.intro (i + 1) (gy_la_l W hd0 hi i (Nat.le_refl _) n (by omega) ?_ ?_)))
      · intro n' e' n'10
        have tn := hn n'
        have zn := tn.2
        have sn := hnm n' n'10
        refine br_f (nI_pos (by omega)) ?_
        rw [enm n' n'10]
        refine gy_cp tn sn (by omega) (by omega) (by omega) (fun r sr or' => br_t (nI_pos' (by omega)) ?_)
        have kk := K r (fun q hq => or' q (by omega))
        change ((gs_var nm _).1 = 0 → gd_Sp r (gs_var nm _).2 (8 * i)) → post (nI (gs_var nm _).1) _ at kk
        rw [e'] at kk
        exact kk (fun _ => sr)
      · intro e'
        refine br_t (by decide) (br_f (by decide) ?_)
        have kk := K y_ty (fun q _ => rfl)
        change ((gs_var nm _).1 = 0 → gd_Sp y_ty (gs_var nm _).2 (8 * i)) → post (nI (gs_var nm _).1) _ at kk
        rw [e'] at kk
        exact kk (fun z => absurd (show (2 : Nat) = 0 from z) (by decide))
    · obtain ⟨n, n10', en, ecl⟩ := vval (Or.inl c)
      obtain ⟨s0, i1⟩ := S0 (by rw [c]; decide)
      have et : gs_typ nm (kd i) (vl i).toNatClampNeg (gs_col kd (fun j => (vl j).toNatClampNeg) (gs_en kd cnt) i i) t0 t1 t2 = gs_cmp 3 (nm n) t0 := by rw [c, ecl]; rfl
      rw [et] at K
      unfold gs_cmp at K
      rw [c]
      refine br_f (by decide) (br_f (by decide) (br_f (by decide) (br_f (by decide) (br_f (by decide) (br_t rfl ?_)))))
      rw [k3, en, enm n n10']
      refine And.intro vin (gy_compound (h := 3) (Or.inl rfl) (hn n) T0 (hnm n n10') s0 (by omega) (by omega) (by omega) (by omega) (fun z r sr or' => ?_) (fun z => ?_))
      · rw [if_pos z] at K
        exact K r or' (fun _ => sr)
      · rw [if_neg z] at K
        exact K y_ty (fun q _ => rfl) (fun y => absurd (show (3 : Nat) = 0 from y) (by decide))
    · obtain ⟨s0, i1⟩ := S0 (by rw [c]; decide)
      obtain ⟨s1, i2, i3⟩ := S1 (by rw [c]; decide)
      have eb := hb (by rw [c]; decide)
      subst eb
      have lt0 := gd_hd_lt T0.1
      have z0 := T0.2
      have z1 := T1.2
      have v0 : vp_in (nI (8 * (i + 1))) 700 := vp_in_nI (by omega) (by decide)
      have h0 : y_ty (nI (8 * (i + 1))).toNatClampNeg = nI (gd_hd t0) := by rw [nI_clamp (show 8 * (i + 1) < 2 ^ 31 by omega)]; exact gd_sp_hd s0
      have et : gs_typ nm (kd i) (vl i).toNatClampNeg (gs_col kd (fun j => (vl j).toNatClampNeg) (gs_en kd cnt) i i) t0 t1 t2 = (if gd_hd t0 = 2 then (0, .leaf 2) else if gd_hd t0 = 3 then (if gd_cb t1 (gd_lf t0) = true then 0 else 2, gd_rt t0) else (2, .leaf 0)) := by rw [c]; exact gs_typ4
      rw [et] at K
      rw [c]
      refine br_f (by decide) (br_f (by decide) (br_f (by decide) (br_f (by decide) (br_f (by decide) (br_f (by decide) (br_t rfl ?_))))))
      have ap43 : ∀ (t : Lean.RArray Nat) (o : Nat), gd_TY t → gd_Sp y_ty t o → 8 * i + 8 ≤ o → o + 7 ≤ 700 → (gd_hd t0 = 2 ∧ t = .leaf 2 ∨ gd_hd t0 = 3 ∧ t = gd_rt t0) → wY_applied_43 post (nI (8 * (i + 1))) (nI (8 * gs_op (gs_en kd cnt) i 1)) (nI (8 * i)) (nI o) y_parts y_count y_place y_where y_values y_variables y_waits y_at y_world y_steps y_blame y_result y_given y_ty y_part y_kind y_end y_state y_with y_runKind y_runEnd y_runWith y_sort y_one y_two y_from y_to y_label y_held y_around y_waiting y_operand y_outer y_kept := by
        intro t o tt so ho ho7 ht
        have zt := tt.2
        refine gy_cp tt so ho7 (by omega) (by omega) (fun r sr or' => ?_)
        have oth : ∀ q, (q < 8 * i ∨ 8 * i + 8 ≤ q) → r q = y_ty q := fun q hq => or' q (by omega)
        have s0' : gd_Sp r t0 (8 * (i + 1)) := gd_sp_same s0 (fun k hk => oth _ (by omega))
        have s1' : gd_Sp r t1 (8 * gs_op (gs_en kd cnt) i 1) := gd_sp_same s1 (fun k hk => oth _ (by omega))
        dsimp only
        rw [nI_clamp (show 8 * (i + 1) < 2 ^ 31 by omega), gd_sp_hd s0']
        refine And.intro v0 (pk_eq (gd_hd t0) 2 (fun z => ?_) (fun z => ?_))
        · rw [if_pos z] at K
          rcases ht with ht | ht
          · exact K r oth (fun _ => ht.2 ▸ sr)
          · omega
        · rw [if_neg z] at K
          rcases ht with ht | ht
          · exact absurd ht.1 z
          · rw [if_pos ht.1] at K
            have eb := gs_hd3 T0.1 ht.1
            have tb : gd_TY (.branch 3 (gd_lf t0) (gd_rt t0)) := eb ▸ T0
            have sb : gd_Sp r (.branch 3 (gd_lf t0) (gd_rt t0)) (8 * (i + 1)) := eb ▸ s0'
            rw [nI_1]
            refine gy_consistent (y_ty := r) T1 (gd_TY_l tb) s1' sb.2.1 (by omega) (by omega) (fun z' => br_f (show ¬ (1 : Int32) = 0 by decide) ?_) (fun z' => br_t rfl ?_)
            · rw [if_pos z'] at K
              exact K r oth (fun _ => ht.2 ▸ sr)
            · rw [if_neg (by rw [z']; decide)] at K
              exact K r oth (fun y => absurd (show (2 : Nat) = 0 from y) (by decide))
      have ap22 : gd_hd t0 = 2 ∨ gd_hd t0 = 3 → wY_applied_22 post (nI (8 * (i + 1))) (nI (8 * gs_op (gs_en kd cnt) i 1)) (nI (8 * i)) y_parts y_count y_place y_where y_values y_variables y_waits y_at y_world y_steps y_blame y_result y_given y_ty y_part y_kind y_end y_state y_with y_runKind y_runEnd y_runWith y_sort y_one y_two y_from y_to y_label y_held y_around y_waiting y_operand y_outer y_kept := by
        intro h23
        unfold wY_applied_22
        rw [h0]
        refine And.intro v0 (pk_eq (gd_hd t0) 2 (fun z => ?_) (fun z => ?_))
        · have e2' : t0 = .leaf 2 := by rw [gm_leaf_of T0.1 (by omega), z]
          exact ap43 t0 _ T0 s0 (by omega) (by omega) (Or.inl ⟨z, e2'⟩)
        · have h3 := h23.resolve_left z
          have eb := gs_hd3 T0.1 h3
          have tb : gd_TY (.branch 3 (gd_lf t0) (gd_rt t0)) := eb ▸ T0
          have sb : gd_Sp y_ty (.branch 3 (gd_lf t0) (gd_rt t0)) (8 * (i + 1)) := eb ▸ s0
          have zb := tb.2
          simp only [gd_sz] at zb
          have zr := gd_sz_pos (gd_rt t0)
          rw [nI_1]
          refine gy_behind (gd_TY_l tb) sb.2.1 (by omega) ?_
          exact ap43 (gd_rt t0) _ (gd_TY_r tb) sb.2.2 (by omega) (by omega) (Or.inr ⟨h3, rfl⟩)
      show vp_in (nI (8 * (i + 1))) 700 ∧ _
      rw [h0]
      refine And.intro v0 (pk_eq (gd_hd t0) 2 (fun z => ap22 (Or.inl z)) (fun z => And.intro v0 (pk_eq (gd_hd t0) 3 (fun z3 => ap22 (Or.inr z3)) (fun z3 => ?_))))
      rw [if_neg z, if_neg z3] at K
      exact K y_ty (fun q _ => rfl) (fun y => absurd (show (2 : Nat) = 0 from y) (by decide))
    · obtain ⟨s0, i1⟩ := S0 (by rw [c]; decide)
      obtain ⟨s1, i2, i3⟩ := S1 (by rw [c]; decide)
      obtain ⟨s2, i4, i5⟩ := S2 (by rw [c]; decide)
      have eb := hb (by rw [c]; decide)
      subst eb
      have z0 := T0.2
      have z1 := T1.2
      have z2 := T2.2
      have L1 := gs_TY0 1 (by decide)
      have et : gs_typ nm (kd i) (vl i).toNatClampNeg (gs_col kd (fun j => (vl j).toNatClampNeg) (gs_en kd cnt) i i) t0 t1 t2 = (if gd_cb t0 (.leaf 1) = true ∧ gd_cb t2 t1 = true then 0 else 2, t1) := by rw [c]; rfl
      rw [et] at K
      have c5 := c
      rw [c]
      refine br_f (by decide) (br_f (by decide) (br_f (by decide) (br_f (by decide) (br_f (by decide) (br_f (by decide) (br_f (by decide) (br_t rfl (gy_opd (K := 2) W c36 hi (by rw [c5]; decide) he (nm_r (pk_mul 8 _) ?_)))))))))
      refine gy_cp T1 s1 (by omega) (by omega) (by omega) (fun r sr or' => ?_)
      have oth : ∀ q, (q < 8 * i ∨ 8 * i + 8 ≤ q) → r q = y_ty q := fun q hq => or' q (by omega)
      have s0' : gd_Sp r t0 (8 * (i + 1)) := gd_sp_same s0 (fun k hk => oth _ (by omega))
      have s1' : gd_Sp r t1 (8 * gs_op (gs_en kd cnt) i 1) := gd_sp_same s1 (fun k hk => oth _ (by omega))
      have s2' : gd_Sp r t2 (8 * gs_op (gs_en kd cnt) i 2) := gd_sp_same s2 (fun k hk => oth _ (by omega))
      have sB : gd_Sp r (.leaf 1) 369 := gd_sp_same (gy_K_1 hK) (fun k hk => oth _ (by omega))
      refine gy_consistent (y_ty := r) T0 L1 s0' sB (by omega) (by decide) (fun z => br_f (show ¬ (1 : Int32) = 0 by decide) (gy_consistent (y_ty := r) T2 T1 s2' s1' (by omega) (by omega) (fun z' => br_f (show ¬ (1 : Int32) = 0 by decide) ?_) (fun z' => br_t rfl ?_))) (fun z => br_t rfl ?_)
      · rw [if_pos ⟨z, z'⟩] at K
        exact K r oth (fun _ => sr)
      · rw [if_neg (fun y => by rw [z'] at y; exact absurd y.2 (by decide))] at K
        exact K r oth (fun y => absurd (show (2 : Nat) = 0 from y) (by decide))
      · rw [if_neg (fun y => by rw [z] at y; exact absurd y.1 (by decide))] at K
        exact K r oth (fun y => absurd (show (2 : Nat) = 0 from y) (by decide))
    · have a := al 0 (Or.inl ⟨c, rfl⟩)
      rw [c]
      refine br_f (by decide) (br_f (by decide) (br_f (by decide) (br_f (by decide) (br_f (by decide) (br_f (by decide) (br_f (by decide) (br_f (by decide) (br_t rfl ?_))))))))
      show vp_in (nI i) 36 ∧ _
      rw [nI_clamp (show i < 2 ^ 31 by omega), k1, c]
      exact And.intro vin (br_t rfl a)
    · have a := al 1 (Or.inr ⟨c, rfl⟩)
      rw [c]
      refine br_f (by decide) (br_f (by decide) (br_f (by decide) (br_f (by decide) (br_f (by decide) (br_f (by decide) (br_f (by decide) (br_f (by decide) (br_f (by decide) (br_t rfl ?_)))))))))
      show vp_in (nI i) 36 ∧ _
      rw [nI_clamp (show i < 2 ^ 31 by omega), k1, c]
      exact And.intro vin (br_f (by decide) a)
    · obtain ⟨s0, i1⟩ := S0 (by rw [c]; decide)
      obtain ⟨s1, i2, i3⟩ := S1 (by rw [c]; decide)
      have eb := hb (by rw [c]; decide)
      subst eb
      have et : gs_typ nm (kd i) (vl i).toNatClampNeg (gs_col kd (fun j => (vl j).toNatClampNeg) (gs_en kd cnt) i i) t0 t1 t2 = gs_cmp 4 t0 t1 := by rw [c]; rfl
      rw [et] at K
      unfold gs_cmp at K
      rw [c]
      refine br_f (by decide) (br_f (by decide) (br_f (by decide) (br_f (by decide) (br_f (by decide) (br_f (by decide) (br_f (by decide) (br_f (by decide) (br_f (by decide) (br_f (by decide) (br_t rfl ?_))))))))))
      refine gy_compound (h := 4) (Or.inr rfl) T0 T1 s0 s1 (by omega) (by omega) (by omega) (by omega) (fun z r sr or' => ?_) (fun z => ?_)
      · rw [if_pos z] at K
        exact K r or' (fun _ => sr)
      · rw [if_neg z] at K
        exact K y_ty (fun q _ => rfl) (fun y => absurd (show (3 : Nat) = 0 from y) (by decide))
    · have a := fs (Or.inl c)
      rw [c]
      exact br_f (by decide) (br_f (by decide) (br_f (by decide) (br_f (by decide) (br_f (by decide) (br_f (by decide) (br_f (by decide) (br_f (by decide) (br_f (by decide) (br_f (by decide) (br_f (by decide) (br_t rfl a)))))))))))
    · have a := fs (Or.inr c)
      rw [c]
      exact br_f (by decide) (br_f (by decide) (br_f (by decide) (br_f (by decide) (br_f (by decide) (br_f (by decide) (br_f (by decide) (br_f (by decide) (br_f (by decide) (br_f (by decide) (br_f (by decide) (br_f (by decide) (br_t rfl a))))))))))))
    · obtain ⟨n, n10', en, ecl⟩ := vval (Or.inr c)
      obtain ⟨s0, i1⟩ := S0 (by rw [c]; decide)
      have tn := hn n
      have zn := tn.2
      have z0 := T0.2
      have sn := hnm n n10'
      have et : gs_typ nm (kd i) (vl i).toNatClampNeg (gs_col kd (fun j => (vl j).toNatClampNeg) (gs_en kd cnt) i i) t0 t1 t2 = (if gd_cb t0 (nm n) = true then 0 else 2, nm n) := by rw [c, ecl]; rfl
      rw [et] at K
      rw [c]
      refine br_f (by decide) (br_f (by decide) (br_f (by decide) (br_f (by decide) (br_f (by decide) (br_f (by decide) (br_f (by decide) (br_f (by decide) (br_f (by decide) (br_f (by decide) (br_f (by decide) (br_f (by decide) (br_f (by decide) (br_t rfl ?_)))))))))))))
      rw [k3, en, enm n n10']
      refine And.intro vin (gy_cp tn sn (by omega) (by omega) (by omega) (fun r sr or' => ?_))
      have oth : ∀ q, (q < 8 * i ∨ 8 * i + 8 ≤ q) → r q = y_ty q := fun q hq => or' q (by omega)
      have s0' : gd_Sp r t0 (8 * (i + 1)) := gd_sp_same s0 (fun k hk => oth _ (by omega))
      refine gy_consistent (y_ty := r) T0 tn s0' sr (by omega) (by omega) (fun z => br_f (show ¬ (1 : Int32) = 0 by decide) ?_) (fun z => br_t rfl ?_)
      · rw [if_pos z] at K
        exact K r oth (fun _ => sr)
      · rw [if_neg (by rw [z]; decide)] at K
        exact K r oth (fun y => absurd (show (2 : Nat) = 0 from y) (by decide))
  refine nm_r e2 (nm_r e3 ?_)
  rw [nI_clamp (show i < 2 ^ 31 by omega), k1]
  refine And.intro vin (gy_ops k2 (pk_le (gs_ar (kd i)) 1 (fun z => main 0 (fun y => absurd y (by omega))) (fun z => gy_opd (K := 1) W c36 hi z he ?_)))
  rw [show (8 : Int32) * nI (gs_op (gs_en kd cnt) i 1) = nI (8 * gs_op (gs_en kd cnt) i 1) from pk_mul 8 _]
  exact main _ (fun _ => rfl)
end
