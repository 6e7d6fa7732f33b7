/-! ===== 23: unwinding and taking ===== -/
section
variable {y_parts y_count y_place y_where y_values y_variables y_waits y_at y_world y_steps y_blame y_result y_given : Int32} {y_ty y_part y_kind y_end y_state y_with y_runKind y_runEnd y_runWith y_sort y_one y_two y_from y_to y_label y_held y_around y_waiting y_operand y_outer y_kept : Nat → Int32}
variable {post : Int32 → SY → Prop}
theorem gy_cast_eq {post : Int32 → SY → Prop} {f t : Lean.RArray Nat} {i j : Nat} {v p : Int32} (hf : gd_TY f) (ht : gd_TY t) (e : gd_en f = gd_en t) (sf : gd_Sp y_ty f i) (st : gd_Sp y_ty t j) (ri : gy_RG i f) (rj : gy_RG j t) (P : post v (y_parts, y_count, y_place, y_where, y_values, y_variables, y_waits, y_at, y_world, y_steps, y_blame, y_result, y_given, y_ty, y_part, y_kind, y_end, y_state, y_with, y_runKind, y_runEnd, y_runWith, y_sort, y_one, y_two, y_from, y_to, y_label, y_held, y_around, y_waiting, y_operand, y_outer, y_kept)) : wpY_cast post (y_parts, y_count, y_place, y_where, y_values, y_variables, y_waits, y_at, y_world, y_steps, y_blame, y_result, y_given, y_ty, y_part, y_kind, y_end, y_state, y_with, y_runKind, y_runEnd, y_runWith, y_sort, y_one, y_two, y_from, y_to, y_label, y_held, y_around, y_waiting, y_operand, y_outer, y_kept) v (nI i) (nI j) p := by
  have zf := gd_sz_pos f
  have zt := gd_sz_pos t
  obtain ⟨ri1, ri2⟩ := ri
  obtain ⟨rj1, rj2⟩ := rj
  exact gy_same hf ht sf st (by omega) (by omega) (fun _ => br_f (show ¬ (1 : Int32) = 0 by decide) P) (fun z => absurd ((gy_en hf ht).mpr e) z)
/-- the cast of a frame, in the reference -/
theorem gy_fcast {post : Int32 → SY → Prop} {s : gm_S} {D : gy_D} {h v i j : Nat} {f t : Lean.RArray Nat} {p : Int} {out : gm_O} (H : gm_fc s h v f t p = some out) (hK : gy_K y_ty) (hf : gd_TY f) (ht : gd_TY t) (sf : gd_Sp y_ty f i) (st : gd_Sp y_ty t j) (ri : gy_RG i f) (rj : gy_RG j t) (hp : gm_PB p) (hH : gy_H y_ty s D)
    (K : out.1 = 0 → ∀ D', gy_H y_ty out.2.2.2 D' → gy_Sm D D' → post (nI out.2.1) (gy_Y y_parts y_count y_place y_where y_given y_ty y_part y_kind y_end y_state y_with y_runKind y_runEnd y_runWith D'))
    (B : out.1 ≠ 0 → ∀ x D', gy_E y_ty out D' → gy_Sm D D' → post x (gy_Y y_parts y_count y_place y_where y_given y_ty y_part y_kind y_end y_state y_with y_runKind y_runEnd y_runWith D')) : wpY_cast post (gy_Y y_parts y_count y_place y_where y_given y_ty y_part y_kind y_end y_state y_with y_runKind y_runEnd y_runWith D) (nI v) (nI i) (nI j) (gm_lb p) := by
  unfold gm_fc at H
  obtain ⟨y_values, y_variables, y_waits, y_at, y_world, y_steps, y_blame, y_result, y_sort, y_one, y_two, y_from, y_to, y_label, y_held, y_around, y_waiting, y_operand, y_outer, y_kept⟩ := D
  by_cases e : gd_en f = gd_en t
  · rw [if_pos e] at H
    injection H with H
    subst H
    exact gy_cast_eq hf ht e sf st ri rj (K rfl _ hH (gy_Sm_refl _))
  · rw [if_neg e] at H
    obtain ⟨_, H⟩ := gm_tick_e H
    have same := gm_cast_same H
    obtain ⟨h0, h1, h2, h3, h4, h5, h6, h7⟩ := hH
    refine gy_cast (s := gm_tk s) H h0 hK sf st ri rj hp ?_ ?_
    · intro w s' vs so o1 o2 fr to lb eo hH'
      subst eo
      obtain ⟨m1, m2, m3, m4⟩ := same
      refine K rfl (vs, y_variables, y_waits, y_at, y_world, y_steps, y_blame, y_result, so, o1, o2, fr, to, lb, y_held, y_around, y_waiting, y_operand, y_outer, y_kept) ⟨hH', ?_, ?_, ?_, ?_, ?_, h6, ?_⟩ ⟨rfl, rfl, rfl, rfl, fun _ => rfl⟩
      · rw [h1]
        exact congrArg (fun k => nI (k - 1)) m1.symm
      · show 1 ≤ gm_m s'
        rw [show gm_m s' = gm_m s from m1]; exact h2
      · show gm_m s' ≤ 64
        rw [show gm_m s' = gm_m s from m1]; exact h3
      · exact h4.trans (congrArg nI m3.symm)
      · show gm_T s' ≤ 40
        rw [show gm_T s' = gm_T s from m3]; exact h5
      · intro w' a b
        show y_held (w' - 1) = nI (gm_e s' w').1 ∧ y_around (w' - 1) = nI (gm_e s' w').2 - 1
        rw [show gm_e s' = gm_e s from m2]
        exact h7 w' a (by rw [← show gm_m s' = gm_m s from m1]; exact b)
    · intro eo
      subst eo
      exact B (show (4 : Nat) ≠ 0 by decide) _ (y_values, y_variables, y_waits, y_at, y_world, y_steps, gm_lb p, y_result, y_sort, y_one, y_two, y_from, y_to, y_label, y_held, y_around, y_waiting, y_operand, y_outer, y_kept) ⟨h4, fun _ => ⟨rfl, hp⟩, fun z => absurd (show (4 : Nat) = 5 from z) (by decide), h0, h1, h2, h3, h4, h5, rfl, h7⟩ ⟨rfl, rfl, rfl, rfl, fun _ => rfl⟩
theorem gy_un_step {R0 : Int32 → SY → Prop} {f8 part j h u c : Nat} {s : gm_S} {out : gm_O} {D : gy_D} (H : gm_fc s h u (gy_pt part (gm_cf (gm_h s c))) (gy_pt part (gm_ct (gm_h s c))) (gm_cp (gm_h s c)) = some out) (hw : gm_wlk s j f8 = c) (hc : ∀ i, i ≤ j → gm_wlk s i f8 < gm_n s ∧ (gm_ck (gm_h s (gm_wlk s i f8)) = 4 ∨ gm_ck (gm_h s (gm_wlk s i f8)) = 6)) (hp3 : part < 3) (j5 : j < 1000000) (hK : gy_K y_ty) (hH : gy_H y_ty s D)
    (K : out.1 = 0 → ∀ D', gy_H y_ty out.2.2.2 D' → gy_Sm D D' → gy_un R0 y_parts y_count y_place y_where y_given y_ty y_part y_kind y_end y_state y_with y_runKind y_runEnd y_runWith f8 part j out.2.1 D')
    (B : out.1 ≠ 0 → ∀ x D', gy_E y_ty out D' → gy_rs D' = gy_rs D → R0 x (gy_Y y_parts y_count y_place y_where y_given y_ty y_part y_kind y_end y_state y_with y_runKind y_runEnd y_runWith D')) : gy_un R0 y_parts y_count y_place y_where y_given y_ty y_part y_kind y_end y_state y_with y_runKind y_runEnd y_runWith f8 part (j + 1) u D := by
  obtain ⟨y_values, y_variables, y_waits, y_at, y_world, y_steps, y_blame, y_result, y_sort, y_one, y_two, y_from, y_to, y_label, y_held, y_around, y_waiting, y_operand, y_outer, y_kept⟩ := D
  intro n hn
  obtain ⟨n, rfl⟩ : ∃ k, n = k + 1 := ⟨n - 1, by omega⟩
  have hH0 := hH
  obtain ⟨h0, h1, h2, h3, h4, h5, h6, h7⟩ := hH
  obtain ⟨v0, v5, vc⟩ := h0
  subst h6
  refine br_f (nI_nle (by omega) (by omega)) (br_t rfl (Exists.intro (j + 1) ?_))
  have hcc : c < gm_n s ∧ (gm_ck (gm_h s c) = 4 ∨ gm_ck (gm_h s c) = 6) := by
    have := hc j (Nat.le_refl _)
    rw [hw] at this
    exact this
  refine gy_un_walk (s := s) v5 (fun x hx hk => ((vc x hx).2.2.2.2.2 hk).1) j5 ?_ j 1 f8 (by omega) (Nat.le_refl _) rfl hc ?_
  · intro c' hw' hlt
    have ec : c' = c := hw'.symm.trans hw
    subst ec
    obtain ⟨q1, q2, q3, q4, q5, i0, j0, q6, q7, q8, q9, q10, q11, k, a, b, a', b', ef, et⟩ := (vc c' hcc.1).2.2.2.2.2 hcc.2
    refine br_t (Int32.le_refl _) ?_
    have vin : vp_in (nI c') 5000 := vp_in_nI (by omega) (by decide)
    have zf := gd_sz_pos (gm_cf (gm_h s c'))
    have zt := gd_sz_pos (gm_ct (gm_h s c'))
    obtain ⟨g1, g2⟩ := id q10
    obtain ⟨g3, g4⟩ := id q11
    have fin : ∀ x y : Nat, gd_Sp y_ty (gy_pt part (gm_cf (gm_h s c'))) x → gy_RG x (gy_pt part (gm_cf (gm_h s c'))) → gd_Sp y_ty (gy_pt part (gm_ct (gm_h s c'))) y → gy_RG y (gy_pt part (gm_ct (gm_h s c'))) → gd_TY (gy_pt part (gm_cf (gm_h s c'))) → gd_TY (gy_pt part (gm_ct (gm_h s c'))) → wY_unwind_113 R0 (wY_unwind_6 R0 (nI f8) (nI part) n) (nI f8) (nI part) (nI u) (nI (j + 1)) (nI c') (nI x) (nI y) y_parts y_count y_place y_where y_values y_variables y_waits y_at y_world y_steps 0 y_result y_given y_ty y_part y_kind y_end y_state y_with y_runKind y_runEnd y_runWith y_sort y_one y_two y_from y_to y_label y_held y_around y_waiting y_operand y_outer y_kept := by
      intro x y sx rx sy ry tx ty'
      unfold wY_unwind_113
      rw [nI_clamp (show c' < 2 ^ 31 by omega), q2]
      refine And.intro vin ?_
      refine gy_fcast (D := (y_values, y_variables, y_waits, y_at, y_world, y_steps, 0, y_result, y_sort, y_one, y_two, y_from, y_to, y_label, y_held, y_around, y_waiting, y_operand, y_outer, y_kept)) H hK tx ty' sx sy rx ry q3 hH0 ?_ ?_
      · intro z D' hD' hS
        have k0 := K z D' hD' hS
        obtain ⟨y_values, y_variables, y_waits, y_at, y_world, y_steps, y_blame, y_result, y_sort, y_one, y_two, y_from, y_to, y_label, y_held, y_around, y_waiting, y_operand, y_outer, y_kept⟩ := D'
        exact nm_r (pk_m1 j) (k0 n (by omega))
      · intro z x' D' hE hS
        have b0 := B z x' D' hE hS.2.2.2.1
        have nb : ¬ gy_bl D' = 0 := by
          by_cases c4 : out.1 = 4
          · rw [(hE.2.1 c4).1]
            exact gm_lb_ne (hE.2.1 c4).2
          · exfalso
            exact gm_fc_code H z c4
        obtain ⟨y_values, y_variables, y_waits, y_at, y_world, y_steps, y_blame, y_result, y_sort, y_one, y_two, y_from, y_to, y_label, y_held, y_around, y_waiting, y_operand, y_outer, y_kept⟩ := D'
        obtain ⟨n, rfl⟩ : ∃ k, n = k + 1 := ⟨n - 1, by omega⟩
        exact nm_r (pk_m1 j) (br_c (fun _ => b0) (fun _ => br_f nb b0))
    have e1 : nI i0 + 1 = nI (i0 + 1) := nI_1 i0
    have e2 : nI j0 + 1 = nI (j0 + 1) := nI_1 j0
    have m2 : ∀ x : Nat, gd_Sp y_ty (gy_pt part (gm_cf (gm_h s c'))) x → gy_RG x (gy_pt part (gm_cf (gm_h s c'))) → gd_TY (gy_pt part (gm_cf (gm_h s c'))) → wY_unwind_80 R0 (wY_unwind_6 R0 (nI f8) (nI part) n) (nI f8) (nI part) (nI u) (nI (j + 1)) (nI c') (nI x) y_parts y_count y_place y_where y_values y_variables y_waits y_at y_world y_steps 0 y_result y_given y_ty y_part y_kind y_end y_state y_with y_runKind y_runEnd y_runWith y_sort y_one y_two y_from y_to y_label y_held y_around y_waiting y_operand y_outer y_kept := by
      intro x sx rx tx
      unfold wY_unwind_80
      rw [nI_clamp (show c' < 2 ^ 31 by omega), q7, e2]
      rw [et] at q9 q11 q5
      have l := gy_Sp_l q9 q11
      have r := gy_Sp_r q9 q11
      refine pk_eq part 1 (fun z => And.intro vin ?_) (fun z => And.intro vin ?_)
      · have ep : gy_pt part (gm_ct (gm_h s c')) = a' := by unfold gy_pt; rw [if_pos z, et]; rfl
        exact fin x (j0 + 1) sx rx (by rw [ep]; exact l.1) (by rw [ep]; exact l.2) tx (by rw [ep]; exact gd_TY_l q5)
      · have ep : gy_pt part (gm_ct (gm_h s c')) = b' := by unfold gy_pt; rw [if_neg z, et]; rfl
        refine gy_behind (gd_TY_l q5) l.1 (by have := l.2.2; omega) ?_
        exact fin x (j0 + 1 + gd_sz a') sx rx (by rw [ep]; exact r.1) (by rw [ep]; exact r.2) tx (by rw [ep]; exact gd_TY_r q5)
    rw [nI_clamp (show c' < 2 ^ 31 by omega), q6, e1]
    rw [ef] at q8 q10 q4
    have l := gy_Sp_l q8 q10
    have r := gy_Sp_r q8 q10
    refine pk_eq part 1 (fun z => And.intro vin ?_) (fun z => And.intro vin ?_)
    · have ep : gy_pt part (gm_cf (gm_h s c')) = a := by unfold gy_pt; rw [if_pos z, ef]; rfl
      exact m2 (i0 + 1) (by rw [ep]; exact l.1) (by rw [ep]; exact l.2) (by rw [ep]; exact gd_TY_l q4)
    · have ep : gy_pt part (gm_cf (gm_h s c')) = b := by unfold gy_pt; rw [if_neg z, ef]; rfl
      refine gy_behind (gd_TY_l q4) l.1 (by have := l.2.2; omega) ?_
      exact m2 (i0 + 1 + gd_sz a) (by rw [ep]; exact r.1) (by rw [ep]; exact r.2) (by rw [ep]; exact gd_TY_r q4)
  · intro i hi
    have := (hc (i + 1) (by omega)).1
    rw [gm_wlk_s] at this
    omega
end
