/-! ===== 20: the reference's casts ===== -/
/-- the types that are spelled once for all -/
def gy_K (ty : Nat → Int32) : Prop := ty 368 = 0 ∧ ty 369 = 1 ∧ ty 370 = 2 ∧ ty 371 = 3 ∧ ty 372 = 2 ∧ ty 373 = 2 ∧ ty 374 = 4 ∧ ty 375 = 2 ∧ ty 376 = 2
theorem gy_K_0 {ty : Nat → Int32} (h : gy_K ty) : gd_Sp ty (.leaf 0) 368 := h.1
theorem gy_K_1 {ty : Nat → Int32} (h : gy_K ty) : gd_Sp ty (.leaf 1) 369 := h.2.1
theorem gy_K_2 {ty : Nat → Int32} (h : gy_K ty) : gd_Sp ty (.leaf 2) 370 := h.2.2.1
theorem gy_K_3 {ty : Nat → Int32} (h : gy_K ty) : gd_Sp ty (.branch 3 (.leaf 2) (.leaf 2)) 371 := ⟨h.2.2.2.1, h.2.2.2.2.1, h.2.2.2.2.2.1⟩
theorem gy_K_4 {ty : Nat → Int32} (h : gy_K ty) : gd_Sp ty (.branch 4 (.leaf 2) (.leaf 2)) 374 := ⟨h.2.2.2.2.2.2.1, h.2.2.2.2.2.2.2.1, h.2.2.2.2.2.2.2.2⟩
/-- where the tag's type is spelled -/
def gy_g (t : Lean.RArray Nat) : Nat := if gd_hd t = 3 then 371 else 374
theorem gy_g_ok {ty : Nat → Int32} (h : gy_K ty) {t : Lean.RArray Nat} (h3 : gd_hd t = 3 ∨ gd_hd t = 4) : gd_Sp ty (gd_G t) (gy_g t) ∧ gy_RG (gy_g t) (gd_G t) ∧ gd_TY (gd_G t) := by
  unfold gd_G gy_g gy_RG
  rcases h3 with c | c
  · rw [if_pos c, if_pos c]
    exact ⟨gy_K_3 h, by decide, ⟨⟨Or.inl rfl, by simp [gd_vt], by simp [gd_vt]⟩, by decide⟩⟩
  · rw [if_neg (by omega), if_pos c, if_neg (by omega)]
    exact ⟨gy_K_4 h, by decide, ⟨⟨Or.inr rfl, by simp [gd_vt], by simp [gd_vt]⟩, by decide⟩⟩
theorem gy_en {f t : Lean.RArray Nat} (hf : gd_TY f) (ht : gd_TY t) : f = t ↔ gd_en f = gd_en t := ⟨fun z => by rw [z], gd_en_inj hf.1 ht.1⟩
section
variable {y_parts y_count y_place y_where y_values y_variables y_waits y_at y_world y_steps y_blame y_result y_given : Int32} {y_ty y_part y_kind y_end y_state y_with y_runKind y_runEnd y_runWith y_sort y_one y_two y_from y_to y_label y_held y_around y_waiting y_operand y_outer y_kept : Nat → Int32}
theorem gy_cast_88 {post : Int32 → SY → Prop} {f : Lean.RArray Nat} {i w : Nat} (hf : gd_TY f) (f2 : gd_hd f ≠ 2) (sf : gd_Sp y_ty f i) (ri : gy_RG i f) (P : post (nI (w + gm_tag f)) (y_parts, y_count, y_place, y_where, y_values, y_variables, y_waits, y_at, y_world, y_steps, y_blame, y_result, y_given, y_ty, y_part, y_kind, y_end, y_state, y_with, y_runKind, y_runEnd, y_runWith, y_sort, y_one, y_two, y_from, y_to, y_label, y_held, y_around, y_waiting, y_operand, y_outer, y_kept)) : wY_cast_88 post (nI i) (nI w) y_parts y_count y_place y_where y_values y_variables y_waits y_at y_world y_steps y_blame y_result y_given y_ty y_part y_kind y_end y_state y_with y_runKind y_runEnd y_runWith y_sort y_one y_two y_from y_to y_label y_held y_around y_waiting y_operand y_outer y_kept := by
  have z := gd_sz_pos f
  have lt := gd_hd_lt hf.1
  obtain ⟨r1, r2⟩ := ri
  have vin : vp_in (nI i) 700 := vp_in_nI (by omega) (by decide)
  unfold wY_cast_88
  rw [nI_clamp (show i < 2 ^ 31 by omega), gd_sp_hd sf]
  refine And.intro vin (pk_le 2 (gd_hd f) (fun c => And.intro vin ?_) (fun c => And.intro vin ?_))
  · rw [nI_add]
    unfold gm_tag at P
    rw [if_neg (by omega)] at P
    exact P
  · rw [show (1 : Int32) + nI (gd_hd f) = nI (1 + gd_hd f) from nI_add 1 _, nI_add]
    unfold gm_tag at P
    rw [if_pos c] at P
    exact P
theorem gy_cast {post : Int32 → SY → Prop} {s : gm_S} {v : Nat} {f t : Lean.RArray Nat} {p : Int} {out : gm_O} {i j : Nat} (H : gm_cast s v f t p = some out) (hH : gy_H0 y_ty s y_values y_sort y_one y_two y_from y_to y_label) (hK : gy_K y_ty) (sf : gd_Sp y_ty f i) (st : gd_Sp y_ty t j) (ri : gy_RG i f) (rj : gy_RG j t) (hp : gm_PB p)
    (K : ∀ w s' vs so o1 o2 fr to lb, out = (0, w, 0, s') → gy_H0 y_ty s' vs so o1 o2 fr to lb → post (nI w) (y_parts, y_count, y_place, y_where, vs, y_variables, y_waits, y_at, y_world, y_steps, y_blame, y_result, y_given, y_ty, y_part, y_kind, y_end, y_state, y_with, y_runKind, y_runEnd, y_runWith, so, o1, o2, fr, to, lb, y_held, y_around, y_waiting, y_operand, y_outer, y_kept))
    (B : out = (4, v, p, s) → post (nI v) (y_parts, y_count, y_place, y_where, y_values, y_variables, y_waits, y_at, y_world, y_steps, gm_lb p, y_result, y_given, y_ty, y_part, y_kind, y_end, y_state, y_with, y_runKind, y_runEnd, y_runWith, y_sort, y_one, y_two, y_from, y_to, y_label, y_held, y_around, y_waiting, y_operand, y_outer, y_kept)) :
    wpY_cast post (y_parts, y_count, y_place, y_where, y_values, y_variables, y_waits, y_at, y_world, y_steps, y_blame, y_result, y_given, y_ty, y_part, y_kind, y_end, y_state, y_with, y_runKind, y_runEnd, y_runWith, y_sort, y_one, y_two, y_from, y_to, y_label, y_held, y_around, y_waiting, y_operand, y_outer, y_kept) (nI v) (nI i) (nI j) (gm_lb p) := by
  obtain ⟨wk, hf, ht, H⟩ := gm_cast_e H
  obtain ⟨hv, w2, wn⟩ := wk
  have h5 := hH.2.1
  have zf := gd_sz_pos f
  have zt := gd_sz_pos t
  have ltf := gd_hd_lt hf.1
  have ltt := gd_hd_lt ht.1
  have ri' := ri
  have rj' := rj
  obtain ⟨ri1, ri2⟩ := ri'
  obtain ⟨rj1, rj2⟩ := rj'
  have vini : vp_in (nI i) 700 := vp_in_nI (by omega) (by decide)
  have vinj : vp_in (nI j) 700 := vp_in_nI (by omega) (by decide)
  refine gy_same hf ht sf st (by omega) (by omega) (fun e => ?_) (fun e => ?_)
  · rw [if_pos ((gy_en hf ht).mp e)] at H
    injection H with H
    exact br_f (show ¬ (1 : Int32) = 0 by decide) (K v s _ _ _ _ _ _ _ H.symm hH)
  have ne : gd_en f ≠ gd_en t := fun z => e ((gy_en hf ht).mpr z)
  rw [if_neg ne] at H
  refine br_t rfl ?_
  rw [nI_clamp (show j < 2 ^ 31 by omega), nI_clamp (show i < 2 ^ 31 by omega), gd_sp_hd st, gd_sp_hd sf]
  refine And.intro vinj (pk_eq (gd_hd t) 2 (fun t2 => ?_) (fun t2 => ?_))
  · rw [if_pos t2] at H
    have f2 : gd_hd f ≠ 2 := fun z => e (by rw [gm_leaf_of hf.1 (by omega), gm_leaf_of ht.1 (by omega), z, t2])
    have main : ∀ g, (gd_hd f = 3 ∨ gd_hd f = 4 → g = gy_g f) → wY_cast_40 post (nI v) (nI i) (gm_lb p) (nI g) y_parts y_count y_place y_where y_values y_variables y_waits y_at y_world y_steps y_blame y_result y_given y_ty y_part y_kind y_end y_state y_with y_runKind y_runEnd y_runWith y_sort y_one y_two y_from y_to y_label y_held y_around y_waiting y_operand y_outer y_kept := by
      intro g hg
      unfold wY_cast_40
      rw [nI_clamp (show i < 2 ^ 31 by omega), gd_sp_hd sf]
      refine And.intro vini (pk_lt (gd_hd f) 2 (fun l2 => ?_) (fun l2 => ?_))
      · refine br_f (show ¬ (1 : Int32) = 0 by decide) (gy_cast_88 hf f2 sf ri ?_)
        unfold gm_wr at H
        rw [if_pos (by rw [gm_G_leaf hf.1 (by omega)])] at H
        injection H with H
        exact K (v + gm_tag f) s _ _ _ _ _ _ _ H.symm hH
      · have h34 : gd_hd f = 3 ∨ gd_hd f = 4 := by omega
        obtain ⟨sg, rg, tg⟩ := gy_g_ok hK h34
        have eg := hg h34
        subst eg
        have rg' := rg
        obtain ⟨rg1, rg2⟩ := rg'
        have zg := gd_sz_pos (gd_G f)
        refine gy_same hf tg sf sg (by omega) (by omega) (fun e2 => ?_) (fun e2 => ?_)
        · refine br_f (show ¬ (1 : Int32) = 0 by decide) (br_f (show ¬ (1 : Int32) = 0 by decide) (gy_cast_88 hf f2 sf ri ?_))
          unfold gm_wr at H
          rw [if_pos ((gy_en hf tg).mp e2)] at H
          injection H with H
          exact K (v + gm_tag f) s _ _ _ _ _ _ _ H.symm hH
        · refine br_t rfl (br_t rfl (gy_wrapped H (fun z => e2 ((gy_en hf tg).mpr z)) hH hf tg sf sg ri rg hp ?_))
          intro w s' vs so o1 o2 fr to lb eo hm hw hH'
          exact gy_cast_88 hf f2 sf ri (K (w + gm_tag f) s' vs so o1 o2 fr to lb eo hH')
    refine And.intro vini (pk_eq (gd_hd f) 3 (fun c => main 371 (fun _ => ?_)) (fun c => main 374 (fun _ => ?_)))
    · unfold gy_g; rw [if_pos c]
    · unfold gy_g; rw [if_neg c]
  rw [if_neg t2] at H
  refine And.intro vini (pk_eq (gd_hd f) 2 (fun f2 => ?_) (fun f2 => ?_))
  · rw [if_pos f2] at H
    have tl := gm_tag_lt ht.1
    have main : wY_cast_168 post (nI v) (nI j) (gm_lb p) (nI (gm_tag t)) y_parts y_count y_place y_where y_values y_variables y_waits y_at y_world y_steps y_blame y_result y_given y_ty y_part y_kind y_end y_state y_with y_runKind y_runEnd y_runWith y_sort y_one y_two y_from y_to y_label y_held y_around y_waiting y_operand y_outer y_kept := by
      unfold wY_cast_168
      rw [gy_and7 (show v / 8 < 5001 by omega)]
      refine pk_eq (v % 8) (gm_tag t) (fun c => ?_) (fun c => ?_)
      · rw [if_pos c] at H
        rw [nI_clamp (show j < 2 ^ 31 by omega), gd_sp_hd st]
        refine And.intro vinj ?_
        have m2 : ∀ g, (gd_hd t = 3 ∨ gd_hd t = 4 → g = gy_g t) → wY_cast_206 post (nI v) (nI j) (gm_lb p) (nI (gm_tag t)) (nI g) y_parts y_count y_place y_where y_values y_variables y_waits y_at y_world y_steps y_blame y_result y_given y_ty y_part y_kind y_end y_state y_with y_runKind y_runEnd y_runWith y_sort y_one y_two y_from y_to y_label y_held y_around y_waiting y_operand y_outer y_kept := by
          intro g hg
          refine nm_r (pk_sub (by omega)) ?_
          rw [nI_clamp (show j < 2 ^ 31 by omega), gd_sp_hd st]
          refine And.intro vinj (pk_lt (gd_hd t) 2 (fun l2 => ?_) (fun l2 => ?_))
          · unfold gm_wr at H
            rw [if_pos (by rw [gm_G_leaf ht.1 (by omega)])] at H
            injection H with H
            exact K (v - gm_tag t) s _ _ _ _ _ _ _ H.symm hH
          · have h34 : gd_hd t = 3 ∨ gd_hd t = 4 := by omega
            obtain ⟨sg, rg, tg⟩ := gy_g_ok hK h34
            have eg := hg h34
            subst eg
            have rg' := rg
            obtain ⟨rg1, rg2⟩ := rg'
            have zg := gd_sz_pos (gd_G t)
            refine gy_same tg ht sg st (by omega) (by omega) (fun e2 => ?_) (fun e2 => ?_)
            · unfold gm_wr at H
              rw [if_pos ((gy_en tg ht).mp e2)] at H
              injection H with H
              exact br_f (show ¬ (1 : Int32) = 0 by decide) (K (v - gm_tag t) s _ _ _ _ _ _ _ H.symm hH)
            · refine br_t rfl (gy_wrapped H (fun z => e2 ((gy_en tg ht).mpr z)) hH tg ht sg st rg rj hp ?_)
              intro w s' vs so o1 o2 fr to lb eo hm hw hH'
              exact K w s' vs so o1 o2 fr to lb eo hH'
        exact pk_eq (gd_hd t) 3 (fun c3 => m2 371 (fun _ => by unfold gy_g; rw [if_pos c3])) (fun c3 => m2 374 (fun _ => by unfold gy_g; rw [if_neg c3]))
      · rw [if_neg c] at H
        injection H with H
        exact B H.symm
    refine And.intro vinj (pk_le 2 (gd_hd t) (fun c => And.intro vinj ?_) (fun c => And.intro vinj ?_))
    · unfold gm_tag at main
      rw [if_neg (by omega)] at main
      exact main
    · unfold gm_tag at main
      rw [if_pos c] at main
      rw [show (1 : Int32) + nI (gd_hd t) = nI (1 + gd_hd t) from nI_add 1 _]
      exact main
  · rw [if_neg f2] at H
    refine gy_wrapped H ne hH hf ht sf st ri rj hp ?_
    intro w s' vs so o1 o2 fr to lb eo hm hw hH'
    exact K w s' vs so o1 o2 fr to lb eo hH'
end
