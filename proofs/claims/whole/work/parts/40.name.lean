/-! ===== 40: name ===== -/
/-- the tokens of a type as a term in front notation -/
def gr_kd (pp : Nat → Nat) (k : Nat) : Nat := if 3 ≤ pp k then 4 else 0
theorem gr_ar (pp : Nat → Nat) (k : Nat) : gs_ar (gr_kd pp k) = if 3 ≤ pp k then 2 else 0 := by
  unfold gr_kd
  split <;> rfl
theorem gr_parse {pp : Nat → Nat} {pc : Nat} (h5 : ∀ j, pp j < 5) (W : gs_WF (gr_kd pp) pc) : ∀ n i, i < pc → pc ≤ i + n → ∃ t, gd_vt t ∧ gd_Sp (fun k => nI (pp k)) t i ∧ i + gd_sz t = gs_en (gr_kd pp) pc i := by
  intro n
  induction n with
  | zero => intro i h1 h2; omega
  | succ n ih =>
    intro i h1 h2
    have ar := gr_ar pp i
    have p5 := h5 i
    by_cases c : 3 ≤ pp i
    · rw [if_pos c] at ar
      have o0 := gs_op_lt W h1 (k := 0) (by omega)
      have o1 := gs_op_lt W h1 (k := 1) (by omega)
      obtain ⟨l, vl, sl, zl⟩ := ih (i + 1) o0.2 (by omega)
      obtain ⟨r, vr, sr, zr⟩ := ih (gs_op (gs_en (gr_kd pp) pc) i 1) o1.2 (by omega)
      have e1 : gs_op (gs_en (gr_kd pp) pc) i 1 = i + 1 + gd_sz l := zl.symm
      have e2 : gs_en (gr_kd pp) pc i = gs_en (gr_kd pp) pc (gs_op (gs_en (gr_kd pp) pc) i 1) := by
        rw [← gs_op_end W h1, ar]
        rfl
      rw [e1] at sr zr
      refine ⟨.branch (pp i) l r, ⟨by omega, vl, vr⟩, ⟨rfl, sl, sr⟩, ?_⟩
      rw [e2, e1, ← zr]
      simp only [gd_sz]
      omega
    · rw [if_neg c] at ar
      refine ⟨.leaf (pp i), by simp only [gd_vt]; omega, rfl, ?_⟩
      rw [← gs_op_end W h1, ar]
      rfl
/-- the packed number of the tokens is that of the type -/
theorem gr_pk_div {pp : Nat → Nat} (h5 : ∀ j, pp j < 5) : ∀ n j, j < n → gr_pk pp n / 8 ^ j % 8 = pp j := by
  intro n
  induction n with
  | zero => intro j h; omega
  | succ n ih =>
    intro j h
    have p8 : 0 < 8 ^ j := Nat.pow_pos (by decide)
    show (gr_pk pp n + 8 ^ n * pp n) / 8 ^ j % 8 = pp j
    by_cases c : j = n
    · subst c
      rw [Nat.add_mul_div_left _ _ p8, Nat.div_eq_of_lt (gr_pk_lt h5 j), Nat.zero_add]
      exact Nat.mod_eq_of_lt (by have := h5 j; omega)
    · have e : 8 ^ n * pp n = 8 ^ j * (8 * (8 ^ (n - j - 1) * pp n)) := by
        rw [← Nat.mul_assoc 8, ← Nat.pow_succ', ← Nat.mul_assoc, ← Nat.pow_add]
        rw [show j + (n - j - 1).succ = n by omega]
      rw [e, Nat.add_mul_div_left _ _ p8, Nat.add_mul_mod_self_left]
      exact ih j (by omega)
theorem gr_pk_z {pp : Nat → Nat} {pc : Nat} (h5 : ∀ j, pp j < 5) (hz : ∀ j, pc ≤ j → pp j = 0) (j : Nat) : gr_pk pp pc / 8 ^ j % 8 = pp j := by
  by_cases c : j < pc
  · exact gr_pk_div h5 pc j c
  · rw [Nat.div_eq_of_lt (Nat.lt_of_lt_of_le (gr_pk_lt h5 pc) (Nat.pow_le_pow_right (by decide) (by omega))), hz j (by omega)]
theorem gr_en_pk {pp : Nat → Nat} (h5 : ∀ j, pp j < 5) : ∀ (t : Lean.RArray Nat) (i : Nat), gd_vt t → gd_Sp (fun k => nI (pp k)) t i → gr_pk pp (i + gd_sz t) = gr_pk pp i + 8 ^ i * gd_en t := by
  intro t
  induction t with
  | leaf n =>
    intro i hv hs
    simp only [gd_vt] at hv
    have e : nI (pp i) = nI n := hs
    have e' := (nI_eq (by have := h5 i; omega) (by omega)).mp e
    show gr_pk pp i + 8 ^ i * pp i = _
    rw [e']
    rfl
  | branch h l r ihl ihr =>
    intro i hv hs
    simp only [gd_vt] at hv
    have hh := gd_h8 hv.1
    have e : nI (pp i) = nI h := hs.1
    have e' := (nI_eq (by have := h5 i; omega) (by omega)).mp e
    have a := ihl (i + 1) hv.2.1 hs.2.1
    have b := ihr (i + 1 + gd_sz l) hv.2.2 hs.2.2
    show gr_pk pp (i + (1 + gd_sz l + gd_sz r)) = _
    rw [show i + (1 + gd_sz l + gd_sz r) = i + 1 + gd_sz l + gd_sz r by omega, b, a]
    show gr_pk pp i + 8 ^ i * pp i + 8 ^ (i + 1) * gd_en l + 8 ^ (i + 1 + gd_sz l) * gd_en r = gr_pk pp i + 8 ^ i * (h + 8 * (gd_en l + 8 ^ gd_sz l * gd_en r))
    rw [e', Nat.mul_add, ← Nat.mul_assoc (8 ^ i) 8, show 8 ^ i * 8 = 8 ^ (i + 1) from rfl, Nat.mul_add, ← Nat.mul_assoc, ← Nat.pow_add]
    omega
theorem gr_te {post : Int32 → Prop} {pp : Nat → Nat} {pc s : Nat} (hs : s < 2 ^ 31) (p7 : pc ≤ 7) (h5 : ∀ j, pp j < 5) (ht : ∀ j, s / 8 ^ j % 8 = pp j) (P : gs_WF (gr_kd pp) pc → post (nI pc)) (Q : ¬ gs_WF (gr_kd pp) pc → ∀ e, e ≤ 8 → e ≠ pc → post (nI e)) : ∀ d k, k + d = 7 → (∀ j, j < k → 0 < gs_D (gr_kd pp) j) → wX_typeEnd_4 post (nI s) (d + 1) (nI (gs_D (gr_kd pp) k)) (nI k) := by
  have fin : ∀ k, k ≤ 7 → (∀ j, j < k → 0 < gs_D (gr_kd pp) j) → gs_D (gr_kd pp) k = 0 → post (nI k) := by
    intro k k7 h z
    by_cases c : k = pc
    · subst c; exact P ⟨h, z⟩
    · refine Q (fun W => ?_) k (by omega) c
      rcases Nat.lt_or_ge k pc with lt | ge
      · have := W.1 k lt; omega
      · have a := h pc (by omega)
        have b := W.2
        omega
  intro d
  induction d with
  | zero =>
    intro k e h
    have e' : k = 7 := by omega
    subst e'
    have dl := gs_D_le (gr_kd pp) 7
    refine br_t (by decide) (pk_le (gs_D (gr_kd pp) 7) 0 (fun z => fin 7 (Nat.le_refl _) h (by omega)) (fun z => Q (fun W => ?_) 8 (Nat.le_refl _) (by omega)))
    have b := W.2
    rcases Nat.lt_or_ge pc 7 with lt | ge
    · have := h pc lt; omega
    · have e7 : pc = 7 := by omega
      rw [e7] at b; omega
  | succ d ih =>
    intro k e h
    have dl := gs_D_le (gr_kd pp) k
    have p5 := h5 k
    refine br_f (nI_ge (b := 7) (by omega) (by decide)) (pk_le (gs_D (gr_kd pp) k) 0 (fun z => br_t (nI_le (b := 0) z (by decide)) (fin k (by omega) h (by omega))) (fun z => ?_))
    rw [gx_tok hs (show k < 8 by omega), ht k]
    have ar := gr_ar pp k
    have next : (∀ j, j < k + 1 → 0 < gs_D (gr_kd pp) j) := by
      intro j hj
      by_cases c : j = k
      · rw [c]; exact z
      · exact h j (by omega)
    have ed : gs_D (gr_kd pp) (k + 1) = gs_D (gr_kd pp) k + gs_ar (gr_kd pp k) - 1 := rfl
    refine pk_lt (pp k) 3 (fun c => ?_) (fun c => ?_)
    · rw [if_neg (by omega)] at ar
      have e1 : nI (gs_D (gr_kd pp) k) + (-1) = nI (gs_D (gr_kd pp) (k + 1)) := by
        obtain ⟨m, hm⟩ : ∃ m, gs_D (gr_kd pp) k = m + 1 := ⟨gs_D (gr_kd pp) k - 1, by omega⟩
        rw [hm, pk_m1]
        exact congrArg nI (by omega)
      exact nm_r e1 (nm_r (nI_1 k) (ih (k + 1) (by omega) next))
    · rw [if_pos c] at ar
      have e1 : nI (gs_D (gr_kd pp) k) + 1 = nI (gs_D (gr_kd pp) (k + 1)) := by
        rw [nI_1]
        exact congrArg nI (by omega)
      exact nm_r e1 (nm_r (nI_1 k) (ih (k + 1) (by omega) next))
section
variable {y_parts y_count y_place y_where y_values y_variables y_waits y_at y_world y_steps y_blame y_result y_given : Int32} {y_ty y_part y_kind y_end y_state y_with y_runKind y_runEnd y_runWith y_sort y_one y_two y_from y_to y_label y_held y_around y_waiting y_operand y_outer y_kept : Nat → Int32}
theorem gr_y72 {post : Int32 → SY → Prop} {pp : Nat → Nat} {pc n : Nat} (p7 : pc ≤ 7) (n10 : n < 10) (h5 : ∀ j, pp j < 5) (hp : ∀ j, j < pc → y_part j = nI (pp j)) (P : ∀ r : Nat → Int32, (∀ k, k < pc → r (288 + 8 * n + k) = nI (pp k)) → (∀ q, (q < 288 + 8 * n ∨ 288 + 8 * n + pc ≤ q) → r q = y_ty q) → post 0 (y_parts, y_count, y_place, y_where, y_values, y_variables, y_waits, y_at, y_world, y_steps, y_blame, y_result, y_given, r, y_part, y_kind, y_end, y_state, y_with, y_runKind, y_runEnd, y_runWith, y_sort, y_one, y_two, y_from, y_to, y_label, y_held, y_around, y_waiting, y_operand, y_outer, y_kept)) : ∀ d k, k + d = pc → ∀ r : Nat → Int32, (∀ q, q < k → r (288 + 8 * n + q) = nI (pp q)) → (∀ q, (q < 288 + 8 * n ∨ 288 + 8 * n + pc ≤ q) → r q = y_ty q) → wY_name_72 post (nI n) (nI pc) y_parts y_count y_place y_where y_values y_variables y_waits y_at y_world y_steps y_blame y_result y_given (d + 1) (nI k) r y_part y_kind y_end y_state y_with y_runKind y_runEnd y_runWith y_sort y_one y_two y_from y_to y_label y_held y_around y_waiting y_operand y_outer y_kept := by
  intro d
  induction d with
  | zero =>
    intro k e r h h'
    have e' : k = pc := by omega
    subst e'
    exact br_t (Int32.le_refl _) (P r h h')
  | succ d ih =>
    intro k e r h h'
    have p5 := h5 k
    have ei : (288 : Int32) + 8 * nI n + nI k = nI (288 + 8 * n + k) := by
      rw [show (8 : Int32) * nI n = nI (8 * n) from pk_mul 8 _, show (288 : Int32) + nI (8 * n) = nI (288 + 8 * n) from nI_add 288 _, nI_add]
    refine br_f (nI_ge (by omega) (by omega)) ?_
    rw [ei, nI_clamp (show 288 + 8 * n + k < 2 ^ 31 by omega), nI_clamp (show k < 2 ^ 31 by omega), hp k (by omega), gd_nb (pp k) (by omega)]
    refine And.intro (vp_in_nI (by omega) (by decide)) (And.intro (vp_in_nI (by omega) (by decide)) (nm_e (nm_r (nI_1 k) (ih (k + 1) (by omega) _ ?_ ?_))))
    · intro q hq
      by_cases c : q = k
      · subst c; exact pk_us
      · rw [pk_un (by omega)]; exact h q (by omega)
    · intro q hq
      rw [pk_un (by omega)]
      exact h' q hq
theorem gr_y26 {post : Int32 → SY → Prop} {pp : Nat → Nat} {pc : Nat} {x1 : Int32} (p7 : pc ≤ 7) (h5 : ∀ j, pp j < 5) (hp : ∀ j, j < pc → y_part j = nI (pp j)) (P : gs_WF (gr_kd pp) pc → ∃ n, wY_name_72 post x1 (nI pc) y_parts y_count y_place y_where y_values y_variables y_waits y_at y_world y_steps y_blame y_result y_given n 0 y_ty y_part y_kind y_end y_state y_with y_runKind y_runEnd y_runWith y_sort y_one y_two y_from y_to y_label y_held y_around y_waiting y_operand y_outer y_kept) (Q : ¬ gs_WF (gr_kd pp) pc → post 1 (y_parts, y_count, y_place, y_where, y_values, y_variables, y_waits, y_at, y_world, y_steps, y_blame, y_result, y_given, y_ty, y_part, y_kind, y_end, y_state, y_with, y_runKind, y_runEnd, y_runWith, y_sort, y_one, y_two, y_from, y_to, y_label, y_held, y_around, y_waiting, y_operand, y_outer, y_kept)) : ∀ d k, k + d = pc → (∀ j, j < k → 0 < gs_D (gr_kd pp) j) → wY_name_26 post x1 (nI pc) y_parts y_count y_place y_where y_values y_variables y_waits y_at y_world y_steps y_blame y_result y_given y_ty y_part y_kind y_end y_state y_with y_runKind y_runEnd y_runWith y_sort y_one y_two y_from y_to y_label y_held y_around y_waiting y_operand y_outer y_kept (d + 1) (nI (gs_D (gr_kd pp) k)) (nI k) := by
  intro d
  induction d with
  | zero =>
    intro k e h
    have e' : k = pc := by omega
    subst e'
    have dl := gs_D_le (gr_kd pp) k
    exact br_t (Int32.le_refl _) (pk_le (gs_D (gr_kd pp) k) 0 (fun z => P ⟨h, by omega⟩) (fun z => Q (fun W => by have := W.2; omega)))
  | succ d ih =>
    intro k e h
    have dl := gs_D_le (gr_kd pp) k
    have p5 := h5 k
    refine br_f (nI_ge (by omega) (by omega)) (pk_eq (gs_D (gr_kd pp) k) 0 (fun z => Q (fun W => by have := W.1 k (by omega); omega)) (fun z => ?_))
    rw [nI_clamp (show k < 2 ^ 31 by omega), hp k (by omega)]
    have ar := gr_ar pp k
    have next : (∀ j, j < k + 1 → 0 < gs_D (gr_kd pp) j) := by
      intro j hj
      by_cases c : j = k
      · rw [c]; omega
      · exact h j (by omega)
    have ed : gs_D (gr_kd pp) (k + 1) = gs_D (gr_kd pp) k + gs_ar (gr_kd pp k) - 1 := rfl
    refine And.intro (vp_in_nI (by omega) (by decide)) (pk_le (pp k) 2 (fun c => ?_) (fun c => ?_))
    · rw [if_neg (by omega)] at ar
      have e1 : nI (gs_D (gr_kd pp) k) + (-1) = nI (gs_D (gr_kd pp) (k + 1)) := by
        obtain ⟨m, hm⟩ : ∃ m, gs_D (gr_kd pp) k = m + 1 := ⟨gs_D (gr_kd pp) k - 1, by omega⟩
        rw [hm, pk_m1]
        exact congrArg nI (by omega)
      exact nm_r e1 (nm_r (nI_1 k) (ih (k + 1) (by omega) next))
    · rw [if_pos (by omega)] at ar
      have e1 : nI (gs_D (gr_kd pp) k) + 1 = nI (gs_D (gr_kd pp) (k + 1)) := by
        rw [nI_1]
        exact congrArg nI (by omega)
      exact nm_r e1 (nm_r (nI_1 k) (ih (k + 1) (by omega) next))
end
theorem gy_H_ty {ty r : Nat → Int32} {s : gm_S} {E : gy_D} (h : gy_H ty s E) (e : ∀ q, 368 ≤ q → r q = ty q) : gy_H r s E := by
  obtain ⟨y_values, y_variables, y_waits, y_at, y_world, y_steps, y_blame, y_result, y_sort, y_one, y_two, y_from, y_to, y_label, y_held, y_around, y_waiting, y_operand, y_outer, y_kept⟩ := E
  obtain ⟨⟨v0, v5, vc⟩, h1⟩ := h
  refine ⟨⟨v0, v5, fun c hc => ?_⟩, h1⟩
  obtain ⟨a1, a2, a3, a4, a5, a6⟩ := vc c hc
  refine ⟨a1, a2, a3, a4, a5, fun hk => ?_⟩
  obtain ⟨b1, b2, b3, b4, b5, i, j, b6, b7, b8, b9, b10, b11, b12⟩ := a6 hk
  exact ⟨b1, b2, b3, b4, b5, i, j, b6, b7, gd_sp_same b8 (fun k _ => e _ (by have := b10.1; omega)), gd_sp_same b9 (fun k _ => e _ (by have := b11.1; omega)), b10, b11, b12⟩
theorem gr_V_ty {xr : Int32} {ty r : Nat → Int32} {D : gx_D} {E : gy_D} (h : gr_V xr ty D E) (e : ∀ q, 368 ≤ q → r q = ty q) : gr_V xr r D E := by
  obtain ⟨P, cn, G, s, v, a, b, c, d, f⟩ := h
  exact ⟨P, cn, G, s, v, a, b, c, gy_H_ty d e, f⟩
theorem i_vc_name {k : Nat} {u : SX} {v : SY} (I : i_Rel k u v) (hk : k + 3 ≤ 1536) (v1 : Int32) : wpX_name (fun r u' => wpY_name (fun r' v' => r' = r ∧ i_Rel (k + 3) u' v') v v1) u v1 := by
  have I' := i_up I
  obtain ⟨x_typeDraft, x_typeCount, x_count, x_wrongAt, x_keptPlace, x_cellCount, x_scopeCount, x_frameCount, x_mode, x_atToken, x_scope, x_current, x_callee, x_side, x_ending, x_faultLabel, x_stepsTaken, x_runVerdict, x_runBlame, x_result, x_named, x_kinds, x_values, x_ends, x_types, x_operands, x_targets, x_cellShape, x_cellLabel, x_cellOne, x_cellTwo, x_cellThree, x_scopeValue, x_scopeOuter, x_frameKind, x_frameOne, x_frameTwo, x_frameThree, x_nKind, x_nOne, x_nTwo, x_nThree⟩ := u
  obtain ⟨y_parts, y_count, y_place, y_where, y_values, y_variables, y_waits, y_at, y_world, y_steps, y_blame, y_result, y_given, y_ty, y_part, y_kind, y_end, y_state, y_with, y_runKind, y_runEnd, y_runWith, y_sort, y_one, y_two, y_from, y_to, y_label, y_held, y_around, y_waiting, y_operand, y_outer, y_kept⟩ := v
  by_cases n0 : v1 < 0
  · refine br_t n0 ?_
    dsimp only
    unfold wpY_name
    exact br_t n0 (br_f (show ¬ (1 : Int32) = 0 by decide) ⟨rfl, I'⟩)
  by_cases n10 : v1 < 10
  rotate_left
  · refine br_f n0 (br_f n10 ?_)
    dsimp only
    unfold wpY_name
    exact br_f n0 (br_f n10 (br_f (show ¬ (1 : Int32) = 0 by decide) ⟨rfl, I'⟩))
  obtain ⟨n, hn, rfl⟩ : ∃ c : Nat, c < 10 ∧ v1 = nI c := by
    obtain ⟨j, hj, e⟩ := nI_of n0
    refine ⟨j, ?_, e⟩
    rw [e] at n10
    have : nI j < nI 10 := n10
    rw [nI_ltI hj (by decide)] at this
    exact this
  obtain ⟨_, hl, ⟨pc, pp, p7, e1, e2, e3, q1, q2, q3⟩, ⟨kd, vl, nm, cnt, d1, d2, dx, dy⟩, h4, h5, h6, h7⟩ := I
  subst e1 e2 e3
  have plt := gr_pk_lt q1 pc
  have p8 : 8 ^ pc ≤ 8 ^ 7 := Nat.pow_le_pow_right (by decide) p7
  have p87 : (8 : Nat) ^ 7 = 2097152 := by decide
  have dr0 : gr_D 0 0 0 y_part := ⟨0, fun _ => 0, by decide, rfl, rfl, rfl, fun _ => show (0 : Nat) < 5 by decide, fun j hj => absurd hj (Nat.not_lt_zero _), fun _ _ => rfl⟩
  have yw : ∀ (R : Int32 → SY → Prop), (gs_WF (gr_kd pp) pc → ∃ m, wY_name_72 R (nI n) (nI pc) 0 y_count y_place y_where y_values y_variables y_waits y_at y_world y_steps y_blame y_result y_given m 0 y_ty y_part y_kind y_end y_state y_with y_runKind y_runEnd y_runWith y_sort y_one y_two y_from y_to y_label y_held y_around y_waiting y_operand y_outer y_kept) → (¬ gs_WF (gr_kd pp) pc → R 1 (0, y_count, y_place, y_where, y_values, y_variables, y_waits, y_at, y_world, y_steps, y_blame, y_result, y_given, y_ty, y_part, y_kind, y_end, y_state, y_with, y_runKind, y_runEnd, y_runWith, y_sort, y_one, y_two, y_from, y_to, y_label, y_held, y_around, y_waiting, y_operand, y_outer, y_kept)) → wpY_name R (nI pc, y_count, y_place, y_where, y_values, y_variables, y_waits, y_at, y_world, y_steps, y_blame, y_result, y_given, y_ty, y_part, y_kind, y_end, y_state, y_with, y_runKind, y_runEnd, y_runWith, y_sort, y_one, y_two, y_from, y_to, y_label, y_held, y_around, y_waiting, y_operand, y_outer, y_kept) (nI n) := by
    intro R a b
    unfold wpY_name
    exact br_f (nI_pos (by omega)) (br_t (nI_lt (b := 10) hn (by decide)) (br_t rfl (Exists.intro (pc + 1) (gr_y26 (y_parts := 0) p7 q1 q2 a b pc 0 (Nat.zero_add _) (fun j hj => absurd hj (Nat.not_lt_zero _))))))
  refine br_f n0 (br_t n10 (Exists.intro 8 (gr_te (by omega) p7 q1 (gr_pk_z q1 q3) (fun W => ?_) (fun W e e8 ne => ?_) 7 0 rfl (fun j hj => absurd hj (Nat.not_lt_zero _)))))
  · have pos : 0 < pc := by
      rcases Nat.eq_zero_or_pos pc with z | z
      · subst z
        exact absurd (show (1 : Nat) = 0 from W.2) (by decide)
      · exact z
    obtain ⟨t, vt, st, zt⟩ := gr_parse q1 W pc 0 pos (by omega)
    have en0 : gs_en (gr_kd pp) pc 0 = pc := by
      have e := gs_en_ok W pos
      have d1 : gs_D (gr_kd pp) 0 = 1 := rfl
      have d2 := e.2.2.1
      rcases Nat.lt_or_ge (gs_en (gr_kd pp) pc 0) pc with lt | ge
      · have := W.1 _ lt; omega
      · have := e.2.1; omega
    rw [Nat.zero_add, en0] at zt
    have tt : gd_TY t := ⟨vt, by omega⟩
    have et : gr_pk pp pc = gd_en t := by
      have := gr_en_pk q1 t 0 vt st
      rw [Nat.zero_add, zt] at this
      show gr_pk pp pc = _
      rw [this]
      show 0 + 8 ^ 0 * gd_en t = _
      omega
    refine br_t rfl (br_f (show ¬ (1 : Int32) = 0 by decide) ?_)
    rw [nI_clamp (show n < 2 ^ 31 by omega)]
    refine And.intro (vp_in_nI hn (by decide)) (nm_e (br_f (show ¬ (1 : Int32) = 0 by decide) ?_))
    refine yw _ (fun _ => Exists.intro (pc + 1) ?_) (fun z => absurd W z)
    refine gr_y72 (y_parts := 0) p7 hn q1 q2 ?_ pc 0 (Nat.zero_add _) y_ty (fun q hq => absurd hq (Nat.not_lt_zero _)) (fun q _ => rfl)
    intro r r1 r2
    have r368 : ∀ q, 368 ≤ q → r q = y_ty q := fun q hq => r2 q (by omega)
    refine ⟨rfl, rfl, hl, dr0, ⟨kd, vl, fun j => if j = n then t else nm j, cnt, d1, d2, ⟨dx.1, ?_, ?_, dx.2.2.2⟩, ⟨dy.1, ?_, ?_, ?_, dy.2.2.2.2⟩⟩, h4, h5, h6, ?_⟩
    · intro j
      show gd_TY (if j = n then t else nm j)
      by_cases e : j = n
      · rw [if_pos e]; exact tt
      · rw [if_neg e]; exact dx.2.1 j
    · intro j hj
      show upd x_named n (nI (gr_pk pp pc)) j = nI (gd_en (if j = n then t else nm j))
      by_cases e : j = n
      · rw [if_pos e, e, ← et]; exact pk_us
      · rw [if_neg e, pk_un e]; exact dx.2.2.1 j hj
    · intro j
      show gd_TY (if j = n then t else nm j)
      by_cases e : j = n
      · rw [if_pos e]; exact tt
      · rw [if_neg e]; exact dy.2.1 j
    · intro j hj
      show gd_Sp r (if j = n then t else nm j) (288 + 8 * j)
      by_cases e : j = n
      · rw [if_pos e, e]
        refine gd_sp_cp t 0 (288 + 8 * n) st (fun q hq => ?_)
        rw [r1 q (by omega), Nat.zero_add]
      · rw [if_neg e]
        have zj := (dy.2.1 j).2
        exact gd_sp_same (dy.2.2.1 j hj) (fun q hq => r2 _ (by omega))
    · obtain ⟨a, b, c, d, e, f, g, i, j⟩ := dy.2.2.2.1
      exact ⟨(r368 _ (by decide)).trans a, (r368 _ (by decide)).trans b, (r368 _ (by decide)).trans c, (r368 _ (by decide)).trans d, (r368 _ (by decide)).trans e, (r368 _ (by decide)).trans f, (r368 _ (by decide)).trans g, (r368 _ (by decide)).trans i, (r368 _ (by decide)).trans j⟩
    · rcases h7 with ⟨a, b, c⟩ | c
      · exact Or.inl ⟨a, b, gr_V_ty c r368⟩
      · exact Or.inr c
  · have nW : ¬ nI e = nI pc := fun z => ne ((nI_eq (by omega) (by omega)).mp z)
    refine br_f nW (br_t rfl (br_t rfl ?_))
    exact yw _ (fun z => absurd z W) (fun _ => ⟨rfl, rfl, hl, dr0, ⟨kd, vl, nm, cnt, d1, d2, dx, dy⟩, h4, h5, h6, h7⟩)
