/-! ===== 22: the reference's machine ===== -/
abbrev gy_D : Type := Int32 × Int32 × Int32 × Int32 × Int32 × Int32 × Int32 × Int32 × (Nat → Int32) × (Nat → Int32) × (Nat → Int32) × (Nat → Int32) × (Nat → Int32) × (Nat → Int32) × (Nat → Int32) × (Nat → Int32) × (Nat → Int32) × (Nat → Int32) × (Nat → Int32) × (Nat → Int32)
def gy_Y (y_parts y_count y_place y_where y_given : Int32) (y_ty y_part y_kind y_end y_state y_with y_runKind y_runEnd y_runWith : Nat → Int32) (D : gy_D) : SY := match D with | (y_values, y_variables, y_waits, y_at, y_world, y_steps, y_blame, y_result, y_sort, y_one, y_two, y_from, y_to, y_label, y_held, y_around, y_waiting, y_operand, y_outer, y_kept) => (y_parts, y_count, y_place, y_where, y_values, y_variables, y_waits, y_at, y_world, y_steps, y_blame, y_result, y_given, y_ty, y_part, y_kind, y_end, y_state, y_with, y_runKind, y_runEnd, y_runWith, y_sort, y_one, y_two, y_from, y_to, y_label, y_held, y_around, y_waiting, y_operand, y_outer, y_kept)
def gy_H (ty : Nat → Int32) (s : gm_S) (D : gy_D) : Prop := match D with | (y_values, y_variables, y_waits, y_at, y_world, y_steps, y_blame, y_result, y_sort, y_one, y_two, y_from, y_to, y_label, y_held, y_around, y_waiting, y_operand, y_outer, y_kept) => gy_H0 ty s y_values y_sort y_one y_two y_from y_to y_label ∧ y_variables = nI (gm_m s - 1) ∧ 1 ≤ gm_m s ∧ gm_m s ≤ 64 ∧ y_steps = nI (gm_T s) ∧ gm_T s ≤ 40 ∧ y_blame = 0 ∧ (∀ w, 0 < w → w < gm_m s → y_held (w - 1) = nI (gm_e s w).1 ∧ y_around (w - 1) = nI (gm_e s w).2 - 1)
def gy_wt (D : gy_D) : Int32 := match D with | (y_values, y_variables, y_waits, y_at, y_world, y_steps, y_blame, y_result, y_sort, y_one, y_two, y_from, y_to, y_label, y_held, y_around, y_waiting, y_operand, y_outer, y_kept) => y_waits
def gy_at (D : gy_D) : Int32 := match D with | (y_values, y_variables, y_waits, y_at, y_world, y_steps, y_blame, y_result, y_sort, y_one, y_two, y_from, y_to, y_label, y_held, y_around, y_waiting, y_operand, y_outer, y_kept) => y_at
def gy_wd (D : gy_D) : Int32 := match D with | (y_values, y_variables, y_waits, y_at, y_world, y_steps, y_blame, y_result, y_sort, y_one, y_two, y_from, y_to, y_label, y_held, y_around, y_waiting, y_operand, y_outer, y_kept) => y_world
def gy_rs (D : gy_D) : Int32 := match D with | (y_values, y_variables, y_waits, y_at, y_world, y_steps, y_blame, y_result, y_sort, y_one, y_two, y_from, y_to, y_label, y_held, y_around, y_waiting, y_operand, y_outer, y_kept) => y_result
def gy_bl (D : gy_D) : Int32 := match D with | (y_values, y_variables, y_waits, y_at, y_world, y_steps, y_blame, y_result, y_sort, y_one, y_two, y_from, y_to, y_label, y_held, y_around, y_waiting, y_operand, y_outer, y_kept) => y_blame
def gy_sp (D : gy_D) : Int32 := match D with | (y_values, y_variables, y_waits, y_at, y_world, y_steps, y_blame, y_result, y_sort, y_one, y_two, y_from, y_to, y_label, y_held, y_around, y_waiting, y_operand, y_outer, y_kept) => y_steps
def gy_fr (D : gy_D) (j : Nat) : Int32 × Int32 × Int32 × Int32 := match D with | (y_values, y_variables, y_waits, y_at, y_world, y_steps, y_blame, y_result, y_sort, y_one, y_two, y_from, y_to, y_label, y_held, y_around, y_waiting, y_operand, y_outer, y_kept) => (y_waiting j, y_operand j, y_outer j, y_kept j)
def gy_A (wc : Nat) (D D' : gy_D) : Prop := ∀ j, j < wc → gy_fr D' j = gy_fr D j
theorem gy_A_refl (wc : Nat) (D : gy_D) : gy_A wc D D := fun _ _ => rfl
theorem gy_A_trans {wc wc' : Nat} {D D' D'' : gy_D} (h : gy_A wc D D') (g : gy_A wc' D' D'') (l : wc ≤ wc') : gy_A wc D D'' := fun j hj => (g j (by omega)).trans (h j hj)
/-- only cells were added -/
def gy_Sm (D D' : gy_D) : Prop := gy_wt D' = gy_wt D ∧ gy_at D' = gy_at D ∧ gy_wd D' = gy_wd D ∧ gy_rs D' = gy_rs D ∧ ∀ j, gy_fr D' j = gy_fr D j
theorem gy_Sm_refl (D : gy_D) : gy_Sm D D := ⟨rfl, rfl, rfl, rfl, fun _ => rfl⟩
theorem gy_Sm_trans {D D' D'' : gy_D} (h : gy_Sm D D') (g : gy_Sm D' D'') : gy_Sm D D'' := ⟨g.1.trans h.1, g.2.1.trans h.2.1, g.2.2.1.trans h.2.2.1, g.2.2.2.1.trans h.2.2.2.1, fun j => (g.2.2.2.2 j).trans (h.2.2.2.2 j)⟩
/-- ended with this answer -/
def gy_clr (D : gy_D) : gy_D := match D with | (y_values, y_variables, y_waits, y_at, y_world, y_steps, y_blame, y_result, y_sort, y_one, y_two, y_from, y_to, y_label, y_held, y_around, y_waiting, y_operand, y_outer, y_kept) => (y_values, y_variables, y_waits, y_at, y_world, y_steps, 0, y_result, y_sort, y_one, y_two, y_from, y_to, y_label, y_held, y_around, y_waiting, y_operand, y_outer, y_kept)
def gy_E (ty : Nat → Int32) (out : gm_O) (D : gy_D) : Prop := gy_sp D = nI (gm_T out.2.2.2) ∧ (out.1 = 4 → gy_bl D = gm_lb out.2.2.1 ∧ gm_PB out.2.2.1) ∧ (out.1 = 5 → gy_bl D = 0) ∧ gy_H ty out.2.2.2 (gy_clr D)
def gy_lp (post : Int32 → SY → Prop) (y_parts y_count y_place y_where y_given : Int32) (y_ty y_part y_kind y_end y_state y_with y_runKind y_runEnd y_runWith : Nat → Int32) (N : Nat) (b m : Int32) (D : gy_D) : Prop := match D with | (y_values, y_variables, y_waits, y_at, y_world, y_steps, y_blame, y_result, y_sort, y_one, y_two, y_from, y_to, y_label, y_held, y_around, y_waiting, y_operand, y_outer, y_kept) => wY_run_146 post N b m y_parts y_count y_place y_where y_values y_variables y_waits y_at y_world y_steps y_blame y_result y_given y_ty y_part y_kind y_end y_state y_with y_runKind y_runEnd y_runWith y_sort y_one y_two y_from y_to y_label y_held y_around y_waiting y_operand y_outer y_kept
def gy_go (post : Int32 → SY → Prop) (y_parts y_count y_place y_where y_given : Int32) (y_ty y_part y_kind y_end y_state y_with y_runKind y_runEnd y_runWith : Nat → Int32) (C : Nat) (b m : Int32) (s : gm_S) (D : gy_D) : Prop := ∀ N, C ≤ N + 2 * gm_u s → gy_lp post y_parts y_count y_place y_where y_given y_ty y_part y_kind y_end y_state y_with y_runKind y_runEnd y_runWith N b m D
def gy_mo (wc : Nat) : Int32 := if wc = 0 then 0 else 1
def gy_M (wp : (Int32 → SY → Prop) → SY → Prop) (y_parts y_count y_place y_where y_given : Int32) (y_ty y_part y_kind y_end y_state y_with y_runKind y_runEnd y_runWith : Nat → Int32) (D : gy_D) (C : Int32 → gy_D → Prop) : Prop := ∀ P : Int32 → SY → Prop, (∀ r D', C r D' → P r (gy_Y y_parts y_count y_place y_where y_given y_ty y_part y_kind y_end y_state y_with y_runKind y_runEnd y_runWith D')) → wp P (gy_Y y_parts y_count y_place y_where y_given y_ty y_part y_kind y_end y_state y_with y_runKind y_runEnd y_runWith D)
def gy_K0 (post : Int32 → SY → Prop) (y_parts y_count y_place y_where y_given : Int32) (y_ty y_part y_kind y_end y_state y_with y_runKind y_runEnd y_runWith : Nat → Int32) (C wc : Nat) (D : gy_D) (out : gm_O) : Prop := ∀ D', out.1 = 0 → gy_H y_ty out.2.2.2 D' → gy_wt D' = nI wc → gy_A wc D D' → gy_rs D' = nI out.2.1 → gy_go post y_parts y_count y_place y_where y_given y_ty y_part y_kind y_end y_state y_with y_runKind y_runEnd y_runWith C 1 (gy_mo wc) out.2.2.2 D'
def gy_KB (post : Int32 → SY → Prop) (y_parts y_count y_place y_where y_given : Int32) (y_ty y_part y_kind y_end y_state y_with y_runKind y_runEnd y_runWith : Nat → Int32) (out : gm_O) : Prop := out.1 ≠ 0 → ∀ D', gy_E y_ty out D' → post (nI out.1) (gy_Y y_parts y_count y_place y_where y_given y_ty y_part y_kind y_end y_state y_with y_runKind y_runEnd y_runWith D')
/-- the loop of an unwinding with j casts to go -/
def gy_un (R0 : Int32 → SY → Prop) (y_parts y_count y_place y_where y_given : Int32) (y_ty y_part y_kind y_end y_state y_with y_runKind y_runEnd y_runWith : Nat → Int32) (f8 part j v : Nat) (D : gy_D) : Prop := match D with | (y_values, y_variables, y_waits, y_at, y_world, y_steps, y_blame, y_result, y_sort, y_one, y_two, y_from, y_to, y_label, y_held, y_around, y_waiting, y_operand, y_outer, y_kept) => ∀ n, j < n → wY_unwind_6 R0 (nI f8) (nI part) n (nI v) (nI j) y_parts y_count y_place y_where y_values y_variables y_waits y_at y_world y_steps y_blame y_result y_given y_ty y_part y_kind y_end y_state y_with y_runKind y_runEnd y_runWith y_sort y_one y_two y_from y_to y_label y_held y_around y_waiting y_operand y_outer y_kept
def gy_pt (part : Nat) (t : Lean.RArray Nat) : Lean.RArray Nat := if part = 1 then gd_lf t else gd_rt t
section
variable {y_parts y_count y_place y_where y_values y_variables y_waits y_at y_world y_steps y_blame y_result y_given : Int32} {y_ty y_part y_kind y_end y_state y_with y_runKind y_runEnd y_runWith y_sort y_one y_two y_from y_to y_label y_held y_around y_waiting y_operand y_outer y_kept : Nat → Int32}
variable {post : Int32 → SY → Prop}
theorem gy_un0 {R0 : Int32 → SY → Prop} {f8 part v : Nat} {D : gy_D} (h : R0 (nI v) (gy_Y y_parts y_count y_place y_where y_given y_ty y_part y_kind y_end y_state y_with y_runKind y_runEnd y_runWith D)) : gy_un R0 y_parts y_count y_place y_where y_given y_ty y_part y_kind y_end y_state y_with y_runKind y_runEnd y_runWith f8 part 0 v D := by
  obtain ⟨y_values, y_variables, y_waits, y_at, y_world, y_steps, y_blame, y_result, y_sort, y_one, y_two, y_from, y_to, y_label, y_held, y_around, y_waiting, y_operand, y_outer, y_kept⟩ := D
  intro n hn
  obtain ⟨n, rfl⟩ : ∃ k, n = k + 1 := ⟨n - 1, by omega⟩
  exact br_t (by rw [nI_0]; exact Int32.le_refl 0) h
theorem gy_unwind {R0 : Int32 → SY → Prop} {f8 part j v : Nat} {D : gy_D} (h : gy_un R0 y_parts y_count y_place y_where y_given y_ty y_part y_kind y_end y_state y_with y_runKind y_runEnd y_runWith f8 part j v D) : wpY_unwind R0 (gy_Y y_parts y_count y_place y_where y_given y_ty y_part y_kind y_end y_state y_with y_runKind y_runEnd y_runWith D) (nI v) (nI f8) (nI j) (nI part) := by
  obtain ⟨y_values, y_variables, y_waits, y_at, y_world, y_steps, y_blame, y_result, y_sort, y_one, y_two, y_from, y_to, y_label, y_held, y_around, y_waiting, y_operand, y_outer, y_kept⟩ := D
  exact Exists.intro (j + 1) (h (j + 1) (Nat.lt_succ_self j))
theorem gy_Sp_l {ty : Nat → Int32} {h i : Nat} {a b : Lean.RArray Nat} (s : gd_Sp ty (.branch h a b) i) (r : gy_RG i (.branch h a b)) : gd_Sp ty a (i + 1) ∧ gy_RG (i + 1) a := by
  unfold gy_RG at *
  simp only [gd_sz] at r
  exact ⟨s.2.1, by omega, by omega⟩
theorem gy_Sp_r {ty : Nat → Int32} {h i : Nat} {a b : Lean.RArray Nat} (s : gd_Sp ty (.branch h a b) i) (r : gy_RG i (.branch h a b)) : gd_Sp ty b (i + 1 + gd_sz a) ∧ gy_RG (i + 1 + gd_sz a) b := by
  unfold gy_RG at *
  simp only [gd_sz] at r
  exact ⟨s.2.2, by omega, by omega⟩
theorem gy_un_walk {R0 : Int32 → SY → Prop} {J6 : Int32 → Int32 → Int32 → Int32 → Int32 → Int32 → Int32 → Int32 → Int32 → Int32 → Int32 → Int32 → Int32 → Int32 → Int32 → (Nat → Int32) → (Nat → Int32) → (Nat → Int32) → (Nat → Int32) → (Nat → Int32) → (Nat → Int32) → (Nat → Int32) → (Nat → Int32) → (Nat → Int32) → (Nat → Int32) → (Nat → Int32) → (Nat → Int32) → (Nat → Int32) → (Nat → Int32) → (Nat → Int32) → (Nat → Int32) → (Nat → Int32) → (Nat → Int32) → (Nat → Int32) → (Nat → Int32) → (Nat → Int32) → Prop} {f8 part j v : Nat} {s : gm_S} (hs : gm_n s ≤ 5000) (h1 : ∀ c, c < gm_n s → gm_ck (gm_h s c) = 4 ∨ gm_ck (gm_h s c) = 6 → y_one c = nI (gm_ca (gm_h s c))) (j5 : j < 1000000)
    (E : ∀ c, gm_wlk s j f8 = c → c < gm_n s → wY_unwind_24 R0 J6 (nI f8) (nI part) (nI v) (nI (j + 1)) y_parts y_count y_place y_where y_values y_variables y_waits y_at y_world y_steps y_blame y_result y_given y_ty y_part y_kind y_end y_state y_with y_runKind y_runEnd y_runWith y_sort y_one y_two y_from y_to y_label y_held y_around y_waiting y_operand y_outer y_kept 1 (nI c) (nI (j + 1))) : ∀ d x c, x + d = j + 1 → 1 ≤ x → gm_wlk s d c = gm_wlk s j f8 → (∀ i, i ≤ d → gm_wlk s i c < gm_n s ∧ (gm_ck (gm_h s (gm_wlk s i c)) = 4 ∨ gm_ck (gm_h s (gm_wlk s i c)) = 6)) → (∀ i, i < d → gm_ca (gm_h s (gm_wlk s i c)) / 8 < 5001) → wY_unwind_24 R0 J6 (nI f8) (nI part) (nI v) (nI (j + 1)) y_parts y_count y_place y_where y_values y_variables y_waits y_at y_world y_steps y_blame y_result y_given y_ty y_part y_kind y_end y_state y_with y_runKind y_runEnd y_runWith y_sort y_one y_two y_from y_to y_label y_held y_around y_waiting y_operand y_outer y_kept (d + 1) (nI c) (nI x) := by
  intro d
  induction d with
  | zero =>
    intro x c hx _ hw hc _
    have e : x = j + 1 := by omega
    subst e
    exact E c hw.symm (hc 0 (Nat.le_refl _)).1
  | succ d ih =>
    intro x c hx x1 hw hc hq
    have c0 := hc 0 (Nat.zero_le _)
    have c0' : c < gm_n s ∧ (gm_ck (gm_h s c) = 4 ∨ gm_ck (gm_h s c) = 6) := c0
    refine br_f (nI_ge (by omega) (by omega)) ?_
    have q0 : gm_ca (gm_h s c) / 8 < 5001 := hq 0 (by omega)
    rw [nI_clamp (show c < 2 ^ 31 by omega), h1 c c0'.1 c0'.2]
    refine And.intro (vp_in_nI (by omega) (by decide)) (And.intro (by decide) (nm_r (gy_div q0) (nm_r (nI_1 x) ?_)))
    exact ih (x + 1) (gm_ca (gm_h s c) / 8) (by omega) (by omega) hw (fun i hi => hc (i + 1) (by omega)) (fun i hi => hq (i + 1) (by omega))
end
