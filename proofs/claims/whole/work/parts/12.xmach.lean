/-! ===== 12: X's machine, turn by turn ===== -/
abbrev gx_D : Type := Int32 × Int32 × Int32 × Int32 × Int32 × Int32 × Int32 × Int32 × Int32 × Int32 × Int32 × Int32 × (Nat → Int32) × (Nat → Int32) × (Nat → Int32) × (Nat → Int32) × (Nat → Int32) × (Nat → Int32) × (Nat → Int32) × (Nat → Int32) × (Nat → Int32) × (Nat → Int32) × (Nat → Int32)
def gx_X (x_typeDraft x_typeCount x_count x_wrongAt x_keptPlace x_runVerdict x_runBlame x_result : Int32) (x_named x_kinds x_values x_ends x_types x_operands x_targets : Nat → Int32) (D : gx_D) : SX := match D with | (x_cellCount, x_scopeCount, x_frameCount, x_mode, x_atToken, x_scope, x_current, x_callee, x_side, x_ending, x_faultLabel, x_stepsTaken, x_cellShape, x_cellLabel, x_cellOne, x_cellTwo, x_cellThree, x_scopeValue, x_scopeOuter, x_frameKind, x_frameOne, x_frameTwo, x_frameThree) => (x_typeDraft, x_typeCount, x_count, x_wrongAt, x_keptPlace, x_cellCount, x_scopeCount, x_frameCount, x_mode, x_atToken, x_scope, x_current, x_callee, x_side, x_ending, x_faultLabel, x_stepsTaken, x_runVerdict, x_runBlame, x_result, x_named, x_kinds, x_values, x_ends, x_types, x_operands, x_targets, x_cellShape, x_cellLabel, x_cellOne, x_cellTwo, x_cellThree, x_scopeValue, x_scopeOuter, x_frameKind, x_frameOne, x_frameTwo, x_frameThree, 32768, 32768, 32768, 32768)
def gx_H (s : gm_S) (D : gx_D) : Prop := match D with | (x_cellCount, x_scopeCount, x_frameCount, x_mode, x_atToken, x_scope, x_current, x_callee, x_side, x_ending, x_faultLabel, x_stepsTaken, x_cellShape, x_cellLabel, x_cellOne, x_cellTwo, x_cellThree, x_scopeValue, x_scopeOuter, x_frameKind, x_frameOne, x_frameTwo, x_frameThree) => gx_H0 s x_cellCount x_cellShape x_cellLabel x_cellOne x_cellTwo x_cellThree ∧ x_scopeCount = nI (gm_m s) ∧ gm_m s ≤ 64 ∧ x_stepsTaken = nI (gm_T s) ∧ gm_T s ≤ 40 ∧ (∀ w, 0 < w → w < gm_m s → x_scopeValue w = nI (gm_xv (gm_e s w).1) ∧ x_scopeOuter w = nI (gm_e s w).2)
def gx_fc (D : gx_D) : Int32 := match D with | (x_cellCount, x_scopeCount, x_frameCount, x_mode, x_atToken, x_scope, x_current, x_callee, x_side, x_ending, x_faultLabel, x_stepsTaken, x_cellShape, x_cellLabel, x_cellOne, x_cellTwo, x_cellThree, x_scopeValue, x_scopeOuter, x_frameKind, x_frameOne, x_frameTwo, x_frameThree) => x_frameCount
def gx_mode (D : gx_D) : Int32 := match D with | (x_cellCount, x_scopeCount, x_frameCount, x_mode, x_atToken, x_scope, x_current, x_callee, x_side, x_ending, x_faultLabel, x_stepsTaken, x_cellShape, x_cellLabel, x_cellOne, x_cellTwo, x_cellThree, x_scopeValue, x_scopeOuter, x_frameKind, x_frameOne, x_frameTwo, x_frameThree) => x_mode
def gx_att (D : gx_D) : Int32 := match D with | (x_cellCount, x_scopeCount, x_frameCount, x_mode, x_atToken, x_scope, x_current, x_callee, x_side, x_ending, x_faultLabel, x_stepsTaken, x_cellShape, x_cellLabel, x_cellOne, x_cellTwo, x_cellThree, x_scopeValue, x_scopeOuter, x_frameKind, x_frameOne, x_frameTwo, x_frameThree) => x_atToken
def gx_scp (D : gx_D) : Int32 := match D with | (x_cellCount, x_scopeCount, x_frameCount, x_mode, x_atToken, x_scope, x_current, x_callee, x_side, x_ending, x_faultLabel, x_stepsTaken, x_cellShape, x_cellLabel, x_cellOne, x_cellTwo, x_cellThree, x_scopeValue, x_scopeOuter, x_frameKind, x_frameOne, x_frameTwo, x_frameThree) => x_scope
def gx_cur (D : gx_D) : Int32 := match D with | (x_cellCount, x_scopeCount, x_frameCount, x_mode, x_atToken, x_scope, x_current, x_callee, x_side, x_ending, x_faultLabel, x_stepsTaken, x_cellShape, x_cellLabel, x_cellOne, x_cellTwo, x_cellThree, x_scopeValue, x_scopeOuter, x_frameKind, x_frameOne, x_frameTwo, x_frameThree) => x_current
def gx_cal (D : gx_D) : Int32 := match D with | (x_cellCount, x_scopeCount, x_frameCount, x_mode, x_atToken, x_scope, x_current, x_callee, x_side, x_ending, x_faultLabel, x_stepsTaken, x_cellShape, x_cellLabel, x_cellOne, x_cellTwo, x_cellThree, x_scopeValue, x_scopeOuter, x_frameKind, x_frameOne, x_frameTwo, x_frameThree) => x_callee
def gx_sid (D : gx_D) : Int32 := match D with | (x_cellCount, x_scopeCount, x_frameCount, x_mode, x_atToken, x_scope, x_current, x_callee, x_side, x_ending, x_faultLabel, x_stepsTaken, x_cellShape, x_cellLabel, x_cellOne, x_cellTwo, x_cellThree, x_scopeValue, x_scopeOuter, x_frameKind, x_frameOne, x_frameTwo, x_frameThree) => x_side
def gx_end (D : gx_D) : Int32 := match D with | (x_cellCount, x_scopeCount, x_frameCount, x_mode, x_atToken, x_scope, x_current, x_callee, x_side, x_ending, x_faultLabel, x_stepsTaken, x_cellShape, x_cellLabel, x_cellOne, x_cellTwo, x_cellThree, x_scopeValue, x_scopeOuter, x_frameKind, x_frameOne, x_frameTwo, x_frameThree) => x_ending
def gx_flt (D : gx_D) : Int32 := match D with | (x_cellCount, x_scopeCount, x_frameCount, x_mode, x_atToken, x_scope, x_current, x_callee, x_side, x_ending, x_faultLabel, x_stepsTaken, x_cellShape, x_cellLabel, x_cellOne, x_cellTwo, x_cellThree, x_scopeValue, x_scopeOuter, x_frameKind, x_frameOne, x_frameTwo, x_frameThree) => x_faultLabel
def gx_stp (D : gx_D) : Int32 := match D with | (x_cellCount, x_scopeCount, x_frameCount, x_mode, x_atToken, x_scope, x_current, x_callee, x_side, x_ending, x_faultLabel, x_stepsTaken, x_cellShape, x_cellLabel, x_cellOne, x_cellTwo, x_cellThree, x_scopeValue, x_scopeOuter, x_frameKind, x_frameOne, x_frameTwo, x_frameThree) => x_stepsTaken
def gx_fr (D : gx_D) (j : Nat) : Int32 × Int32 × Int32 × Int32 := match D with | (x_cellCount, x_scopeCount, x_frameCount, x_mode, x_atToken, x_scope, x_current, x_callee, x_side, x_ending, x_faultLabel, x_stepsTaken, x_cellShape, x_cellLabel, x_cellOne, x_cellTwo, x_cellThree, x_scopeValue, x_scopeOuter, x_frameKind, x_frameOne, x_frameTwo, x_frameThree) => (x_frameKind j, x_frameOne j, x_frameTwo j, x_frameThree j)
/-- the frames below fc are alike -/
def gx_A (fc : Nat) (D D' : gx_D) : Prop := ∀ j, j < fc → gx_fr D' j = gx_fr D j
theorem gx_A_refl (fc : Nat) (D : gx_D) : gx_A fc D D := fun _ _ => rfl
theorem gx_A_trans {fc fc' : Nat} {D D' D'' : gx_D} (h : gx_A fc D D') (g : gx_A fc' D' D'') (l : fc ≤ fc') : gx_A fc D D'' := fun j hj => (g j (by omega)).trans (h j hj)
/-- the frames of an operand: at fc what waits for it, above it its cast, if there is one -/
def gx_O (fc fc' a : Nat) (w hd : Int32) (f t : Lean.RArray Nat) (D : gx_D) : Prop :=
  (gx_fr D fc).1 = nI a ∧ (gx_fr D fc).2.1 = w ∧ (gx_fr D fc).2.2.1 = hd ∧ (gd_en f = gd_en t → fc' = fc + 1) ∧ (gd_en f ≠ gd_en t → fc' = fc + 2 ∧ gx_fr D (fc + 1) = (-1, nI (gd_en f), nI (gd_en t), nI (a + 1)))
def gx_lp (post : SX → Prop) (x_typeDraft x_typeCount x_count x_wrongAt x_keptPlace x_runVerdict x_runBlame x_result : Int32) (x_named x_kinds x_values x_ends x_types x_operands x_targets : Nat → Int32) (N τ : Nat) (D : gx_D) : Prop := match D with | (x_cellCount, x_scopeCount, x_frameCount, x_mode, x_atToken, x_scope, x_current, x_callee, x_side, x_ending, x_faultLabel, x_stepsTaken, x_cellShape, x_cellLabel, x_cellOne, x_cellTwo, x_cellThree, x_scopeValue, x_scopeOuter, x_frameKind, x_frameOne, x_frameTwo, x_frameThree) => wX_workOut_7 post N (nI τ) x_typeDraft x_typeCount x_count x_wrongAt x_keptPlace x_cellCount x_scopeCount x_frameCount x_mode x_atToken x_scope x_current x_callee x_side x_ending x_faultLabel x_stepsTaken x_runVerdict x_runBlame x_result x_named x_kinds x_values x_ends x_types x_operands x_targets x_cellShape x_cellLabel x_cellOne x_cellTwo x_cellThree x_scopeValue x_scopeOuter x_frameKind x_frameOne x_frameTwo x_frameThree 32768 32768 32768 32768
def gx_go (post : SX → Prop) (x_typeDraft x_typeCount x_count x_wrongAt x_keptPlace x_runVerdict x_runBlame x_result : Int32) (x_named x_kinds x_values x_ends x_types x_operands x_targets : Nat → Int32) (s : gm_S) (D : gx_D) : Prop := ∀ N, 1000002 ≤ N + gm_u s → gx_lp post x_typeDraft x_typeCount x_count x_wrongAt x_keptPlace x_runVerdict x_runBlame x_result x_named x_kinds x_values x_ends x_types x_operands x_targets N (gm_u s) D
/-- a method's effect on the state -/
def gx_M (wp : (SX → Prop) → SX → Prop) (x_typeDraft x_typeCount x_count x_wrongAt x_keptPlace x_runVerdict x_runBlame x_result : Int32) (x_named x_kinds x_values x_ends x_types x_operands x_targets : Nat → Int32) (D : gx_D) (C : gx_D → Prop) : Prop := ∀ P : SX → Prop, (∀ D', C D' → P (gx_X x_typeDraft x_typeCount x_count x_wrongAt x_keptPlace x_runVerdict x_runBlame x_result x_named x_kinds x_values x_ends x_types x_operands x_targets D')) → wp P (gx_X x_typeDraft x_typeCount x_count x_wrongAt x_keptPlace x_runVerdict x_runBlame x_result x_named x_kinds x_values x_ends x_types x_operands x_targets D)
def gx_vn (P : gm_P) (i : Nat) : Prop := gm_kd P i = 2 → ∃ n, n < 10 ∧ gm_vl P i = nI n
/-- the arrays of a checked draft and the program -/
def gx_P (P : gm_P) (kinds values types operands targets : Nat → Int32) : Prop :=
  gm_cn P ≤ 36 ∧ ∀ i, i < gm_cn P → kinds i = nI (gm_kd P i) ∧ gm_kd P i < 12 ∧ values i = gm_vl P i ∧ types i = nI (gd_en (gm_ty P i)) ∧ gd_TY (gm_ty P i) ∧ gx_vn P i ∧
    (∀ k, k < gs_ar (gm_kd P i) → operands (3 * i + k) = nI (gm_op P i k) ∧ gm_op P i k < gm_cn P ∧ targets (3 * i + k) = nI (gd_en (gm_tg P i k)) ∧ gd_TY (gm_tg P i k))
section
variable {x_typeDraft x_typeCount x_count x_wrongAt x_keptPlace x_cellCount x_scopeCount x_frameCount x_mode x_atToken x_scope x_current x_callee x_side x_ending x_faultLabel x_stepsTaken x_runVerdict x_runBlame x_result : Int32} {x_named x_kinds x_values x_ends x_types x_operands x_targets x_cellShape x_cellLabel x_cellOne x_cellTwo x_cellThree x_scopeValue x_scopeOuter x_frameKind x_frameOne x_frameTwo x_frameThree : Nat → Int32}
variable {post : SX → Prop}
theorem gx_halt {D : gx_D} {N τ : Nat} (hN : 0 < N) (m4 : gx_mode D = 4) (P : post (gx_X x_typeDraft x_typeCount x_count x_wrongAt x_keptPlace x_runVerdict x_runBlame x_result x_named x_kinds x_values x_ends x_types x_operands x_targets D)) : gx_lp post x_typeDraft x_typeCount x_count x_wrongAt x_keptPlace x_runVerdict x_runBlame x_result x_named x_kinds x_values x_ends x_types x_operands x_targets N τ D := by
  obtain ⟨N, rfl⟩ : ∃ k, N = k + 1 := ⟨N - 1, by omega⟩
  obtain ⟨x_cellCount, x_scopeCount, x_frameCount, x_mode, x_atToken, x_scope, x_current, x_callee, x_side, x_ending, x_faultLabel, x_stepsTaken, x_cellShape, x_cellLabel, x_cellOne, x_cellTwo, x_cellThree, x_scopeValue, x_scopeOuter, x_frameKind, x_frameOne, x_frameTwo, x_frameThree⟩ := D
  exact br_c (fun _ => P) (fun _ => br_t m4 P)
theorem gx_room {post : Int32 → Prop} {n m fc : Nat} (hn : n < 8192) (hm : m < 64) (hf : fc < 32767) (P : post 1) : wpX_roomForTurn post (x_typeDraft, x_typeCount, x_count, x_wrongAt, x_keptPlace, nI n, nI m, nI fc, x_mode, x_atToken, x_scope, x_current, x_callee, x_side, x_ending, x_faultLabel, x_stepsTaken, x_runVerdict, x_runBlame, x_result, x_named, x_kinds, x_values, x_ends, x_types, x_operands, x_targets, x_cellShape, x_cellLabel, x_cellOne, x_cellTwo, x_cellThree, x_scopeValue, x_scopeOuter, x_frameKind, x_frameOne, x_frameTwo, x_frameThree, 32768, 32768, 32768, 32768) :=
  br_f (nI_ge (b := 8192) hn (by decide)) (br_f (nI_ge (b := 64) hm (by decide)) (br_f (nI_ge (b := 32767) hf (by decide)) P))
theorem gx_t0 {s : gm_S} {D : gx_D} {fc : Nat} (hu : gm_u s < 1000000) (hm : gm_m s < 64) (hf : fc < 32767) (hH : gx_H s D) (hF : gx_fc D = nI fc) (m0 : gx_mode D = 0) {C : gx_D → Prop} (hM : gx_M wpX_beginToken x_typeDraft x_typeCount x_count x_wrongAt x_keptPlace x_runVerdict x_runBlame x_result x_named x_kinds x_values x_ends x_types x_operands x_targets D C) (K : ∀ D', C D' → gx_go post x_typeDraft x_typeCount x_count x_wrongAt x_keptPlace x_runVerdict x_runBlame x_result x_named x_kinds x_values x_ends x_types x_operands x_targets (gm_tk s) D') : gx_go post x_typeDraft x_typeCount x_count x_wrongAt x_keptPlace x_runVerdict x_runBlame x_result x_named x_kinds x_values x_ends x_types x_operands x_targets s D := by
  intro N hN
  obtain ⟨N, rfl⟩ : ∃ k, N = k + 1 := ⟨N - 1, by omega⟩
  obtain ⟨x_cellCount, x_scopeCount, x_frameCount, x_mode, x_atToken, x_scope, x_current, x_callee, x_side, x_ending, x_faultLabel, x_stepsTaken, x_cellShape, x_cellLabel, x_cellOne, x_cellTwo, x_cellThree, x_scopeValue, x_scopeOuter, x_frameKind, x_frameOne, x_frameTwo, x_frameThree⟩ := D
  obtain ⟨⟨h1, h2, h3⟩, h4, _⟩ := hH
  have hF' : x_frameCount = nI fc := hF
  have m0' : x_mode = 0 := m0
  subst h1 h4 hF' m0'
  refine br_f (nI_ge (b := 1000000) hu (by decide)) (br_f (show ¬ (0 : Int32) = 4 by decide) (gx_room (by omega) hm hf (br_f (show ¬ (1 : Int32) = 0 by decide) (br_f (show ¬ (0 : Int32) < 0 by decide) (br_f (show ¬ (3 : Int32) < 0 by decide) (br_t rfl (hM _ ?_)))))))
  intro D' c
  obtain ⟨x_cellCount, x_scopeCount, x_frameCount, x_mode, x_atToken, x_scope, x_current, x_callee, x_side, x_ending, x_faultLabel, x_stepsTaken, x_cellShape, x_cellLabel, x_cellOne, x_cellTwo, x_cellThree, x_scopeValue, x_scopeOuter, x_frameKind, x_frameOne, x_frameTwo, x_frameThree⟩ := D'
  exact nm_r (nI_1 (gm_u s)) (K _ c N (by have : gm_u (gm_tk s) = gm_u s + 1 := rfl; omega))
theorem gx_t1 {s : gm_S} {D : gx_D} {fc : Nat} (hu : gm_u s < 1000000) (hm : gm_m s < 64) (hf : fc < 32767) (hH : gx_H s D) (hF : gx_fc D = nI fc) (m0 : gx_mode D = 1) {C : gx_D → Prop} (hM : gx_M wpX_resumeFrame x_typeDraft x_typeCount x_count x_wrongAt x_keptPlace x_runVerdict x_runBlame x_result x_named x_kinds x_values x_ends x_types x_operands x_targets D C) (K : ∀ D', C D' → gx_go post x_typeDraft x_typeCount x_count x_wrongAt x_keptPlace x_runVerdict x_runBlame x_result x_named x_kinds x_values x_ends x_types x_operands x_targets (gm_tk s) D') : gx_go post x_typeDraft x_typeCount x_count x_wrongAt x_keptPlace x_runVerdict x_runBlame x_result x_named x_kinds x_values x_ends x_types x_operands x_targets s D := by
  intro N hN
  obtain ⟨N, rfl⟩ : ∃ k, N = k + 1 := ⟨N - 1, by omega⟩
  obtain ⟨x_cellCount, x_scopeCount, x_frameCount, x_mode, x_atToken, x_scope, x_current, x_callee, x_side, x_ending, x_faultLabel, x_stepsTaken, x_cellShape, x_cellLabel, x_cellOne, x_cellTwo, x_cellThree, x_scopeValue, x_scopeOuter, x_frameKind, x_frameOne, x_frameTwo, x_frameThree⟩ := D
  obtain ⟨⟨h1, h2, h3⟩, h4, _⟩ := hH
  have hF' : x_frameCount = nI fc := hF
  have m0' : x_mode = 1 := m0
  subst h1 h4 hF' m0'
  refine br_f (nI_ge (b := 1000000) hu (by decide)) (br_f (show ¬ (1 : Int32) = 4 by decide) (gx_room (by omega) hm hf (br_f (show ¬ (1 : Int32) = 0 by decide) (br_f (show ¬ (1 : Int32) < 0 by decide) (br_f (show ¬ (3 : Int32) < 1 by decide) (br_f (show ¬ (1 : Int32) = 0 by decide) (br_t rfl (hM _ ?_))))))))
  intro D' c
  obtain ⟨x_cellCount, x_scopeCount, x_frameCount, x_mode, x_atToken, x_scope, x_current, x_callee, x_side, x_ending, x_faultLabel, x_stepsTaken, x_cellShape, x_cellLabel, x_cellOne, x_cellTwo, x_cellThree, x_scopeValue, x_scopeOuter, x_frameKind, x_frameOne, x_frameTwo, x_frameThree⟩ := D'
  exact nm_r (nI_1 (gm_u s)) (K _ c N (by have : gm_u (gm_tk s) = gm_u s + 1 := rfl; omega))
theorem gx_t2 {s : gm_S} {D : gx_D} {fc : Nat} (hu : gm_u s < 1000000) (hm : gm_m s < 64) (hf : fc < 32767) (hH : gx_H s D) (hF : gx_fc D = nI fc) (m0 : gx_mode D = 2) {C : gx_D → Prop} (hM : gx_M wpX_callOnce x_typeDraft x_typeCount x_count x_wrongAt x_keptPlace x_runVerdict x_runBlame x_result x_named x_kinds x_values x_ends x_types x_operands x_targets D C) (K : ∀ D', C D' → gx_go post x_typeDraft x_typeCount x_count x_wrongAt x_keptPlace x_runVerdict x_runBlame x_result x_named x_kinds x_values x_ends x_types x_operands x_targets (gm_tk s) D') : gx_go post x_typeDraft x_typeCount x_count x_wrongAt x_keptPlace x_runVerdict x_runBlame x_result x_named x_kinds x_values x_ends x_types x_operands x_targets s D := by
  intro N hN
  obtain ⟨N, rfl⟩ : ∃ k, N = k + 1 := ⟨N - 1, by omega⟩
  obtain ⟨x_cellCount, x_scopeCount, x_frameCount, x_mode, x_atToken, x_scope, x_current, x_callee, x_side, x_ending, x_faultLabel, x_stepsTaken, x_cellShape, x_cellLabel, x_cellOne, x_cellTwo, x_cellThree, x_scopeValue, x_scopeOuter, x_frameKind, x_frameOne, x_frameTwo, x_frameThree⟩ := D
  obtain ⟨⟨h1, h2, h3⟩, h4, _⟩ := hH
  have hF' : x_frameCount = nI fc := hF
  have m0' : x_mode = 2 := m0
  subst h1 h4 hF' m0'
  refine br_f (nI_ge (b := 1000000) hu (by decide)) (br_f (show ¬ (2 : Int32) = 4 by decide) (gx_room (by omega) hm hf (br_f (show ¬ (1 : Int32) = 0 by decide) (br_f (show ¬ (2 : Int32) < 0 by decide) (br_f (show ¬ (3 : Int32) < 2 by decide) (br_f (show ¬ (2 : Int32) = 0 by decide) (br_f (show ¬ (2 : Int32) = 1 by decide) (br_t rfl (hM _ ?_)))))))))
  intro D' c
  obtain ⟨x_cellCount, x_scopeCount, x_frameCount, x_mode, x_atToken, x_scope, x_current, x_callee, x_side, x_ending, x_faultLabel, x_stepsTaken, x_cellShape, x_cellLabel, x_cellOne, x_cellTwo, x_cellThree, x_scopeValue, x_scopeOuter, x_frameKind, x_frameOne, x_frameTwo, x_frameThree⟩ := D'
  exact nm_r (nI_1 (gm_u s)) (K _ c N (by have : gm_u (gm_tk s) = gm_u s + 1 := rfl; omega))
theorem gx_t3 {s : gm_S} {D : gx_D} {fc : Nat} (hu : gm_u s < 1000000) (hm : gm_m s < 64) (hf : fc < 32767) (hH : gx_H s D) (hF : gx_fc D = nI fc) (m0 : gx_mode D = 3) {C : gx_D → Prop} (hM : gx_M wpX_takeOnce x_typeDraft x_typeCount x_count x_wrongAt x_keptPlace x_runVerdict x_runBlame x_result x_named x_kinds x_values x_ends x_types x_operands x_targets D C) (K : ∀ D', C D' → gx_go post x_typeDraft x_typeCount x_count x_wrongAt x_keptPlace x_runVerdict x_runBlame x_result x_named x_kinds x_values x_ends x_types x_operands x_targets (gm_tk s) D') : gx_go post x_typeDraft x_typeCount x_count x_wrongAt x_keptPlace x_runVerdict x_runBlame x_result x_named x_kinds x_values x_ends x_types x_operands x_targets s D := by
  intro N hN
  obtain ⟨N, rfl⟩ : ∃ k, N = k + 1 := ⟨N - 1, by omega⟩
  obtain ⟨x_cellCount, x_scopeCount, x_frameCount, x_mode, x_atToken, x_scope, x_current, x_callee, x_side, x_ending, x_faultLabel, x_stepsTaken, x_cellShape, x_cellLabel, x_cellOne, x_cellTwo, x_cellThree, x_scopeValue, x_scopeOuter, x_frameKind, x_frameOne, x_frameTwo, x_frameThree⟩ := D
  obtain ⟨⟨h1, h2, h3⟩, h4, _⟩ := hH
  have hF' : x_frameCount = nI fc := hF
  have m0' : x_mode = 3 := m0
  subst h1 h4 hF' m0'
  refine br_f (nI_ge (b := 1000000) hu (by decide)) (br_f (show ¬ (3 : Int32) = 4 by decide) (gx_room (by omega) hm hf (br_f (show ¬ (1 : Int32) = 0 by decide) (br_f (show ¬ (3 : Int32) < 0 by decide) (br_f (show ¬ (3 : Int32) < 3 by decide) (br_f (show ¬ (3 : Int32) = 0 by decide) (br_f (show ¬ (3 : Int32) = 1 by decide) (br_f (show ¬ (3 : Int32) = 2 by decide) (br_t rfl (hM _ ?_))))))))))
  intro D' c
  obtain ⟨x_cellCount, x_scopeCount, x_frameCount, x_mode, x_atToken, x_scope, x_current, x_callee, x_side, x_ending, x_faultLabel, x_stepsTaken, x_cellShape, x_cellLabel, x_cellOne, x_cellTwo, x_cellThree, x_scopeValue, x_scopeOuter, x_frameKind, x_frameOne, x_frameTwo, x_frameThree⟩ := D'
  exact nm_r (nI_1 (gm_u s)) (K _ c N (by have : gm_u (gm_tk s) = gm_u s + 1 := rfl; omega))
theorem gx_pushFrame {fc : Nat} (hf : fc < 32768) {p0 p1 p2 p3 : Int32} (h : p0 = -1 → ¬ p1 = p2) (P : post (x_typeDraft, x_typeCount, x_count, x_wrongAt, x_keptPlace, x_cellCount, x_scopeCount, nI (fc + 1), x_mode, x_atToken, x_scope, x_current, x_callee, x_side, x_ending, x_faultLabel, x_stepsTaken, x_runVerdict, x_runBlame, x_result, x_named, x_kinds, x_values, x_ends, x_types, x_operands, x_targets, x_cellShape, x_cellLabel, x_cellOne, x_cellTwo, x_cellThree, x_scopeValue, x_scopeOuter, upd x_frameKind fc p0, upd x_frameOne fc p1, upd x_frameTwo fc p2, upd x_frameThree fc p3, 32768, 32768, 32768, 32768)) : wpX_pushFrame post (x_typeDraft, x_typeCount, x_count, x_wrongAt, x_keptPlace, x_cellCount, x_scopeCount, nI fc, x_mode, x_atToken, x_scope, x_current, x_callee, x_side, x_ending, x_faultLabel, x_stepsTaken, x_runVerdict, x_runBlame, x_result, x_named, x_kinds, x_values, x_ends, x_types, x_operands, x_targets, x_cellShape, x_cellLabel, x_cellOne, x_cellTwo, x_cellThree, x_scopeValue, x_scopeOuter, x_frameKind, x_frameOne, x_frameTwo, x_frameThree, 32768, 32768, 32768, 32768) p0 p1 p2 p3 := by
  have c : (nI fc).toNatClampNeg = fc := nI_clamp (by omega)
  have v : vp_in (nI fc) 32768 := vp_in_nI hf (by decide)
  have main : wX_pushFrame_11 post p0 p1 p2 p3 x_typeDraft x_typeCount x_count x_wrongAt x_keptPlace x_cellCount x_scopeCount (nI fc) x_mode x_atToken x_scope x_current x_callee x_side x_ending x_faultLabel x_stepsTaken x_runVerdict x_runBlame x_result x_named x_kinds x_values x_ends x_types x_operands x_targets x_cellShape x_cellLabel x_cellOne x_cellTwo x_cellThree x_scopeValue x_scopeOuter x_frameKind x_frameOne x_frameTwo x_frameThree 32768 32768 32768 32768 :=
    And.intro v (nm_r (congrArg (fun k => upd x_frameKind k p0) c) (And.intro v (nm_r (congrArg (fun k => upd x_frameOne k p1) c) (And.intro v (nm_r (congrArg (fun k => upd x_frameTwo k p2) c) (And.intro v (nm_r (congrArg (fun k => upd x_frameThree k p3) c) (nm_r (nI_1 fc) P))))))))
  exact br_c (fun z => br_f (h z) main) (fun _ => main)
theorem gx_pushSkip {p1 p3 : Int32} (P : post (x_typeDraft, x_typeCount, x_count, x_wrongAt, x_keptPlace, x_cellCount, x_scopeCount, x_frameCount, x_mode, x_atToken, x_scope, x_current, x_callee, x_side, x_ending, x_faultLabel, x_stepsTaken, x_runVerdict, x_runBlame, x_result, x_named, x_kinds, x_values, x_ends, x_types, x_operands, x_targets, x_cellShape, x_cellLabel, x_cellOne, x_cellTwo, x_cellThree, x_scopeValue, x_scopeOuter, x_frameKind, x_frameOne, x_frameTwo, x_frameThree, 32768, 32768, 32768, 32768)) : wpX_pushFrame post (x_typeDraft, x_typeCount, x_count, x_wrongAt, x_keptPlace, x_cellCount, x_scopeCount, x_frameCount, x_mode, x_atToken, x_scope, x_current, x_callee, x_side, x_ending, x_faultLabel, x_stepsTaken, x_runVerdict, x_runBlame, x_result, x_named, x_kinds, x_values, x_ends, x_types, x_operands, x_targets, x_cellShape, x_cellLabel, x_cellOne, x_cellTwo, x_cellThree, x_scopeValue, x_scopeOuter, x_frameKind, x_frameOne, x_frameTwo, x_frameThree, 32768, 32768, 32768, 32768) (-1) p1 p1 p3 := br_t rfl (br_t rfl P)
theorem gx_startOperand {fc i k o : Nat} {f t : Lean.RArray Nat} {w hd : Int32} (hf : fc + 1 < 32768) (hi : i < 36) (hk : k < 3) (ho : o < 36) (eo : x_operands (3 * i + k) = nI o) (ef : x_types o = nI (gd_en f)) (et : x_targets (3 * i + k) = nI (gd_en t)) (tf : gd_TY f) (tt : gd_TY t)
    (P : ∀ fc' fk f1 f2 f3, fk fc = nI (3 * i + k) → f1 fc = w → f2 fc = hd → (gd_en f = gd_en t → fc' = fc + 1) → (gd_en f ≠ gd_en t → fc' = fc + 2 ∧ fk (fc + 1) = -1 ∧ f1 (fc + 1) = nI (gd_en f) ∧ f2 (fc + 1) = nI (gd_en t) ∧ f3 (fc + 1) = nI (3 * i + k + 1)) → (∀ j, j < fc → fk j = x_frameKind j ∧ f1 j = x_frameOne j ∧ f2 j = x_frameTwo j ∧ f3 j = x_frameThree j) →
      post (x_typeDraft, x_typeCount, x_count, x_wrongAt, x_keptPlace, x_cellCount, x_scopeCount, nI fc', 0, nI o, w, x_current, x_callee, x_side, x_ending, x_faultLabel, x_stepsTaken, x_runVerdict, x_runBlame, x_result, x_named, x_kinds, x_values, x_ends, x_types, x_operands, x_targets, x_cellShape, x_cellLabel, x_cellOne, x_cellTwo, x_cellThree, x_scopeValue, x_scopeOuter, fk, f1, f2, f3, 32768, 32768, 32768, 32768)) :
    wpX_startOperand post (x_typeDraft, x_typeCount, x_count, x_wrongAt, x_keptPlace, x_cellCount, x_scopeCount, nI fc, x_mode, x_atToken, x_scope, x_current, x_callee, x_side, x_ending, x_faultLabel, x_stepsTaken, x_runVerdict, x_runBlame, x_result, x_named, x_kinds, x_values, x_ends, x_types, x_operands, x_targets, x_cellShape, x_cellLabel, x_cellOne, x_cellTwo, x_cellThree, x_scopeValue, x_scopeOuter, x_frameKind, x_frameOne, x_frameTwo, x_frameThree, 32768, 32768, 32768, 32768) (nI i) (nI k) w hd := by
  have ea : (3 : Int32) * nI i + nI k = nI (3 * i + k) := by
    rw [show (3 : Int32) * nI i = nI (3 * i) from pk_mul 3 i, nI_add]
  refine nm_r ea ?_
  rw [nI_clamp (show 3 * i + k < 2 ^ 31 by omega), eo]
  refine And.intro (vp_in_nI (by omega) (by decide)) (nm_e ?_)
  refine gx_pushFrame (by omega) (fun z => absurd z ?_) ?_
  · intro z
    have := congrArg Int32.toInt z
    rw [nI_toInt (by omega)] at this
    have m1 : (-1 : Int32).toInt = -1 := by decide
    omega
  dsimp only
  rw [nI_clamp (show o < 2 ^ 31 by omega), ef, et, nI_1]
  refine And.intro (vp_in_nI ho (by decide)) (And.intro (vp_in_nI (by omega) (by decide)) ?_)
  by_cases e : gd_en f = gd_en t
  · rw [e]
    refine gx_pushSkip ?_
    refine P (fc + 1) (upd x_frameKind fc (nI (3 * i + k))) (upd x_frameOne fc w) (upd x_frameTwo fc hd) (upd x_frameThree fc 0) pk_us pk_us pk_us (fun _ => rfl) (fun z => absurd e z) (fun j hj => ?_)
    rw [pk_un (by omega), pk_un (by omega), pk_un (by omega), pk_un (by omega)]
    exact ⟨rfl, rfl, rfl, rfl⟩
  · refine gx_pushFrame hf (fun _ z => e ((gx_enI tf tt).mp z)) ?_
    refine P (fc + 2) (upd (upd x_frameKind fc (nI (3 * i + k))) (fc + 1) (-1)) (upd (upd x_frameOne fc w) (fc + 1) (nI (gd_en f))) (upd (upd x_frameTwo fc hd) (fc + 1) (nI (gd_en t))) (upd (upd x_frameThree fc 0) (fc + 1) (nI (3 * i + k + 1))) ?_ ?_ ?_ (fun z => absurd z e) (fun _ => ⟨rfl, pk_us, pk_us, pk_us, pk_us⟩) (fun j hj => ?_)
    · rw [pk_un (by omega)]; exact pk_us
    · rw [pk_un (by omega)]; exact pk_us
    · rw [pk_un (by omega)]; exact pk_us
    · rw [pk_un (by omega), pk_un (by omega), pk_un (by omega), pk_un (by omega), pk_un (by omega), pk_un (by omega), pk_un (by omega), pk_un (by omega)]
      exact ⟨rfl, rfl, rfl, rfl⟩
end
