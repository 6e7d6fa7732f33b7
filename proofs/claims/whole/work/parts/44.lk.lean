/-! ===== 44: look, as the machine does it ===== -/
def gm_SS (s s' : gm_S) : Prop := gm_le s s' ∧ gm_m s' = gm_m s ∧ gm_e s' = gm_e s ∧ gm_T s' = gm_T s
theorem gm_SS_refl (s : gm_S) : gm_SS s s := ⟨gm_le_refl s, rfl, rfl, rfl⟩
theorem gm_SS_trans {a b c : gm_S} (h : gm_SS a b) (g : gm_SS b c) : gm_SS a c := ⟨gm_le_trans h.1 g.1, g.2.1.trans h.2.1, g.2.2.1.trans h.2.2.1, g.2.2.2.trans h.2.2.2⟩
theorem gm_SS_fc {s : gm_S} {h v : Nat} {f t : Lean.RArray Nat} {p : Int} {out : gm_O} (H : gm_fc s h v f t p = some out) : gm_SS s out.2.2.2 := by
  have le := (gm_LE_fc H).1
  unfold gm_fc at H
  by_cases e : gd_en f = gd_en t
  · rw [if_pos e] at H
    injection H with H
    subst H
    exact gm_SS_refl s
  · rw [if_neg e] at H
    have c := gm_cast_same (gm_tick_e H).2
    exact ⟨le, c.1, c.2.1, c.2.2.1⟩
theorem gm_SS_take {side : Nat} : ∀ (n h v : Nat) (s : gm_S) (out : gm_O), gm_take side n h v s = some out → gm_SS s out.2.2.2 := by
  intro n
  induction n with
  | zero =>
    intro h v s out H
    simp only [gm_take] at H
    obtain ⟨_, H⟩ := gm_if_e (gm_tick_e H).2
    injection H with H
    subst H
    exact ⟨gm_le_tk s, rfl, rfl, rfl⟩
  | succ n ih =>
    intro h v s out H
    simp only [gm_take] at H
    obtain ⟨_, H⟩ := gm_if_e (gm_tick_e H).2
    have tk : gm_SS s (gm_tk s) := ⟨gm_le_tk s, rfl, rfl, rfl⟩
    refine gm_bd_e H ?_ ?_
    · intro u p s1 e1 H1
      exact gm_SS_trans tk (gm_SS_trans (ih _ _ _ _ e1) (gm_SS_fc H1))
    · intro e1 _
      exact gm_SS_trans tk (ih _ _ _ _ e1)
def gm_lk2 (o : Option gm_O) (k : Nat → gm_S → Option (Nat × gm_S × Nat)) : Option (Nat × gm_S × Nat) :=
  match o with
  | none => none
  | some (0, u, _, s) => k u s
  | some (_ + 1, v, _, s) => some (2, s, v)
def gm_lk : Nat → Nat → gm_S → Nat → Option (Nat × gm_S × Nat)
  | 0, _, s, v => some (0, s, v)
  | m + 1, w, s, v => if w % 4 = 0 then some (0, s, v) else if w % 4 = 3 ∨ gm_sh (gm_ck (gm_h s (v / 8))) ≠ 4 then some (1, s, v)
      else gm_lk2 (gm_take (w % 4 - 1) (gm_q1 (gm_h s (v / 8))) 0 v (gm_u0 s)) (fun u s' => gm_lk m (w / 4) s' u)
theorem gm_lk2_e {o : Option gm_O} {k : Nat → gm_S → Option (Nat × gm_S × Nat)} {r : Nat × gm_S × Nat} {C : Prop} (h : gm_lk2 o k = some r) (h1 : ∀ out, o = some out → out.1 = 0 → k out.2.1 out.2.2.2 = some r → C) (h2 : ∀ out, o = some out → out.1 ≠ 0 → r = (2, out.2.2.2, out.2.1) → C) : C := by
  match o, h with
  | some (0, u, p, s), h => exact h1 (0, u, p, s) rfl rfl h
  | some (c + 1, u, p, s), h =>
    have e : some (2, s, u) = some r := h
    injection e with e
    exact h2 (c + 1, u, p, s) rfl (Nat.succ_ne_zero c) e.symm
theorem gm_lk_ok {P : gm_P} {cn : Nat} {G : Nat → List (Lean.RArray Nat)} (hP : gm_SF P cn G) : ∀ (m w : Nat) (s : gm_S) (v : Nat), gm_L P cn G s v → ∃ r, gm_lk m w s v = some r ∧ gm_SS s r.2.1 ∧ (r.1 = 0 → gm_L P cn G r.2.1 r.2.2) ∧ (r.1 = 0 ∨ r.1 = 1 ∨ r.1 = 2) := by
  intro m
  induction m with
  | zero => intro w s v L; exact ⟨(0, s, v), rfl, gm_SS_refl s, fun _ => L, Or.inl rfl⟩
  | succ m ih =>
    intro w s v L
    simp only [gm_lk]
    by_cases c0 : w % 4 = 0
    · rw [if_pos c0]; exact ⟨(0, s, v), rfl, gm_SS_refl s, fun _ => L, Or.inl rfl⟩
    rw [if_neg c0]
    by_cases c1 : w % 4 = 3 ∨ gm_sh (gm_ck (gm_h s (v / 8))) ≠ 4
    · rw [if_pos c1]; exact ⟨(1, s, v), rfl, gm_SS_refl s, fun z => absurd (show (1 : Nat) = 0 from z) (by decide), Or.inr (Or.inl rfl)⟩
    rw [if_neg c1]
    have sh : gm_sh (gm_ck (gm_h s (v / 8))) = 4 := by
      by_cases z : gm_sh (gm_ck (gm_h s (v / 8))) = 4
      · exact z
      · exact absurd (Or.inr z) c1
    have ok := gm_look_take (side := w % 4 - 1) hP L sh
    cases H : gm_take (w % 4 - 1) (gm_q1 (gm_h s (v / 8))) 0 v (gm_u0 s) with
    | none => rw [H] at ok; exact ok.elim
    | some out =>
      have ss : gm_SS s out.2.2.2 := gm_SS_trans (show gm_SS s (gm_u0 s) from ⟨gm_le_refl s, rfl, rfl, rfl⟩) (gm_SS_take _ _ _ _ _ H)
      rw [H] at ok
      obtain ⟨c, u, p, s'⟩ := out
      cases c with
      | zero =>
        have L' : gm_L P cn G s' u := ok.1
        obtain ⟨r, h1, h2, h3, h4⟩ := ih (w / 4) s' u L'
        exact ⟨r, h1, gm_SS_trans ss h2, h3, h4⟩
      | succ c => exact ⟨(2, s', u), rfl, ss, fun z => absurd (show (2 : Nat) = 0 from z) (by decide), Or.inr (Or.inr rfl)⟩
/-- what look tells of a value -/
def gm_ans (s : gm_S) (v a : Nat) : Int32 := if a = 0 then nI (gm_sh (gm_ck (gm_h s (v / 8)))) else if a = 1 then (if gm_ck (gm_h s (v / 8)) < 3 then gm_ci (gm_h s (v / 8)) else 0) else (if v % 8 = 0 then 0 else 1)
theorem gm_L_ck {P : gm_P} {cn : Nat} {G : Nat → List (Lean.RArray Nat)} {s : gm_S} {v : Nat} (L : gm_L P cn G s v) : v / 8 < gm_n s ∧ 1 ≤ gm_ck (gm_h s (v / 8)) ∧ gm_ck (gm_h s (v / 8)) ≤ 6 := by
  obtain ⟨H, ⟨t, _, hv⟩, _⟩ := L
  refine ⟨hv.1, ?_⟩
  rcases H _ hv.1 with x | x | x | x | x
  · have := x.1; omega
  · have := x.1; omega
  · have := x.1; omega
  · have := x.1; omega
  · obtain ⟨_, _, _, _, _, hk, _⟩ := x
    rcases hk with q | q
    · have := q.1; omega
    · have := q.1; omega
def gx_setc (D : gx_D) (x : Int32) : gx_D := match D with | (x_cellCount, x_scopeCount, x_frameCount, x_mode, x_atToken, x_scope, x_current, x_callee, x_side, x_ending, x_faultLabel, x_stepsTaken, x_cellShape, x_cellLabel, x_cellOne, x_cellTwo, x_cellThree, x_scopeValue, x_scopeOuter, x_frameKind, x_frameOne, x_frameTwo, x_frameThree) => (x, x_scopeCount, x_frameCount, x_mode, x_atToken, x_scope, x_current, x_callee, x_side, x_ending, x_faultLabel, x_stepsTaken, x_cellShape, x_cellLabel, x_cellOne, x_cellTwo, x_cellThree, x_scopeValue, x_scopeOuter, x_frameKind, x_frameOne, x_frameTwo, x_frameThree)
theorem gx_back {s s' : gm_S} {D : gx_D} (h : gx_H s' D) (ss : gm_SS s s') : gx_H s (gx_setc D (nI (gm_n s))) := by
  obtain ⟨x_cellCount, x_scopeCount, x_frameCount, x_mode, x_atToken, x_scope, x_current, x_callee, x_side, x_ending, x_faultLabel, x_stepsTaken, x_cellShape, x_cellLabel, x_cellOne, x_cellTwo, x_cellThree, x_scopeValue, x_scopeOuter, x_frameKind, x_frameOne, x_frameTwo, x_frameThree⟩ := D
  obtain ⟨⟨a1, a2, a3⟩, a4, a5, a6, a7, a8⟩ := h
  obtain ⟨le, m, e, T⟩ := ss
  refine ⟨⟨rfl, Nat.le_trans le.1 a2, fun c hc => ?_⟩, ?_, ?_, ?_, ?_, ?_⟩
  · have := a3 c (Nat.lt_of_lt_of_le hc le.1)
    rw [le.2.1 c hc] at this
    exact this
  · rw [← m]; exact a4
  · rw [← m]; exact a5
  · rw [← T]; exact a6
  · rw [← T]; exact a7
  · intro w w0 w1
    rw [← e]
    exact a8 w w0 (by rw [m]; exact w1)
def gy_setv (D : gy_D) (x : Int32) : gy_D := match D with | (y_values, y_variables, y_waits, y_at, y_world, y_steps, y_blame, y_result, y_sort, y_one, y_two, y_from, y_to, y_label, y_held, y_around, y_waiting, y_operand, y_outer, y_kept) => (x, y_variables, y_waits, y_at, y_world, y_steps, 0, y_result, y_sort, y_one, y_two, y_from, y_to, y_label, y_held, y_around, y_waiting, y_operand, y_outer, y_kept)
theorem gy_back {ty : Nat → Int32} {s s' : gm_S} {E : gy_D} (h : gy_H ty s' (gy_clr E)) (ss : gm_SS s s') : gy_H ty s (gy_setv E (nI (gm_n s))) := by
  obtain ⟨y_values, y_variables, y_waits, y_at, y_world, y_steps, y_blame, y_result, y_sort, y_one, y_two, y_from, y_to, y_label, y_held, y_around, y_waiting, y_operand, y_outer, y_kept⟩ := E
  obtain ⟨⟨a1, a2, a3⟩, a4, a5, a6, a7, a8, a9, a10⟩ := h
  obtain ⟨le, m, e, T⟩ := ss
  refine ⟨⟨rfl, Nat.le_trans le.1 a2, fun c hc => ?_⟩, ?_, ?_, ?_, ?_, ?_, rfl, ?_⟩
  · have := a3 c (Nat.lt_of_lt_of_le hc le.1)
    rw [le.2.1 c hc] at this
    exact this
  · rw [← m]; exact a4
  · rw [← m]; exact a5
  · rw [← m]; exact a6
  · rw [← T]; exact a7
  · rw [← T]; exact a8
  · intro w w0 w1
    rw [← e]
    exact a10 w w0 (by rw [m]; exact w1)
theorem gy_clr_H {ty : Nat → Int32} {s : gm_S} {E : gy_D} (h : gy_H ty s E) : gy_H ty s (gy_clr E) := by
  obtain ⟨y_values, y_variables, y_waits, y_at, y_world, y_steps, y_blame, y_result, y_sort, y_one, y_two, y_from, y_to, y_label, y_held, y_around, y_waiting, y_operand, y_outer, y_kept⟩ := E
  obtain ⟨a1, a4, a5, a6, a7, a8, a9, a10⟩ := h
  exact ⟨a1, a4, a5, a6, a7, a8, rfl, a10⟩
section
variable {x_typeDraft x_typeCount x_count x_wrongAt x_keptPlace x_cellCount x_scopeCount x_frameCount x_mode x_atToken x_scope x_current x_callee x_side x_ending x_faultLabel x_stepsTaken x_runVerdict x_runBlame x_result : Int32} {x_named x_kinds x_values x_ends x_types x_operands x_targets x_cellShape x_cellLabel x_cellOne x_cellTwo x_cellThree x_scopeValue x_scopeOuter x_frameKind x_frameOne x_frameTwo x_frameThree : Nat → Int32}
theorem gr_xtake {side n v : Nat} {s : gm_S} {out : gm_O} {D : gx_D} {R : SX → Prop} (h2 : side < 2) (H : gm_take side n 0 v (gm_u0 s) = some out) (hH : gx_H s D) (hc : gx_cur D = nI (gm_xv v)) (hu : out.1 = 0 → gm_u out.2.2.2 < 1000000 ∧ gm_m out.2.2.2 < 64)
    (A : out.1 = 0 → ∀ D', gx_H out.2.2.2 D' → gx_cur D' = nI (gm_xv out.2.1) → gx_end D' = 0 → R (gx_X x_typeDraft x_typeCount x_count x_wrongAt x_keptPlace x_runVerdict x_runBlame x_result x_named x_kinds x_values x_ends x_types x_operands x_targets D')) (B : out.1 ≠ 0 → ∀ D', gx_E out D' → R (gx_X x_typeDraft x_typeCount x_count x_wrongAt x_keptPlace x_runVerdict x_runBlame x_result x_named x_kinds x_values x_ends x_types x_operands x_targets D')) : (match D with | (x_cellCount, x_scopeCount, x_frameCount, x_mode, x_atToken, x_scope, x_current, x_callee, x_side, x_ending, x_faultLabel, x_stepsTaken, x_cellShape, x_cellLabel, x_cellOne, x_cellTwo, x_cellThree, x_scopeValue, x_scopeOuter, x_frameKind, x_frameOne, x_frameTwo, x_frameThree) => wpX_workOut R (x_typeDraft, x_typeCount, x_count, x_wrongAt, x_keptPlace, x_cellCount, x_scopeCount, 0, 3, x_atToken, x_scope, x_current, x_callee, nI side, x_ending, x_faultLabel, x_stepsTaken, x_runVerdict, x_runBlame, x_result, x_named, x_kinds, x_values, x_ends, x_types, x_operands, x_targets, x_cellShape, x_cellLabel, x_cellOne, x_cellTwo, x_cellThree, x_scopeValue, x_scopeOuter, x_frameKind, x_frameOne, x_frameTwo, x_frameThree, 32768, 32768, 32768, 32768)) := by
  obtain ⟨x_cellCount, x_scopeCount, x_frameCount, x_mode, x_atToken, x_scope, x_current, x_callee, x_side, x_ending, x_faultLabel, x_stepsTaken, x_cellShape, x_cellLabel, x_cellOne, x_cellTwo, x_cellThree, x_scopeValue, x_scopeOuter, x_frameKind, x_frameOne, x_frameTwo, x_frameThree⟩ := D
  have go := gx_take_sim (post := R) (x_typeDraft := x_typeDraft) (x_typeCount := x_typeCount) (x_count := x_count) (x_wrongAt := x_wrongAt) (x_keptPlace := x_keptPlace) (x_runVerdict := x_runVerdict) (x_runBlame := x_runBlame) (x_result := x_result) (x_named := x_named) (x_kinds := x_kinds) (x_values := x_values) (x_ends := x_ends) (x_types := x_types) (x_operands := x_operands) (x_targets := x_targets) h2 n 0 v (gm_u0 s) out (x_cellCount, x_scopeCount, 0, 3, x_atToken, x_scope, x_current, x_callee, nI side, 5, x_faultLabel, x_stepsTaken, x_cellShape, x_cellLabel, x_cellOne, x_cellTwo, x_cellThree, x_scopeValue, x_scopeOuter, x_frameKind, x_frameOne, x_frameTwo, x_frameThree) 0 H (Nat.le_refl _) hH rfl rfl rfl hc ?_ (fun z D' hE => B z D' hE)
  · exact Exists.intro 1000002 (go 1000002 (by show 1000002 ≤ 1000002 + 0; omega))
  · intro D' z a1 a2 a3 a4 a5
    obtain ⟨u1, u2⟩ := hu z
    refine gx_last u1 u2 a1 a2 a4 (A z (gx_stop D') ?_ ?_ ?_)
    · obtain ⟨x_cellCount, x_scopeCount, x_frameCount, x_mode, x_atToken, x_scope, x_current, x_callee, x_side, x_ending, x_faultLabel, x_stepsTaken, x_cellShape, x_cellLabel, x_cellOne, x_cellTwo, x_cellThree, x_scopeValue, x_scopeOuter, x_frameKind, x_frameOne, x_frameTwo, x_frameThree⟩ := D'
      exact a1
    · obtain ⟨x_cellCount, x_scopeCount, x_frameCount, x_mode, x_atToken, x_scope, x_current, x_callee, x_side, x_ending, x_faultLabel, x_stepsTaken, x_cellShape, x_cellLabel, x_cellOne, x_cellTwo, x_cellThree, x_scopeValue, x_scopeOuter, x_frameKind, x_frameOne, x_frameTwo, x_frameThree⟩ := D'
      exact a5
    · obtain ⟨x_cellCount, x_scopeCount, x_frameCount, x_mode, x_atToken, x_scope, x_current, x_callee, x_side, x_ending, x_faultLabel, x_stepsTaken, x_cellShape, x_cellLabel, x_cellOne, x_cellTwo, x_cellThree, x_scopeValue, x_scopeOuter, x_frameKind, x_frameOne, x_frameTwo, x_frameThree⟩ := D'
      rfl
end
