/-! ===== 13: X follows the machine ===== -/
theorem gm_new_same {s : gm_S} {c : gm_Cell} {add : Nat} {out : gm_O} (H : gm_new s c add = some out) : gm_m out.2.2.2 = gm_m s ∧ gm_e out.2.2.2 = gm_e s ∧ gm_T out.2.2.2 = gm_T s ∧ gm_u out.2.2.2 = gm_u s := by
  obtain ⟨_, H⟩ := gm_new_e H
  subst H
  exact ⟨rfl, rfl, rfl, rfl⟩
theorem gm_wr_same {s : gm_S} {v : Nat} {f t : Lean.RArray Nat} {p : Int} {add : Nat} {out : gm_O} (H : gm_wr s v f t p add = some out) : gm_m out.2.2.2 = gm_m s ∧ gm_e out.2.2.2 = gm_e s ∧ gm_T out.2.2.2 = gm_T s ∧ gm_u out.2.2.2 = gm_u s := by
  unfold gm_wr at H
  by_cases e : gd_en f = gd_en t
  · rw [if_pos e] at H
    injection H with H
    subst H
    exact ⟨rfl, rfl, rfl, rfl⟩
  · rw [if_neg e] at H
    exact gm_new_same (gm_if_e H).2
theorem gm_cast_same {s : gm_S} {v : Nat} {f t : Lean.RArray Nat} {p : Int} {out : gm_O} (H : gm_cast s v f t p = some out) : gm_m out.2.2.2 = gm_m s ∧ gm_e out.2.2.2 = gm_e s ∧ gm_T out.2.2.2 = gm_T s ∧ gm_u out.2.2.2 = gm_u s := by
  obtain ⟨_, _, _, H⟩ := gm_cast_e H
  by_cases e : gd_en f = gd_en t
  · rw [if_pos e] at H
    injection H with H
    subst H
    exact ⟨rfl, rfl, rfl, rfl⟩
  rw [if_neg e] at H
  by_cases t2 : gd_hd t = 2
  · rw [if_pos t2] at H
    exact gm_wr_same H
  rw [if_neg t2] at H
  by_cases f2 : gd_hd f = 2
  · rw [if_pos f2] at H
    by_cases c : v % 8 = gm_tag t
    · rw [if_pos c] at H
      exact gm_wr_same H
    · rw [if_neg c] at H
      injection H with H
      subst H
      exact ⟨rfl, rfl, rfl, rfl⟩
  · rw [if_neg f2] at H
    exact gm_wr_same H
/-- halted with this answer -/
def gx_E (out : gm_O) (D : gx_D) : Prop := gx_mode D = 4 ∧ gx_end D = nI out.1 ∧ gx_stp D = nI (gm_T out.2.2.2) ∧ (out.1 = 4 → gx_flt D = gm_lb out.2.2.1) ∧ gx_H out.2.2.2 D
def gx_K0 (post : SX → Prop) (x_typeDraft x_typeCount x_count x_wrongAt x_keptPlace x_runVerdict x_runBlame x_result : Int32) (x_named x_kinds x_values x_ends x_types x_operands x_targets : Nat → Int32) (fc : Nat) (D : gx_D) (out : gm_O) : Prop := ∀ D', out.1 = 0 → gx_H out.2.2.2 D' → gx_fc D' = nI fc → gx_A fc D D' → gx_mode D' = 1 → gx_cur D' = nI (gm_xv out.2.1) → gx_go post x_typeDraft x_typeCount x_count x_wrongAt x_keptPlace x_runVerdict x_runBlame x_result x_named x_kinds x_values x_ends x_types x_operands x_targets out.2.2.2 D'
def gx_KB (post : SX → Prop) (x_typeDraft x_typeCount x_count x_wrongAt x_keptPlace x_runVerdict x_runBlame x_result : Int32) (x_named x_kinds x_values x_ends x_types x_operands x_targets : Nat → Int32) (out : gm_O) : Prop := out.1 ≠ 0 → ∀ D', gx_E out D' → post (gx_X x_typeDraft x_typeCount x_count x_wrongAt x_keptPlace x_runVerdict x_runBlame x_result x_named x_kinds x_values x_ends x_types x_operands x_targets D')
section
variable {x_typeDraft x_typeCount x_count x_wrongAt x_keptPlace x_cellCount x_scopeCount x_frameCount x_mode x_atToken x_scope x_current x_callee x_side x_ending x_faultLabel x_stepsTaken x_runVerdict x_runBlame x_result : Int32} {x_named x_kinds x_values x_ends x_types x_operands x_targets x_cellShape x_cellLabel x_cellOne x_cellTwo x_cellThree x_scopeValue x_scopeOuter x_frameKind x_frameOne x_frameTwo x_frameThree : Nat → Int32}
variable {post : SX → Prop}
theorem gx_K0_A {fc fc' : Nat} {D D' : gx_D} {out : gm_O} (h : gx_K0 post x_typeDraft x_typeCount x_count x_wrongAt x_keptPlace x_runVerdict x_runBlame x_result x_named x_kinds x_values x_ends x_types x_operands x_targets fc D out) (e : fc = fc') (a : gx_A fc D D') : gx_K0 post x_typeDraft x_typeCount x_count x_wrongAt x_keptPlace x_runVerdict x_runBlame x_result x_named x_kinds x_values x_ends x_types x_operands x_targets fc' D' out := by
  subst e
  intro D'' h0 h1 h2 h3 h4 h5
  exact h D'' h0 h1 h2 (gx_A_trans a h3 (Nat.le_refl _)) h4 h5
/-- the cast of a frame -/
theorem gx_castTurn {s : gm_S} {D : gx_D} {fc v : Nat} {f t : Lean.RArray Nat} {p : Int} {out : gm_O} (H : gm_cast s v f t p = some out) (hf : fc < 32767) (hp : gm_PB p) (hH : gx_H s D) (hF : gx_fc D = nI (fc + 1)) (hfr : gx_fr D fc = (-1, nI (gd_en f), nI (gd_en t), gm_lb p)) (hm : gx_mode D = 1) (hc : gx_cur D = nI (gm_xv v)) :
    gx_M wpX_resumeFrame x_typeDraft x_typeCount x_count x_wrongAt x_keptPlace x_runVerdict x_runBlame x_result x_named x_kinds x_values x_ends x_types x_operands x_targets D (fun D' => (out.1 = 0 ∧ gx_H out.2.2.2 D' ∧ gx_fc D' = nI fc ∧ gx_A fc D D' ∧ gx_mode D' = 1 ∧ gx_cur D' = nI (gm_xv out.2.1)) ∨ (out.1 ≠ 0 ∧ gx_E out D')) := by
  intro P HP
  obtain ⟨x_cellCount, x_scopeCount, x_frameCount, x_mode, x_atToken, x_scope, x_current, x_callee, x_side, x_ending, x_faultLabel, x_stepsTaken, x_cellShape, x_cellLabel, x_cellOne, x_cellTwo, x_cellThree, x_scopeValue, x_scopeOuter, x_frameKind, x_frameOne, x_frameTwo, x_frameThree⟩ := D
  have hF' : x_frameCount = nI (fc + 1) := hF
  have hm' : x_mode = 1 := hm
  have hc' : x_current = nI (gm_xv v) := hc
  subst hF' hm' hc'
  have hfr' : (x_frameKind fc, x_frameOne fc, x_frameTwo fc, x_frameThree fc) = ((-1 : Int32), nI (gd_en f), nI (gd_en t), gm_lb p) := hfr
  injection hfr' with e0 e1
  injection e1 with e1 e2
  injection e2 with e2 e3
  obtain ⟨h0, h4, h5, h6, h7, h8⟩ := hH
  have same := gm_cast_same H
  have vin : vp_in (nI fc) 32768 := vp_in_nI (by omega) (by decide)
  refine br_f (nI_ne0 (by omega) (by omega)) (nm_r (nI_pred fc) ?_)
  rw [nI_clamp (show fc < 2 ^ 31 by omega), e0, e1, e2, e3]
  refine And.intro vin (nm_e (And.intro vin (nm_e (And.intro vin (nm_e (br_t rfl (And.intro vin (gx_castValue H h0 hp ?_ ?_))))))))
  · intro w s' cc cSh cLb c1 c2 c3 eo hH'
    subst eo
    obtain ⟨m1, m2, m3, m4⟩ := same
    refine HP (cc, x_scopeCount, nI fc, 1, x_atToken, x_scope, nI (gm_xv w), x_callee, x_side, x_ending, x_faultLabel, x_stepsTaken, cSh, cLb, c1, c2, c3, x_scopeValue, x_scopeOuter, x_frameKind, x_frameOne, x_frameTwo, x_frameThree) (Or.inl ⟨rfl, ⟨hH', ?_, ?_, ?_, ?_, ?_⟩, rfl, fun j hj => rfl, rfl, rfl⟩)
    · exact h4.trans (congrArg nI m1.symm)
    · show gm_m s' ≤ 64
      rw [show gm_m s' = gm_m s from m1]
      exact h5
    · exact h6.trans (congrArg nI m3.symm)
    · show gm_T s' ≤ 40
      rw [show gm_T s' = gm_T s from m3]
      exact h7
    · intro w' a b
      rw [show gm_e s' = gm_e s from m2]
      exact h8 w' a (by rw [← show gm_m s' = gm_m s from m1]; exact b)
  · intro eo
    subst eo
    exact HP (x_cellCount, x_scopeCount, nI fc, 4, x_atToken, x_scope, nI (gm_xv v), x_callee, x_side, 4, gm_lb p, x_stepsTaken, x_cellShape, x_cellLabel, x_cellOne, x_cellTwo, x_cellThree, x_scopeValue, x_scopeOuter, x_frameKind, x_frameOne, x_frameTwo, x_frameThree) (Or.inr ⟨show (4 : Nat) ≠ 0 by decide, rfl, rfl, h6, fun _ => rfl, h0, h4, h5, h6, h7, h8⟩)
theorem gx_fcast {s : gm_S} {D : gx_D} {h fc fc' v : Nat} {f t : Lean.RArray Nat} {p : Int} {out : gm_O} (H : gm_fc s h v f t p = some out) (hh : fc' ≤ h) (hp : gm_PB p) (hH : gx_H s D) (hF : gx_fc D = nI fc') (hfe : gd_en f = gd_en t → fc' = fc) (hfn : gd_en f ≠ gd_en t → fc' = fc + 1 ∧ gx_fr D fc = (-1, nI (gd_en f), nI (gd_en t), gm_lb p)) (hm : gx_mode D = 1) (hc : gx_cur D = nI (gm_xv v)) (K0 : gx_K0 post x_typeDraft x_typeCount x_count x_wrongAt x_keptPlace x_runVerdict x_runBlame x_result x_named x_kinds x_values x_ends x_types x_operands x_targets fc D out) (KB : gx_KB post x_typeDraft x_typeCount x_count x_wrongAt x_keptPlace x_runVerdict x_runBlame x_result x_named x_kinds x_values x_ends x_types x_operands x_targets out) : gx_go post x_typeDraft x_typeCount x_count x_wrongAt x_keptPlace x_runVerdict x_runBlame x_result x_named x_kinds x_values x_ends x_types x_operands x_targets s D := by
  unfold gm_fc at H
  by_cases e : gd_en f = gd_en t
  · rw [if_pos e] at H
    injection H with H
    subst H
    exact K0 D rfl hH (by rw [hF, hfe e]) (gx_A_refl _ _) hm hc
  · rw [if_neg e] at H
    obtain ⟨⟨r1, r2, r3, r4⟩, H⟩ := gm_tick_e H
    obtain ⟨e1, e2⟩ := hfn e
    subst e1
    have same := gm_cast_same H
    refine gx_t1 r1 r3 (by omega) hH hF hm (gx_castTurn (s := gm_tk s) H (by omega) hp hH hF e2 hm hc) ?_
    rintro D' (⟨a0, a1, a2, a3, a4, a5⟩ | ⟨a0, a1⟩)
    · have g := K0 D' a0 a1 a2 a3 a4 a5
      intro N hN
      have eu : gm_u out.2.2.2 = gm_u (gm_tk s) := same.2.2.2
      have := g N (by rw [eu]; exact hN)
      rw [eu] at this
      exact this
    · intro N hN
      have eu : gm_u (gm_tk s) = gm_u s + 1 := rfl
      exact gx_halt (by omega) a1.1 (KB a0 D' a1)
end
