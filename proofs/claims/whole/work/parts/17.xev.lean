/-! ===== 17: X's run follows the evaluator ===== -/
section
variable {x_typeDraft x_typeCount x_count x_wrongAt x_keptPlace x_cellCount x_scopeCount x_frameCount x_mode x_atToken x_scope x_current x_callee x_side x_ending x_faultLabel x_stepsTaken x_runVerdict x_runBlame x_result : Int32} {x_named x_kinds x_values x_ends x_types x_operands x_targets x_cellShape x_cellLabel x_cellOne x_cellTwo x_cellThree x_scopeValue x_scopeOuter x_frameKind x_frameOne x_frameTwo x_frameThree : Nat → Int32}
variable {post : SX → Prop}
theorem gx_fr_A {fc : Nat} {D D' : gx_D} (h : ∀ j, gx_fr D' j = gx_fr D j) : gx_A fc D D' := fun j _ => h j
theorem gx_take_sim {side : Nat} (h2 : side < 2) : ∀ (n h v : Nat) (s : gm_S) (out : gm_O) (D : gx_D) (fc : Nat), gm_take side n h v s = some out → fc ≤ h → gx_H s D → gx_fc D = nI fc → gx_mode D = 3 → gx_sid D = nI side → gx_cur D = nI (gm_xv v) → gx_K0 post x_typeDraft x_typeCount x_count x_wrongAt x_keptPlace x_runVerdict x_runBlame x_result x_named x_kinds x_values x_ends x_types x_operands x_targets fc D out → gx_KB post x_typeDraft x_typeCount x_count x_wrongAt x_keptPlace x_runVerdict x_runBlame x_result x_named x_kinds x_values x_ends x_types x_operands x_targets out → gx_go post x_typeDraft x_typeCount x_count x_wrongAt x_keptPlace x_runVerdict x_runBlame x_result x_named x_kinds x_values x_ends x_types x_operands x_targets s D := by
  intro n
  induction n with
  | zero =>
    intro h v s out D fc H hh hH hF hm hs hc K0 KB
    simp only [gm_take] at H
    obtain ⟨⟨r1, r2, r3, r4⟩, H⟩ := gm_tick_e H
    obtain ⟨⟨hv, hk⟩, H⟩ := gm_if_e H
    injection H with H
    subst H
    refine gx_t3 r1 r3 (by omega) hH hF hm (gx_takeBase hH hm hs h2 hc hv hk) ?_
    rintro D' ⟨a1, a2, a3, a4, a5⟩
    exact K0 D' rfl a1 (a2.trans hF) (gx_fr_A a3) a4 a5
  | succ n ih =>
    intro h v s out D fc H hh hH hF hm hs hc K0 KB
    simp only [gm_take] at H
    obtain ⟨⟨r1, r2, r3, r4⟩, H⟩ := gm_tick_e H
    obtain ⟨⟨hv, hk⟩, H⟩ := gm_if_e H
    refine gx_t3 r1 r3 (by omega) hH hF hm (gx_takeStep (by omega) hH hF hm hs h2 hc hv hk) ?_
    rintro D' ⟨a1, a2, a3, a4, a5, a6, fc', a7, a8, a9⟩
    have fcl : fc ≤ fc' ∧ fc' ≤ fc + 1 := by
      by_cases e : gd_en (if side = 0 then gd_lf (gm_cf (gm_h s (v / 8))) else gd_rt (gm_cf (gm_h s (v / 8)))) = gd_en (if side = 0 then gd_lf (gm_ct (gm_h s (v / 8))) else gd_rt (gm_ct (gm_h s (v / 8))))
      · have := a8 e; omega
      · have := (a9 e).1; omega
    refine gm_bd_e H ?_ ?_
    · intro u p s1 e1 H2
      refine ih (h + 1) _ (gm_tk s) (0, u, p, s1) D' fc' e1 (by omega) a1 a7 a3 a4 a5 ?_ (fun z => absurd rfl z)
      intro D2 _ b1 b2 b3 b4 b5
      refine gx_fcast (fc := fc) (fc' := fc') H2 (by omega) a6 b1 b2 a8 (fun z => ?_) b4 b5 ?_ KB
      · obtain ⟨c1, c2⟩ := a9 z
        refine ⟨c1, ?_⟩
        rw [b3 fc (by omega)]
        exact c2
      · exact gx_K0_A K0 rfl (gx_A_trans a2 b3 fcl.1)
    · intro e1 nz
      exact ih (h + 1) _ (gm_tk s) out D' fc' e1 (by omega) a1 a7 a3 a4 a5 (fun _ z => absurd z nz) KB
/-- what is known of the evaluator with less fuel -/
def gx_IH (post : SX → Prop) (x_typeDraft x_typeCount x_count x_wrongAt x_keptPlace x_runVerdict x_runBlame x_result : Int32) (x_named x_kinds x_values x_ends x_types x_operands x_targets : Nat → Int32) (f : Nat → Nat → Nat → gm_S → Option gm_O) : Prop :=
  ∀ (h i w : Nat) (s : gm_S) (out : gm_O) (D : gx_D) (fc : Nat), f h i w s = some out → fc ≤ h → gx_H s D → gx_fc D = nI fc → gx_mode D = 0 → gx_att D = nI i → gx_scp D = nI w → gx_K0 post x_typeDraft x_typeCount x_count x_wrongAt x_keptPlace x_runVerdict x_runBlame x_result x_named x_kinds x_values x_ends x_types x_operands x_targets fc D out → gx_KB post x_typeDraft x_typeCount x_count x_wrongAt x_keptPlace x_runVerdict x_runBlame x_result x_named x_kinds x_values x_ends x_types x_operands x_targets out → gx_go post x_typeDraft x_typeCount x_count x_wrongAt x_keptPlace x_runVerdict x_runBlame x_result x_named x_kinds x_values x_ends x_types x_operands x_targets s D
theorem gx_call_sim {f : Nat → Nat → Nat → gm_S → Option gm_O} (hf : gx_IH post x_typeDraft x_typeCount x_count x_wrongAt x_keptPlace x_runVerdict x_runBlame x_result x_named x_kinds x_values x_ends x_types x_operands x_targets f) : ∀ (n h g a : Nat) (s : gm_S) (out : gm_O) (D : gx_D) (fc : Nat), gm_call f n h g a s = some out → fc ≤ h → gx_H s D → gx_fc D = nI fc → gx_mode D = 2 → gx_cal D = nI (gm_xv g) → gx_cur D = nI (gm_xv a) → gx_K0 post x_typeDraft x_typeCount x_count x_wrongAt x_keptPlace x_runVerdict x_runBlame x_result x_named x_kinds x_values x_ends x_types x_operands x_targets fc D out → gx_KB post x_typeDraft x_typeCount x_count x_wrongAt x_keptPlace x_runVerdict x_runBlame x_result x_named x_kinds x_values x_ends x_types x_operands x_targets out → gx_go post x_typeDraft x_typeCount x_count x_wrongAt x_keptPlace x_runVerdict x_runBlame x_result x_named x_kinds x_values x_ends x_types x_operands x_targets s D := by
  intro n
  induction n with
  | zero =>
    intro h g a s out D fc H hh hH hF hm hg hc K0 KB
    simp only [gm_call] at H
    obtain ⟨⟨r1, r2, r3, r4⟩, H⟩ := gm_tick_e H
    obtain ⟨⟨hv, hk⟩, H⟩ := gm_if_e H
    refine gx_t2 r1 r3 (by omega) hH hF hm (gx_callBase r3 hH hF hm hg hc hv hk) ?_
    rintro D' ⟨a1, a2, a3, a4, a5, a6⟩
    have := hf h (gm_ca (gm_h s (g / 8)) + 1) (gm_m s) (gm_scope (gm_tk s) a (gm_cb (gm_h s (g / 8)))) out D' fc H hh a1 a2 a4 a5 a6 (gx_K0_A K0 rfl a3) KB
    exact this
  | succ n ih =>
    intro h g a s out D fc H hh hH hF hm hg hc K0 KB
    simp only [gm_call] at H
    obtain ⟨⟨r1, r2, r3, r4⟩, H⟩ := gm_tick_e H
    obtain ⟨⟨hv, hk⟩, H⟩ := gm_if_e H
    refine gm_bd_e H ?_ ?_
    · intro a' p' s' e1 H1
      have same := gm_cast_same e1
      refine gx_t2 r1 r3 (by omega) hH hF hm (gx_callStep (s := gm_tk s) e1 (by omega) hH hF hm hg hc hv hk) ?_
      rintro D' (⟨a0, a1, a2, a3, a4, a5, a6, fc', a7, a8, a9⟩ | ⟨z, _⟩)
      · have fcl : fc ≤ fc' ∧ fc' ≤ fc + 1 := by
          by_cases e : gd_en (gd_rt (gm_cf (gm_h s (g / 8)))) = gd_en (gd_rt (gm_ct (gm_h s (g / 8))))
          · have := a8 e; omega
          · have := (a9 e).1; omega
        have eu : gm_u s' = gm_u (gm_tk s) := same.2.2.2
        have go : gx_go post x_typeDraft x_typeCount x_count x_wrongAt x_keptPlace x_runVerdict x_runBlame x_result x_named x_kinds x_values x_ends x_types x_operands x_targets s' D' := by
          refine gm_bd_e H1 ?_ ?_
          · intro u p s1 e2 H2
            refine ih (h + 1) _ a' s' (0, u, p, s1) D' fc' e2 (by omega) a1 a7 a3 a4 a5 ?_ (fun z => absurd rfl z)
            intro D2 _ b1 b2 b3 b4 b5
            refine gx_fcast (fc := fc) (fc' := fc') H2 (by omega) a6 b1 b2 a8 (fun z => ?_) b4 b5 ?_ KB
            · obtain ⟨c1, c2⟩ := a9 z
              refine ⟨c1, ?_⟩
              rw [b3 fc (by omega)]
              exact c2
            · exact gx_K0_A K0 rfl (gx_A_trans a2 b3 fcl.1)
          · intro e2 nz
            exact ih (h + 1) _ a' s' out D' fc' e2 (by omega) a1 a7 a3 a4 a5 (fun _ z => absurd z nz) KB
        intro N hN
        have := go N (by rw [eu]; exact hN)
        rw [eu] at this
        exact this
      · exact absurd rfl z
    · intro e1 nz
      refine gx_t2 r1 r3 (by omega) hH hF hm (gx_callStep (s := gm_tk s) e1 (by omega) hH hF hm hg hc hv hk) ?_
      rintro D' (⟨z, _⟩ | ⟨z, a1⟩)
      · exact absurd z nz
      · intro N hN
        have eu : gm_u (gm_tk s) = gm_u s + 1 := rfl
        exact gx_halt (by omega) a1.1 (KB z D' a1)
/-- an operand, up to the turn in which it is taken -/
theorem gx_opr_sim {P : gm_P} {f : Nat → Nat → Nat → gm_S → Option gm_O} (hf : gx_IH post x_typeDraft x_typeCount x_count x_wrongAt x_keptPlace x_runVerdict x_runBlame x_result x_named x_kinds x_values x_ends x_types x_operands x_targets f) {h i k w fc : Nat} {s : gm_S} {out : gm_O} {D0 D : gx_D} {hd : Int32} (H : gm_opr P f h i k w s = some out) (hi : i < 36) (hk : k < 3) (hh : fc ≤ h) (hW : gx_W P s D0 D fc i k w hd)
    (K : ∀ s2 D2, out.1 = 0 → out.2.2.2 = gm_tk s2 → (gm_u s2 < 1000000 ∧ gm_m s2 < 64 ∧ h < 32766) → gx_H s2 D2 → gx_fc D2 = nI (fc + 1) → (gx_fr D2 fc).1 = nI (3 * i + k) → (gx_fr D2 fc).2.1 = nI w → (gx_fr D2 fc).2.2.1 = hd → gx_A fc D0 D2 → gx_mode D2 = 1 → gx_cur D2 = nI (gm_xv out.2.1) → gx_go post x_typeDraft x_typeCount x_count x_wrongAt x_keptPlace x_runVerdict x_runBlame x_result x_named x_kinds x_values x_ends x_types x_operands x_targets s2 D2)
    (KB : gx_KB post x_typeDraft x_typeCount x_count x_wrongAt x_keptPlace x_runVerdict x_runBlame x_result x_named x_kinds x_values x_ends x_types x_operands x_targets out) : gx_go post x_typeDraft x_typeCount x_count x_wrongAt x_keptPlace x_runVerdict x_runBlame x_result x_named x_kinds x_values x_ends x_types x_operands x_targets s D := by
  obtain ⟨w1, w2, w3, w4, w5, fc', w6, o1, o2, o3, o4, o5⟩ := hW
  have fcl : fc + 1 ≤ fc' ∧ fc' ≤ fc + 2 := by
    by_cases e : gd_en (gm_ty P (gm_op P i k)) = gd_en (gm_tg P i k)
    · have := o4 e; omega
    · have := (o5 e).1; omega
  unfold gm_opr at H
  refine gm_bd_e H ?_ ?_
  · intro v p s1 e1 H1
    refine hf (h + 2) _ w s (0, v, p, s1) D fc' e1 (by omega) w1 w6 w3 w4 w5 ?_ (fun z => absurd rfl z)
    intro D1 _ b1 b2 b3 b4 b5
    have lbl : gm_lb (3 * i + k + 1) = nI (3 * i + k + 1) := rfl
    have frc : gx_fr D1 fc = gx_fr D fc := b3 fc (by omega)
    have hfn : gd_en (gm_ty P (gm_op P i k)) ≠ gd_en (gm_tg P i k) → fc' = (fc + 1) + 1 ∧ gx_fr D1 (fc + 1) = (-1, nI (gd_en (gm_ty P (gm_op P i k))), nI (gd_en (gm_tg P i k)), gm_lb (3 * i + k + 1)) := by
      intro z
      obtain ⟨c1, c2⟩ := o5 z
      refine ⟨c1, ?_⟩
      rw [b3 (fc + 1) (by omega), c2, lbl]
    refine gm_bd_e H1 ?_ ?_
    · intro v' p' s2 e2 H2
      refine gx_fcast (fc := fc + 1) (fc' := fc') (out := (0, v', p', s2)) e2 (by omega) (gm_PB_op hi hk) b1 b2 o4 hfn b4 b5 ?_ (fun z => absurd rfl z)
      intro D2 _ d1 d2 d3 d4 d5
      obtain ⟨⟨r1, r2, r3, r4⟩, H2⟩ := gm_tick_e H2
      injection H2 with H2
      have frd : gx_fr D2 fc = gx_fr D fc := (d3 fc (by omega)).trans frc
      refine K s2 D2 (by rw [← H2]) (by rw [← H2]) ⟨r1, r3, by omega⟩ d1 d2 (by rw [frd]; exact o1) (by rw [frd]; exact o2) (by rw [frd]; exact o3) ?_ d4 (by rw [← H2]; exact d5)
      exact gx_A_trans (gx_A_trans w2 b3 (by omega)) d3 (by omega)
    · intro e2 nz
      exact gx_fcast (fc := fc + 1) (fc' := fc') e2 (by omega) (gm_PB_op hi hk) b1 b2 o4 hfn b4 b5 (fun _ z => absurd z nz) KB
  · intro e1 nz
    exact hf (h + 2) _ w s out D fc' e1 (by omega) w1 w6 w3 w4 w5 (fun _ z => absurd z nz) KB
end
