/-! ===== 34: X's judge ===== -/
/-- all that ends before E, and what ends there from d on, is settled -/
def gx_JI (kd : Nat → Nat) (vl : Nat → Int32) (nm : Nat → Lean.RArray Nat) (cnt E d : Nat) (t g : Nat → Int32) : Prop :=
  ∀ j, j < cnt → (gs_en kd cnt j < E ∨ gs_en kd cnt j = E ∧ d ≤ j) → (gs_R kd vl nm cnt j).1 = 0 ∧ t j = nI (gd_en (gs_R kd vl nm cnt j).2) ∧ ∀ k, k < gs_ar (kd j) → g (3 * j + k) = nI (gd_en (gm_tg (gs_P kd vl nm cnt) j k))
theorem gs_code_lt {kd : Nat → Nat} {vl : Nat → Int32} {nm : Nat → Lean.RArray Nat} {cnt i : Nat} (W : gs_WF kd cnt) (hi : i < cnt) : (gs_R kd vl nm cnt i).1 < 5 := by
  have i2 : ∀ (p : Prop) [Decidable p], (if p then (0 : Nat) else 2) < 5 := by
    intro p _
    split <;> decide
  have cm : ∀ h a b, (gs_cmp h a b).1 < 5 := by
    intro h a b
    unfold gs_cmp
    split
    · exact Nat.zero_lt_succ _
    · exact (by decide : (3 : Nat) < 5)
  have e := gs_rho_eq (vn := fun j => (vl j).toNatClampNeg) (nm := nm) W hi
  show (gs_rho kd (fun j => (vl j).toNatClampNeg) nm cnt i).1 < 5
  rw [e]
  unfold gs_node
  by_cases sn : gs_snd (gs_en kd cnt) (gs_rho kd (fun j => (vl j).toNatClampNeg) nm cnt) i (gs_ar (kd i)) = true
  · rw [if_pos sn]
    unfold gs_typ
    by_cases c : kd i = 0
    · rw [if_pos c]; exact Nat.zero_lt_succ _
    rw [if_neg c]
    by_cases c : kd i = 1
    · rw [if_pos c]; exact Nat.zero_lt_succ _
    rw [if_neg c]
    by_cases c : kd i = 2
    · rw [if_pos c]
      generalize (gs_col kd (fun j => (vl j).toNatClampNeg) (gs_en kd cnt) i i)[(fun j => (vl j).toNatClampNeg) i]? = o
      cases o with
      | none => exact (by decide : (2 : Nat) < 5)
      | some n => exact Nat.zero_lt_succ _
    rw [if_neg c]
    by_cases c : kd i = 3
    · rw [if_pos c]; exact cm _ _ _
    rw [if_neg c]
    generalize gs_tk (gs_en kd cnt) (gs_rho kd (fun j => (vl j).toNatClampNeg) nm cnt) i (gs_ar (kd i)) 0 = t0
    generalize gs_tk (gs_en kd cnt) (gs_rho kd (fun j => (vl j).toNatClampNeg) nm cnt) i (gs_ar (kd i)) 1 = t1
    generalize gs_tk (gs_en kd cnt) (gs_rho kd (fun j => (vl j).toNatClampNeg) nm cnt) i (gs_ar (kd i)) 2 = t2
    by_cases c : kd i = 4
    · rw [if_pos c]
      by_cases d : gd_hd t0 = 2
      · rw [if_pos d]; exact Nat.zero_lt_succ _
      rw [if_neg d]
      by_cases d : gd_hd t0 = 3
      · rw [if_pos d]; exact i2 _
      · rw [if_neg d]; exact (by decide : (2 : Nat) < 5)
    rw [if_neg c]
    by_cases c : kd i = 5
    · rw [if_pos c]; exact i2 _
    rw [if_neg c]
    by_cases c : kd i = 6
    · rw [if_pos c]; exact i2 _
    rw [if_neg c]
    by_cases c : kd i = 7
    · rw [if_pos c]; exact i2 _
    rw [if_neg c]
    by_cases c : kd i = 8
    · rw [if_pos c]; exact cm _ _ _
    rw [if_neg c]
    by_cases c : kd i = 11
    · rw [if_pos c]; exact i2 _
    rw [if_neg c]
    by_cases d : gd_hd t0 = 2
    · rw [if_pos d]; exact Nat.zero_lt_succ _
    rw [if_neg d]
    by_cases d : gd_hd t0 = 4
    · rw [if_pos d]; exact Nat.zero_lt_succ _
    · rw [if_neg d]; exact (by decide : (2 : Nat) < 5)
  · rw [if_neg sn]; exact (by decide : (4 : Nat) < 5)
section
variable {x_typeDraft x_typeCount x_count x_wrongAt x_keptPlace x_cellCount x_scopeCount x_frameCount x_mode x_atToken x_scope x_current x_callee x_side x_ending x_faultLabel x_stepsTaken x_runVerdict x_runBlame x_result : Int32} {x_named x_kinds x_values x_ends x_types x_operands x_targets x_cellShape x_cellLabel x_cellOne x_cellTwo x_cellThree x_scopeValue x_scopeOuter x_frameKind x_frameOne x_frameTwo x_frameThree : Nat → Int32}
variable {kd : Nat → Nat} {vl : Nat → Int32} {nm : Nat → Lean.RArray Nat} {cnt : Nat}
theorem gx_j35 {post : Int32 → SX → Prop} {J23 : Int32 → Int32 → Int32 → Int32 → Int32 → Int32 → Int32 → Int32 → Int32 → Int32 → Int32 → Int32 → Int32 → Int32 → Int32 → Int32 → Int32 → Int32 → Int32 → Int32 → Int32 → (Nat → Int32) → (Nat → Int32) → (Nat → Int32) → (Nat → Int32) → (Nat → Int32) → (Nat → Int32) → (Nat → Int32) → (Nat → Int32) → (Nat → Int32) → (Nat → Int32) → (Nat → Int32) → (Nat → Int32) → (Nat → Int32) → (Nat → Int32) → (Nat → Int32) → (Nat → Int32) → (Nat → Int32) → (Nat → Int32) → Nat → Nat → Nat → Nat → Prop} {E : Nat} (W : gs_WF kd cnt) (hd : gx_DR kd vl nm cnt x_named x_kinds x_values) (hEO : ∀ j, j < cnt → x_ends j = nI (gs_en kd cnt j) ∧ ∀ m, m < gs_ar (kd j) → x_operands (3 * j + m) = nI (gs_op (gs_en kd cnt) j m)) (hE : E ≤ cnt)
    (B : ∀ i t g, i < cnt → (gs_R kd vl nm cnt i).1 ≠ 0 → (gs_R kd vl nm cnt i).1 ≠ 4 → (∀ j, j < i → (gs_R kd vl nm cnt j).1 = 0 ∨ (gs_R kd vl nm cnt j).1 = 4) → post (nI (gs_R kd vl nm cnt i).1) (x_typeDraft, x_typeCount, x_count, nI i, x_keptPlace, x_cellCount, x_scopeCount, x_frameCount, x_mode, x_atToken, x_scope, x_current, x_callee, x_side, x_ending, x_faultLabel, x_stepsTaken, x_runVerdict, x_runBlame, x_result, x_named, x_kinds, x_values, x_ends, t, x_operands, g, x_cellShape, x_cellLabel, x_cellOne, x_cellTwo, x_cellThree, x_scopeValue, x_scopeOuter, x_frameKind, x_frameOne, x_frameTwo, x_frameThree, 32768, 32768, 32768, 32768))
    (N : ∀ t g, gx_JI kd vl nm cnt (E + 1) (E + 1) t g → J23 (nI (E + 1)) x_typeDraft x_typeCount x_count x_wrongAt x_keptPlace x_cellCount x_scopeCount x_frameCount x_mode x_atToken x_scope x_current x_callee x_side x_ending x_faultLabel x_stepsTaken x_runVerdict x_runBlame x_result x_named x_kinds x_values x_ends t x_operands g x_cellShape x_cellLabel x_cellOne x_cellTwo x_cellThree x_scopeValue x_scopeOuter x_frameKind x_frameOne x_frameTwo x_frameThree 32768 32768 32768 32768) :
    ∀ d, d ≤ E → ∀ t g, gx_JI kd vl nm cnt E d t g → wX_judge_35 post J23 (nI E) (d + 1) (nI d - 1) x_typeDraft x_typeCount x_count x_wrongAt x_keptPlace x_cellCount x_scopeCount x_frameCount x_mode x_atToken x_scope x_current x_callee x_side x_ending x_faultLabel x_stepsTaken x_runVerdict x_runBlame x_result x_named x_kinds x_values x_ends t x_operands g x_cellShape x_cellLabel x_cellOne x_cellTwo x_cellThree x_scopeValue x_scopeOuter x_frameKind x_frameOne x_frameTwo x_frameThree 32768 32768 32768 32768 := by
  have hd0 := hd
  obtain ⟨c36, hn, hnm, hk'⟩ := hd
  intro d
  induction d with
  | zero =>
    intro _ t g h
    refine br_t (show nI 0 - 1 < 0 by decide) (nm_r (nI_1 E) (N t g ?_))
    intro j hj c
    have := (gs_en_ok W hj).1
    exact h j hj (by omega)
  | succ d ih =>
    intro hdE t g h
    have dc : d < cnt := by omega
    have en36 : gs_en kd cnt d ≤ 36 := Nat.le_trans (gs_en_ok W dc).2.1 c36
    rw [nI_pred d]
    refine br_f (nI_pos (by omega)) ?_
    rw [nI_clamp (show d < 2 ^ 31 by omega), (hEO d dc).1]
    refine And.intro (vp_in_nI (by omega) (by decide)) (pk_eq (gs_en kd cnt d) E (fun z => ?_) (fun z => ?_))
    · have done : ∀ m, m < gs_ar (kd d) → (gs_R kd vl nm cnt (gs_op (gs_en kd cnt) d m)).1 = 0 ∧ t (gs_op (gs_en kd cnt) d m) = nI (gd_en (gs_R kd vl nm cnt (gs_op (gs_en kd cnt) d m)).2) := by
        intro m hm
        have ol := gs_op_lt W dc hm
        have le : gs_en kd cnt (gs_op (gs_en kd cnt) d m) ≤ gs_en kd cnt d := by
          rw [← gs_op_end W dc]
          refine gs_before W dc (Nat.le_refl _) ol.1 ?_
          rw [gs_op_end W dc]
          have a := gs_op_ok W dc (gs_ar (kd d)) (Nat.le_refl _)
          have b := gs_op_ok W dc m (by omega)
          refine Nat.lt_of_not_le (fun y => ?_)
          rw [← gs_op_end W dc] at y
          by_cases c : gs_op (gs_en kd cnt) d (gs_ar (kd d)) = gs_op (gs_en kd cnt) d m
          · rw [c] at a; omega
          · have := b.2.2.2 _ a.1 (by omega); omega
        have := h _ ol.2 (by omega)
        exact ⟨this.1, this.2.1⟩
      refine gx_settle (x_types := t) (x_targets := g) W hd0 dc (fun j hj => (hEO j hj).1) (fun k hk => ⟨(hEO d dc).2 k hk, by rw [gs_t_k hk]; exact (done k hk).2⟩) (fun m hm => (done m hm).1) ?_ ?_
      · intro c0 g' g1 g2
        refine br_t rfl (nm_r (gx_am1 d) (ih (by omega) _ _ ?_))
        intro j hj c
        by_cases e : j = d
        · subst e
          exact ⟨c0, pk_us, g1⟩
        · obtain ⟨q1, q2, q3⟩ := h j hj (by omega)
          refine ⟨q1, by rw [pk_un e]; exact q2, ?_⟩
          intro k hk
          have a3 := gs_ar3 (kd j)
          rw [g2 (3 * j + k) (by omega)]
          exact q3 k hk
      · intro nz n4 t' g'
        refine pk_eq (gs_R kd vl nm cnt d).1 0 (fun y => absurd y nz) (fun _ => ?_) rfl rfl ?_ (by decide)
        · refine B d t' g' dc nz n4 (gs_small W dc nz ?_)
          intro j hj lt
          exact (h j hj (by omega)).1
        · have := gs_code_lt (kd := kd) (vl := vl) (nm := nm) W dc
          omega
    · refine br_t rfl (nm_r (gx_am1 d) (ih (by omega) t g ?_))
      intro j hj c
      refine h j hj ?_
      by_cases e : j = d
      · subst e; omega
      · omega
theorem gx_j23 {post : Int32 → SX → Prop} (W : gs_WF kd cnt) (hd : gx_DR kd vl nm cnt x_named x_kinds x_values) (hEO : ∀ j, j < cnt → x_ends j = nI (gs_en kd cnt j) ∧ ∀ m, m < gs_ar (kd j) → x_operands (3 * j + m) = nI (gs_op (gs_en kd cnt) j m))
    (B : ∀ i t g, i < cnt → (gs_R kd vl nm cnt i).1 ≠ 0 → (gs_R kd vl nm cnt i).1 ≠ 4 → (∀ j, j < i → (gs_R kd vl nm cnt j).1 = 0 ∨ (gs_R kd vl nm cnt j).1 = 4) → post (nI (gs_R kd vl nm cnt i).1) (x_typeDraft, x_typeCount, nI cnt, nI i, x_keptPlace, x_cellCount, x_scopeCount, x_frameCount, x_mode, x_atToken, x_scope, x_current, x_callee, x_side, x_ending, x_faultLabel, x_stepsTaken, x_runVerdict, x_runBlame, x_result, x_named, x_kinds, x_values, x_ends, t, x_operands, g, x_cellShape, x_cellLabel, x_cellOne, x_cellTwo, x_cellThree, x_scopeValue, x_scopeOuter, x_frameKind, x_frameOne, x_frameTwo, x_frameThree, 32768, 32768, 32768, 32768))
    (C : ∀ t g, gx_JI kd vl nm cnt (cnt + 1) (cnt + 1) t g → post 0 (x_typeDraft, x_typeCount, nI cnt, x_wrongAt, x_keptPlace, x_cellCount, x_scopeCount, x_frameCount, x_mode, x_atToken, x_scope, x_current, x_callee, x_side, x_ending, x_faultLabel, x_stepsTaken, x_runVerdict, x_runBlame, x_result, x_named, x_kinds, x_values, x_ends, t, x_operands, g, x_cellShape, x_cellLabel, x_cellOne, x_cellTwo, x_cellThree, x_scopeValue, x_scopeOuter, x_frameKind, x_frameOne, x_frameTwo, x_frameThree, 32768, 32768, 32768, 32768)) :
    ∀ d E, E + d = cnt + 1 → ∀ t g, gx_JI kd vl nm cnt E E t g → wX_judge_23 post (d + 1) (nI E) x_typeDraft x_typeCount (nI cnt) x_wrongAt x_keptPlace x_cellCount x_scopeCount x_frameCount x_mode x_atToken x_scope x_current x_callee x_side x_ending x_faultLabel x_stepsTaken x_runVerdict x_runBlame x_result x_named x_kinds x_values x_ends t x_operands g x_cellShape x_cellLabel x_cellOne x_cellTwo x_cellThree x_scopeValue x_scopeOuter x_frameKind x_frameOne x_frameTwo x_frameThree 32768 32768 32768 32768 := by
  have c36 := hd.1
  intro d
  induction d with
  | zero =>
    intro E e t g h
    have e' : E = cnt + 1 := by omega
    subst e'
    exact br_t (nI_lt (by omega) (by omega)) (C t g h)
  | succ d ih =>
    intro E e t g h
    refine br_f (nI_nlt (by omega) (by omega)) (nm_e (Exists.intro (E + 1) ?_))
    exact gx_j35 (x_count := nI cnt) W hd hEO (by omega) B (fun t' g' h' => ih (E + 1) (by omega) t' g' h') E (Nat.le_refl _) t g h
theorem gx_judge {post : Int32 → SX → Prop} (hd : gx_DR kd vl nm cnt x_named x_kinds x_values)
    (A : ∀ i, gs_FA kd cnt i → post 1 (x_typeDraft, x_typeCount, nI cnt, nI i, x_keptPlace, x_cellCount, x_scopeCount, x_frameCount, x_mode, x_atToken, x_scope, x_current, x_callee, x_side, x_ending, x_faultLabel, x_stepsTaken, x_runVerdict, x_runBlame, x_result, x_named, x_kinds, x_values, x_ends, x_types, x_operands, x_targets, x_cellShape, x_cellLabel, x_cellOne, x_cellTwo, x_cellThree, x_scopeValue, x_scopeOuter, x_frameKind, x_frameOne, x_frameTwo, x_frameThree, 32768, 32768, 32768, 32768))
    (B : ∀ i e o t g, gs_WF kd cnt → i < cnt → (gs_R kd vl nm cnt i).1 ≠ 0 → (gs_R kd vl nm cnt i).1 ≠ 4 → (∀ j, j < i → (gs_R kd vl nm cnt j).1 = 0 ∨ (gs_R kd vl nm cnt j).1 = 4) → post (nI (gs_R kd vl nm cnt i).1) (x_typeDraft, x_typeCount, nI cnt, nI i, x_keptPlace, x_cellCount, x_scopeCount, x_frameCount, x_mode, x_atToken, x_scope, x_current, x_callee, x_side, x_ending, x_faultLabel, x_stepsTaken, x_runVerdict, x_runBlame, x_result, x_named, x_kinds, x_values, e, t, o, g, x_cellShape, x_cellLabel, x_cellOne, x_cellTwo, x_cellThree, x_scopeValue, x_scopeOuter, x_frameKind, x_frameOne, x_frameTwo, x_frameThree, 32768, 32768, 32768, 32768))
    (C : ∀ e o t g, gs_WF kd cnt → (∀ i, i < cnt → (gs_R kd vl nm cnt i).1 = 0) → gx_P (gs_P kd vl nm cnt) x_kinds x_values t o g → post 0 (x_typeDraft, x_typeCount, nI cnt, -1, x_keptPlace, x_cellCount, x_scopeCount, x_frameCount, x_mode, x_atToken, x_scope, x_current, x_callee, x_side, x_ending, x_faultLabel, x_stepsTaken, x_runVerdict, x_runBlame, x_result, x_named, x_kinds, x_values, e, t, o, g, x_cellShape, x_cellLabel, x_cellOne, x_cellTwo, x_cellThree, x_scopeValue, x_scopeOuter, x_frameKind, x_frameOne, x_frameTwo, x_frameThree, 32768, 32768, 32768, 32768)) : wpX_judge post (x_typeDraft, x_typeCount, nI cnt, x_wrongAt, x_keptPlace, x_cellCount, x_scopeCount, x_frameCount, x_mode, x_atToken, x_scope, x_current, x_callee, x_side, x_ending, x_faultLabel, x_stepsTaken, x_runVerdict, x_runBlame, x_result, x_named, x_kinds, x_values, x_ends, x_types, x_operands, x_targets, x_cellShape, x_cellLabel, x_cellOne, x_cellTwo, x_cellThree, x_scopeValue, x_scopeOuter, x_frameKind, x_frameOne, x_frameTwo, x_frameThree, 32768, 32768, 32768, 32768) := by
  have hd0 := hd
  obtain ⟨c36, hn, hnm, hk'⟩ := hd
  unfold wpX_judge
  refine gx_syntaxFault hd0 (fun W => ?_) (fun i hF => ?_)
  · refine br_t (by decide) (gx_findOperands W hd0 ?_)
    intro e o hEO
    refine Exists.intro (cnt + 1) (gx_j23 (x_ends := e) (x_operands := o) (x_wrongAt := -1) W hd0 hEO (fun i t g a1 a2 a3 a4 => B i e o t g W a1 a2 a3 a4) (fun t g h => ?_) cnt 1 (by omega) x_types x_targets ?_)
    · have all : ∀ j, j < cnt → gs_en kd cnt j < cnt + 1 ∨ gs_en kd cnt j = cnt + 1 ∧ cnt + 1 ≤ j := fun j hj => Or.inl (by have := (gs_en_ok W hj).2.1; omega)
      refine C e o t g W (fun i hi => (h i hi (all i hi)).1) ⟨c36, ?_⟩
      intro i hi
      have hi' : i < cnt := hi
      obtain ⟨k1, k2, k3, k4⟩ := hk' i hi'
      obtain ⟨q1, q2, q3⟩ := h i hi' (all i hi')
      refine ⟨k1, k2, k3, q2, gs_rTY W hn hi', fun c => k4 (Or.inl c), ?_⟩
      intro k hk
      refine ⟨(hEO i hi').2 k hk, (gs_op_lt W hi' hk).2, q3 k hk, ?_⟩
      exact gs_tg_TY (gs_rTY W hn hi') (gs_rTY W hn (gs_op_lt W hi' (Nat.lt_of_le_of_lt (Nat.zero_le _) hk)).2) (gs_rTY W hn (gs_op_lt W hi' hk).2)
    · intro j hj c
      have := (gs_en_ok W hj).1
      omega
  · have hi : i ≤ cnt := by
      rcases hF.2 with c | c
      · omega
      · omega
    exact br_f (nI_pos (by omega)) (A i hF)
end
