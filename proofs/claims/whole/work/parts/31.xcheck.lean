/-! ===== 31: X's check: form, operands, variables ===== -/
def gs_vr (kd : Nat → Nat) (vl : Nat → Int32) (i : Nat) : Prop := kd i = 2 ∨ kd i = 3 ∨ kd i = 11 → ∃ n, n < 10 ∧ vl i = nI n
/-- X's draft -/
def gx_DR (kd : Nat → Nat) (vl : Nat → Int32) (nm : Nat → Lean.RArray Nat) (cnt : Nat) (named kinds values : Nat → Int32) : Prop :=
  cnt ≤ 36 ∧ (∀ n, gd_TY (nm n)) ∧ (∀ n, n < 10 → named n = nI (gd_en (nm n))) ∧ ∀ i, i < cnt → kinds i = nI (kd i) ∧ kd i < 12 ∧ values i = vl i ∧ gs_vr kd vl i
theorem gx_am1 (n : Nat) : nI n + (-1) = nI n - 1 := (Int32.sub_eq_add_neg _ _).symm
theorem gx_am {a b : Nat} (h : 1 ≤ a + b) : nI a + (nI b - 1) = nI (a + b - 1) := by
  rw [Int32.sub_eq_add_neg, ← Int32.add_assoc, nI_add, ← Int32.sub_eq_add_neg]
  exact pk_sub (b := 1) h
section
variable {x_typeDraft x_typeCount x_count x_wrongAt x_keptPlace x_cellCount x_scopeCount x_frameCount x_mode x_atToken x_scope x_current x_callee x_side x_ending x_faultLabel x_stepsTaken x_runVerdict x_runBlame x_result : Int32} {x_named x_kinds x_values x_ends x_types x_operands x_targets x_cellShape x_cellLabel x_cellOne x_cellTwo x_cellThree x_scopeValue x_scopeOuter x_frameKind x_frameOne x_frameTwo x_frameThree : Nat → Int32}
variable {kd : Nat → Nat} {vl : Nat → Int32} {nm : Nat → Lean.RArray Nat} {cnt : Nat}
theorem gx_syn {post : Int32 → Prop} (hd : gx_DR kd vl nm cnt x_named x_kinds x_values) (A : gs_WF kd cnt → post (-1)) (B : ∀ i, gs_FA kd cnt i → post (nI i)) : ∀ d i, i + d = cnt → (∀ j, j < i → 0 < gs_D kd j) → wX_syntaxFault_4 post x_typeDraft x_typeCount (nI cnt) x_wrongAt x_keptPlace x_cellCount x_scopeCount x_frameCount x_mode x_atToken x_scope x_current x_callee x_side x_ending x_faultLabel x_stepsTaken x_runVerdict x_runBlame x_result x_named x_kinds x_values x_ends x_types x_operands x_targets x_cellShape x_cellLabel x_cellOne x_cellTwo x_cellThree x_scopeValue x_scopeOuter x_frameKind x_frameOne x_frameTwo x_frameThree 32768 32768 32768 32768 (d + 1) (nI (gs_D kd i)) (nI i) := by
  obtain ⟨c36, hn, hnm, hk⟩ := hd
  intro d
  induction d with
  | zero =>
    intro i e h
    have e' : i = cnt := by omega
    subst e'
    have dl := gs_D_le kd i
    exact br_t (Int32.le_refl _) (pk_eq (gs_D kd i) 0 (fun z => A ⟨h, z⟩) (fun z => B i ⟨h, Or.inr ⟨rfl, by omega⟩⟩))
  | succ d ih =>
    intro i e h
    have dl := gs_D_le kd i
    obtain ⟨k1, k2, k3, k4⟩ := hk i (by omega)
    refine br_f (nI_ge (by omega) (by omega)) (pk_eq (gs_D kd i) 0 (fun z => B i ⟨h, Or.inl ⟨by omega, z⟩⟩) (fun z => ?_))
    rw [nI_clamp (show i < 2 ^ 31 by omega), k1]
    refine And.intro (vp_in_nI (by omega) (by decide)) (gx_arity k2 (nm_r (gx_am (by omega)) (nm_r (nI_1 i) (ih (i + 1) (by omega) ?_))))
    intro j hj
    by_cases c : j = i
    · rw [c]; omega
    · exact h j (by omega)
theorem gx_syntaxFault {post : Int32 → Prop} (hd : gx_DR kd vl nm cnt x_named x_kinds x_values) (A : gs_WF kd cnt → post (-1)) (B : ∀ i, gs_FA kd cnt i → post (nI i)) : wpX_syntaxFault post (x_typeDraft, x_typeCount, nI cnt, x_wrongAt, x_keptPlace, x_cellCount, x_scopeCount, x_frameCount, x_mode, x_atToken, x_scope, x_current, x_callee, x_side, x_ending, x_faultLabel, x_stepsTaken, x_runVerdict, x_runBlame, x_result, x_named, x_kinds, x_values, x_ends, x_types, x_operands, x_targets, x_cellShape, x_cellLabel, x_cellOne, x_cellTwo, x_cellThree, x_scopeValue, x_scopeOuter, x_frameKind, x_frameOne, x_frameTwo, x_frameThree, 32768, 32768, 32768, 32768) :=
  Exists.intro (cnt + 1) (gx_syn hd A B cnt 0 (Nat.zero_add cnt) (fun j hj => absurd hj (Nat.not_lt_zero _)))
theorem gx_fo_in {post : SX → Prop} {J7 : Int32 → (Nat → Int32) → (Nat → Int32) → (Nat → Int32) → (Nat → Int32) → (Nat → Int32) → (Nat → Int32) → (Nat → Int32) → (Nat → Int32) → (Nat → Int32) → (Nat → Int32) → (Nat → Int32) → (Nat → Int32) → (Nat → Int32) → (Nat → Int32) → (Nat → Int32) → (Nat → Int32) → (Nat → Int32) → (Nat → Int32) → Prop} {i : Nat} {o0 : Nat → Int32} (W : gs_WF kd cnt) (c36 : cnt ≤ 36) (hi : i < cnt) (he : ∀ j, i < j → j < cnt → x_ends j = nI (gs_en kd cnt j))
    (G : ∀ o', (∀ m, m < gs_ar (kd i) → o' (3 * i + m) = nI (gs_op (gs_en kd cnt) i m)) → (∀ q, (q < 3 * i ∨ 3 * i + 3 ≤ q) → o' q = o0 q) → J7 (nI i - 1) x_named x_kinds x_values (upd x_ends i (nI (gs_en kd cnt i))) x_types o' x_targets x_cellShape x_cellLabel x_cellOne x_cellTwo x_cellThree x_scopeValue x_scopeOuter x_frameKind x_frameOne x_frameTwo x_frameThree) :
    ∀ d k, k + d = gs_ar (kd i) → ∀ o, (∀ m, m < k → o (3 * i + m) = nI (gs_op (gs_en kd cnt) i m)) → (∀ q, (q < 3 * i ∨ 3 * i + 3 ≤ q) → o q = o0 q) → wX_findOperands_28 post J7 (nI i) (nI (gs_ar (kd i))) x_typeDraft x_typeCount x_count x_wrongAt x_keptPlace x_cellCount x_scopeCount x_frameCount x_mode x_atToken x_scope x_current x_callee x_side x_ending x_faultLabel x_stepsTaken x_runVerdict x_runBlame x_result 32768 32768 32768 32768 (d + 1) (nI (gs_op (gs_en kd cnt) i k)) (nI k) x_named x_kinds x_values x_ends x_types o x_targets x_cellShape x_cellLabel x_cellOne x_cellTwo x_cellThree x_scopeValue x_scopeOuter x_frameKind x_frameOne x_frameTwo x_frameThree := by
  have a3 := gs_ar3 (kd i)
  intro d
  induction d with
  | zero =>
    intro k e o h1 h2
    have e' : k = gs_ar (kd i) := by omega
    subst e'
    refine br_t (Int32.le_refl _) ?_
    rw [nI_clamp (show i < 2 ^ 31 by omega), gs_op_end W hi]
    exact And.intro (vp_in_nI (by omega) (by decide)) (nm_e (nm_r (gx_am1 i) (G o h1 h2)))
  | succ d ih =>
    intro k e o h1 h2
    have ol := gs_op_lt W hi (show k < gs_ar (kd i) by omega)
    have e3 : (3 : Int32) * nI i + nI k = nI (3 * i + k) := by rw [show (3 : Int32) * nI i = nI (3 * i) from pk_mul 3 i, nI_add]
    refine br_f (nI_ge (by omega) (by omega)) ?_
    rw [e3, nI_clamp (show 3 * i + k < 2 ^ 31 by omega), nI_clamp (show gs_op (gs_en kd cnt) i k < 2 ^ 31 by omega), he _ ol.1 ol.2]
    refine And.intro (vp_in_nI (by omega) (by decide)) (nm_e (And.intro (vp_in_nI (by omega) (by decide)) (nm_e (nm_r (nI_1 k) (ih (k + 1) (by omega) (upd o (3 * i + k) (nI (gs_op (gs_en kd cnt) i k))) ?_ ?_)))))
    · intro m hm
      by_cases c : m = k
      · subst c; exact pk_us
      · rw [pk_un (by omega)]; exact h1 m (by omega)
    · intro q hq
      rw [pk_un (by omega)]
      exact h2 q hq
theorem gx_fo {post : SX → Prop} (W : gs_WF kd cnt) (hd : gx_DR kd vl nm cnt x_named x_kinds x_values) (P : ∀ e o, (∀ j, j < cnt → e j = nI (gs_en kd cnt j) ∧ ∀ m, m < gs_ar (kd j) → o (3 * j + m) = nI (gs_op (gs_en kd cnt) j m)) → post (x_typeDraft, x_typeCount, x_count, x_wrongAt, x_keptPlace, x_cellCount, x_scopeCount, x_frameCount, x_mode, x_atToken, x_scope, x_current, x_callee, x_side, x_ending, x_faultLabel, x_stepsTaken, x_runVerdict, x_runBlame, x_result, x_named, x_kinds, x_values, e, x_types, o, x_targets, x_cellShape, x_cellLabel, x_cellOne, x_cellTwo, x_cellThree, x_scopeValue, x_scopeOuter, x_frameKind, x_frameOne, x_frameTwo, x_frameThree, 32768, 32768, 32768, 32768)) :
    ∀ d, d ≤ cnt → ∀ e o, (∀ j, d ≤ j → j < cnt → e j = nI (gs_en kd cnt j) ∧ ∀ m, m < gs_ar (kd j) → o (3 * j + m) = nI (gs_op (gs_en kd cnt) j m)) → wX_findOperands_7 post x_typeDraft x_typeCount x_count x_wrongAt x_keptPlace x_cellCount x_scopeCount x_frameCount x_mode x_atToken x_scope x_current x_callee x_side x_ending x_faultLabel x_stepsTaken x_runVerdict x_runBlame x_result 32768 32768 32768 32768 (d + 1) (nI d - 1) x_named x_kinds x_values e x_types o x_targets x_cellShape x_cellLabel x_cellOne x_cellTwo x_cellThree x_scopeValue x_scopeOuter x_frameKind x_frameOne x_frameTwo x_frameThree := by
  obtain ⟨c36, hn, hnm, hk⟩ := hd
  intro d
  induction d with
  | zero =>
    intro _ e o h
    exact br_t (show nI 0 - 1 < 0 by decide) (P e o (fun j hj => h j (Nat.zero_le _) hj))
  | succ d ih =>
    intro hd e o h
    obtain ⟨k1, k2, k3, k4⟩ := hk d (by omega)
    have a3 := gs_ar3 (kd d)
    rw [nI_pred d]
    refine br_f (nI_pos (by omega)) (nm_r (nI_1 d) ?_)
    rw [nI_clamp (show d < 2 ^ 31 by omega), k1]
    refine And.intro (vp_in_nI (by omega) (by decide)) (gx_arity k2 (Exists.intro (gs_ar (kd d) + 1) ?_))
    refine gx_fo_in (x_ends := e) (o0 := o) W c36 (by omega) (fun j h1 h2 => (h j (by omega) h2).1) ?_ (gs_ar (kd d)) 0 (Nat.zero_add _) o (fun m hm => absurd hm (Nat.not_lt_zero _)) (fun q _ => rfl)
    intro o' g1 g2
    refine ih (by omega) (upd e d (nI (gs_en kd cnt d))) o' ?_
    intro j h1 h2
    by_cases c : j = d
    · subst c
      exact ⟨pk_us, g1⟩
    · obtain ⟨q1, q2⟩ := h j (by omega) h2
      refine ⟨by rw [pk_un c]; exact q1, ?_⟩
      intro m hm
      have a3' := gs_ar3 (kd j)
      rw [g2 (3 * j + m) (by omega)]
      exact q2 m hm
theorem gx_findOperands {post : SX → Prop} (W : gs_WF kd cnt) (hd : gx_DR kd vl nm cnt x_named x_kinds x_values) (P : ∀ e o, (∀ j, j < cnt → e j = nI (gs_en kd cnt j) ∧ ∀ m, m < gs_ar (kd j) → o (3 * j + m) = nI (gs_op (gs_en kd cnt) j m)) → post (x_typeDraft, x_typeCount, nI cnt, x_wrongAt, x_keptPlace, x_cellCount, x_scopeCount, x_frameCount, x_mode, x_atToken, x_scope, x_current, x_callee, x_side, x_ending, x_faultLabel, x_stepsTaken, x_runVerdict, x_runBlame, x_result, x_named, x_kinds, x_values, e, x_types, o, x_targets, x_cellShape, x_cellLabel, x_cellOne, x_cellTwo, x_cellThree, x_scopeValue, x_scopeOuter, x_frameKind, x_frameOne, x_frameTwo, x_frameThree, 32768, 32768, 32768, 32768)) : wpX_findOperands post (x_typeDraft, x_typeCount, nI cnt, x_wrongAt, x_keptPlace, x_cellCount, x_scopeCount, x_frameCount, x_mode, x_atToken, x_scope, x_current, x_callee, x_side, x_ending, x_faultLabel, x_stepsTaken, x_runVerdict, x_runBlame, x_result, x_named, x_kinds, x_values, x_ends, x_types, x_operands, x_targets, x_cellShape, x_cellLabel, x_cellOne, x_cellTwo, x_cellThree, x_scopeValue, x_scopeOuter, x_frameKind, x_frameOne, x_frameTwo, x_frameThree, 32768, 32768, 32768, 32768) :=
  nm_e (Exists.intro (cnt + 1) (gx_fo W hd P cnt (Nat.le_refl _) x_ends x_operands (fun j h1 h2 => absurd h2 (by omega))))
theorem gx_var_l {post : Int32 → Prop} {i : Nat} (hd : gx_DR kd vl nm cnt x_named x_kinds x_values) (hi : i < cnt) (he : ∀ j, j < cnt → x_ends j = nI (gs_en kd cnt j)) (en36 : ∀ j, j < cnt → gs_en kd cnt j ≤ 36) : ∀ d, d ≤ i → ∀ b, b < 40 →
    (∀ n, (gs_col kd (fun j => (vl j).toNatClampNeg) (gs_en kd cnt) i d)[b]? = some n → n < 10 → post (nI (gd_en (nm n)))) → ((gs_col kd (fun j => (vl j).toNatClampNeg) (gs_en kd cnt) i d)[b]? = none → post (-1)) → wX_variableType_11 post (nI i) x_typeDraft x_typeCount x_count x_wrongAt x_keptPlace x_cellCount x_scopeCount x_frameCount x_mode x_atToken x_scope x_current x_callee x_side x_ending x_faultLabel x_stepsTaken x_runVerdict x_runBlame x_result x_named x_kinds x_values x_ends x_types x_operands x_targets x_cellShape x_cellLabel x_cellOne x_cellTwo x_cellThree x_scopeValue x_scopeOuter x_frameKind x_frameOne x_frameTwo x_frameThree 32768 32768 32768 32768 (d + 1) (nI b) (nI d - 1) := by
  obtain ⟨c36, hn, hnm, hk⟩ := hd
  intro d
  induction d with
  | zero =>
    intro _ b _ A B
    exact br_t (show nI 0 - 1 < 0 by decide) (B (by simp [gs_col]))
  | succ d ih =>
    intro hd b hb A B
    obtain ⟨k1, k2, k3, k4⟩ := hk d (by omega)
    have e36 := en36 d (by omega)
    rw [nI_pred d]
    refine br_f (nI_pos (by omega)) ?_
    rw [nI_clamp (show d < 2 ^ 31 by omega), k1, he d (by omega)]
    have vin : vp_in (nI d) 36 := vp_in_nI (by omega) (by decide)
    have skip : ¬ (kd d = 3 ∧ i < gs_en kd cnt d) → wX_variableType_39 post (wX_variableType_11 post (nI i) x_typeDraft x_typeCount x_count x_wrongAt x_keptPlace x_cellCount x_scopeCount x_frameCount x_mode x_atToken x_scope x_current x_callee x_side x_ending x_faultLabel x_stepsTaken x_runVerdict x_runBlame x_result x_named x_kinds x_values x_ends x_types x_operands x_targets x_cellShape x_cellLabel x_cellOne x_cellTwo x_cellThree x_scopeValue x_scopeOuter x_frameKind x_frameOne x_frameTwo x_frameThree 32768 32768 32768 32768 (d + 1)) (nI i) (nI b) (nI d) x_typeDraft x_typeCount x_count x_wrongAt x_keptPlace x_cellCount x_scopeCount x_frameCount x_mode x_atToken x_scope x_current x_callee x_side x_ending x_faultLabel x_stepsTaken x_runVerdict x_runBlame x_result x_named x_kinds x_values x_ends x_types x_operands x_targets x_cellShape x_cellLabel x_cellOne x_cellTwo x_cellThree x_scopeValue x_scopeOuter x_frameKind x_frameOne x_frameTwo x_frameThree 32768 32768 32768 32768 := by
      intro nz
      simp only [gs_col] at A B
      rw [if_neg nz] at A B
      exact br_t rfl (br_t rfl (nm_r (show nI b - 0 = nI b from Int32.sub_zero _) (nm_r (gx_am1 d) (ih (by omega) b hb A B))))
    refine And.intro vin (pk_eq (kd d) 3 (fun c3 => And.intro vin (pk_le (gs_en kd cnt d) i (fun le => skip (by omega)) (fun lt => ?_))) (fun c3 => skip (by omega)))
    simp only [gs_col] at A B
    rw [if_pos ⟨c3, lt⟩] at A B
    obtain ⟨n, n10, en⟩ := k4 (Or.inr (Or.inl c3))
    have ecl : (vl d).toNatClampNeg = n := by rw [en]; exact nI_clamp (by omega)
    refine br_f (show ¬ (1 : Int32) = 0 by decide) (pk_eq b 0 (fun z => ?_) (fun z => ?_))
    · rw [nI_clamp (show d < 2 ^ 31 by omega), k3, en, nI_clamp (show n < 2 ^ 31 by omega), hnm n n10]
      refine And.intro vin (And.intro (vp_in_nI n10 (by decide)) ?_)
      subst z
      exact A n (by simp only [List.getElem?_cons_zero]; rw [ecl]) n10
    · obtain ⟨b', rfl⟩ : ∃ k, b = k + 1 := ⟨b - 1, by omega⟩
      simp only [List.getElem?_cons_succ] at A B
      exact br_f (show ¬ (1 : Int32) = 0 by decide) (nm_r (nI_pred b') (nm_r (gx_am1 d) (ih (by omega) b' (by omega) A B)))
end
