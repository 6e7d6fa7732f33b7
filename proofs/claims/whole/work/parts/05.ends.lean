/-! ===== 05: terms in front notation: where they end, their operands, the LAMs around ===== -/
def gs_ar (k : Nat) : Nat := if k < 3 then 0 else if k = 5 then 3 else if k = 4 ∨ 5 < k ∧ k < 9 then 2 else 1
/-- how many terms are missing before token i -/
def gs_D (kd : Nat → Nat) : Nat → Nat
  | 0 => 1
  | i + 1 => gs_D kd i + gs_ar (kd i) - 1
def gs_WF (kd : Nat → Nat) (cnt : Nat) : Prop := (∀ i, i < cnt → 0 < gs_D kd i) ∧ gs_D kd cnt = 0
/-- the fault is at i -/
def gs_FA (kd : Nat → Nat) (cnt i : Nat) : Prop := (∀ j, j < i → 0 < gs_D kd j) ∧ (i < cnt ∧ gs_D kd i = 0 ∨ i = cnt ∧ 0 < gs_D kd cnt)
theorem gs_first (D : Nat → Nat) : ∀ n, (∀ i, i < n → 0 < D i) ∨ ∃ i, i < n ∧ D i = 0 ∧ ∀ j, j < i → 0 < D j := by
  intro n
  induction n with
  | zero => left; intro i hi; omega
  | succ n ih =>
    rcases ih with ih | ⟨i, h1, h2, h3⟩
    · by_cases e : D n = 0
      · right; exact ⟨n, by omega, e, ih⟩
      · left
        intro i hi
        by_cases c : i = n
        · subst c; omega
        · exact ih i (by omega)
    · right; exact ⟨i, by omega, h2, h3⟩
theorem gs_dec (kd : Nat → Nat) (cnt : Nat) : gs_WF kd cnt ∨ ∃ i, gs_FA kd cnt i := by
  rcases gs_first (gs_D kd) cnt with h | ⟨i, h1, h2, h3⟩
  · by_cases e : gs_D kd cnt = 0
    · left; exact ⟨h, e⟩
    · right; exact ⟨cnt, h, Or.inr ⟨rfl, by omega⟩⟩
  · right; exact ⟨i, h3, Or.inl ⟨h1, h2⟩⟩
def gs_fd (D : Nat → Nat) (x : Nat) : Nat → Nat → Nat
  | 0, j => j
  | n + 1, j => if D j + 1 = x then j else gs_fd D x n (j + 1)
/-- the end of the term that begins at i -/
def gs_en (kd : Nat → Nat) (cnt i : Nat) : Nat := gs_fd (gs_D kd) (gs_D kd i) (cnt - i) (i + 1)
def gs_op (en : Nat → Nat) (i : Nat) : Nat → Nat
  | 0 => i + 1
  | k + 1 => en (gs_op en i k)
def gs_EN (kd : Nat → Nat) (cnt i e : Nat) : Prop := i < e ∧ e ≤ cnt ∧ gs_D kd e + 1 = gs_D kd i ∧ ∀ x, i ≤ x → x < e → gs_D kd i ≤ gs_D kd x
theorem gs_fd_ok {kd : Nat → Nat} {cnt : Nat} (W : gs_WF kd cnt) {i : Nat} (hi : i < cnt) : ∀ n j, i < j → j ≤ cnt → j + n = cnt + 1 → (∀ x, i ≤ x → x < j → gs_D kd i ≤ gs_D kd x) → gs_EN kd cnt i (gs_fd (gs_D kd) (gs_D kd i) n j) := by
  intro n
  induction n with
  | zero => intro j h1 h2 h3 h4; omega
  | succ n ih =>
    intro j h1 h2 h3 h4
    simp only [gs_fd]
    by_cases e : gs_D kd j + 1 = gs_D kd i
    · rw [if_pos e]; exact ⟨h1, h2, e, h4⟩
    · rw [if_neg e]
      obtain ⟨j', rfl⟩ : ∃ k, j = k + 1 := ⟨j - 1, by omega⟩
      have a := h4 j' (by omega) (by omega)
      have b : gs_D kd (j' + 1) = gs_D kd j' + gs_ar (kd j') - 1 := rfl
      have c := W.1 i hi
      have d : gs_D kd i ≤ gs_D kd (j' + 1) := by omega
      have ne : j' + 1 ≠ cnt := by
        intro z
        rw [z, W.2] at d
        omega
      refine ih (j' + 1 + 1) (by omega) (by omega) (by omega) ?_
      intro x hx hx'
      by_cases c : x = j' + 1
      · rw [c]; exact d
      · exact h4 x hx (by omega)
theorem gs_en_ok {kd : Nat → Nat} {cnt : Nat} (W : gs_WF kd cnt) {i : Nat} (hi : i < cnt) : gs_EN kd cnt i (gs_en kd cnt i) := by
  refine gs_fd_ok W hi _ _ (by omega) (by omega) (by omega) ?_
  intro x hx hx'
  rw [show x = i by omega]
  exact Nat.le_refl _
theorem gs_EN_uniq {kd : Nat → Nat} {cnt i e e' : Nat} (h : gs_EN kd cnt i e) (h' : gs_EN kd cnt i e') : e = e' := by
  obtain ⟨a1, a2, a3, a4⟩ := h
  obtain ⟨b1, b2, b3, b4⟩ := h'
  rcases Nat.lt_trichotomy e e' with c | c | c
  · have := b4 e (by omega) c; omega
  · exact c
  · have := a4 e' (by omega) c; omega
theorem gs_op_ok {kd : Nat → Nat} {cnt : Nat} (W : gs_WF kd cnt) {i : Nat} (hi : i < cnt) : ∀ k, k ≤ gs_ar (kd i) → i < gs_op (gs_en kd cnt) i k ∧ gs_op (gs_en kd cnt) i k ≤ cnt ∧ gs_D kd (gs_op (gs_en kd cnt) i k) + k + 1 = gs_D kd i + gs_ar (kd i) ∧ ∀ x, i < x → x < gs_op (gs_en kd cnt) i k → gs_D kd (gs_op (gs_en kd cnt) i k) < gs_D kd x := by
  intro k
  have d0 := W.1 i hi
  induction k with
  | zero =>
    intro _
    simp only [gs_op]
    refine ⟨by omega, by omega, ?_, fun x hx hx' => by omega⟩
    show gs_D kd i + gs_ar (kd i) - 1 + 0 + 1 = _
    omega
  | succ k ih =>
    intro hk
    obtain ⟨a1, a2, a3, a4⟩ := ih (by omega)
    have ne : gs_op (gs_en kd cnt) i k ≠ cnt := by
      intro z
      rw [z, W.2] at a3
      omega
    obtain ⟨b1, b2, b3, b4⟩ := gs_en_ok W (show gs_op (gs_en kd cnt) i k < cnt by omega)
    simp only [gs_op]
    refine ⟨by omega, b2, by omega, ?_⟩
    intro x hx hx'
    by_cases c : x < gs_op (gs_en kd cnt) i k
    · have := a4 x hx c; omega
    · have := b4 x (by omega) hx'; omega
theorem gs_op_lt {kd : Nat → Nat} {cnt : Nat} (W : gs_WF kd cnt) {i : Nat} (hi : i < cnt) {k : Nat} (hk : k < gs_ar (kd i)) : i < gs_op (gs_en kd cnt) i k ∧ gs_op (gs_en kd cnt) i k < cnt := by
  obtain ⟨a1, a2, a3, a4⟩ := gs_op_ok W hi k (by omega)
  have d0 := W.1 i hi
  refine ⟨a1, ?_⟩
  have ne : gs_op (gs_en kd cnt) i k ≠ cnt := by
    intro z
    rw [z, W.2] at a3
    omega
  omega
theorem gs_op_end {kd : Nat → Nat} {cnt : Nat} (W : gs_WF kd cnt) {i : Nat} (hi : i < cnt) : gs_op (gs_en kd cnt) i (gs_ar (kd i)) = gs_en kd cnt i := by
  obtain ⟨a1, a2, a3, a4⟩ := gs_op_ok W hi _ (Nat.le_refl _)
  have d0 := W.1 i hi
  refine gs_EN_uniq (kd := kd) (cnt := cnt) (i := i) ⟨a1, a2, by omega, ?_⟩ (gs_en_ok W hi)
  intro x hx hx'
  by_cases c : x = i
  · rw [c]; exact Nat.le_refl _
  · have := a4 x (by omega) hx'; omega
/-- what begins within i's term ends within it -/
theorem gs_nest {kd : Nat → Nat} {cnt : Nat} (W : gs_WF kd cnt) {j i : Nat} (hj : j < cnt) (hi : i < cnt) (h1 : j ≤ i) (h2 : i < gs_en kd cnt j) : gs_en kd cnt i ≤ gs_en kd cnt j := by
  obtain ⟨a1, a2, a3, a4⟩ := gs_en_ok W hj
  obtain ⟨b1, b2, b3, b4⟩ := gs_en_ok W hi
  refine Nat.le_of_not_lt (fun z => ?_)
  have := b4 _ (Nat.le_of_lt h2) z
  have := a4 i h1 h2
  omega
/-- what begins between i and an operand of i ends before that operand -/
theorem gs_before {kd : Nat → Nat} {cnt : Nat} (W : gs_WF kd cnt) {i j k : Nat} (hi : i < cnt) (hk : k ≤ gs_ar (kd i)) (h1 : i < j) (h2 : j < gs_op (gs_en kd cnt) i k) : gs_en kd cnt j ≤ gs_op (gs_en kd cnt) i k := by
  obtain ⟨a1, a2, a3, a4⟩ := gs_op_ok W hi k hk
  obtain ⟨b1, b2, b3, b4⟩ := gs_en_ok W (show j < cnt by omega)
  refine Nat.le_of_not_lt (fun z => ?_)
  have := b4 _ (Nat.le_of_lt h2) z
  have := a4 j h1 h2
  omega
/-- what is within i is i or within an operand of i -/
theorem gs_in {kd : Nat → Nat} {cnt i j : Nat} (h1 : i < j) : ∀ k, k ≤ gs_ar (kd i) → j < gs_op (gs_en kd cnt) i k → ∃ m, m < k ∧ gs_op (gs_en kd cnt) i m ≤ j ∧ j < gs_en kd cnt (gs_op (gs_en kd cnt) i m) := by
  intro k
  induction k with
  | zero => intro _ h; simp only [gs_op] at h; omega
  | succ k ih =>
    intro hk h
    by_cases c : j < gs_op (gs_en kd cnt) i k
    · obtain ⟨m, x, y⟩ := ih (by omega) c
      exact ⟨m, by omega, y⟩
    · exact ⟨k, by omega, by omega, h⟩
/-- the values of the LAMs around i, the innermost first, that begin before j -/
def gs_col (kd vn en : Nat → Nat) (i : Nat) : Nat → List Nat
  | 0 => []
  | j + 1 => if kd j = 3 ∧ i < en j then vn j :: gs_col kd vn en i j else gs_col kd vn en i j
theorem gs_col_same {kd vn en : Nat → Nat} {i i' : Nat} : ∀ j, (∀ x, x < j → kd x = 3 → (i < en x ↔ i' < en x)) → gs_col kd vn en i j = gs_col kd vn en i' j := by
  intro j
  induction j with
  | zero => intro _; rfl
  | succ j ih =>
    intro h
    simp only [gs_col]
    rw [ih (fun x hx => h x (by omega))]
    by_cases c : kd j = 3
    · have := h j (by omega) c
      by_cases d : i < en j
      · rw [if_pos ⟨c, d⟩, if_pos ⟨c, this.mp d⟩]
      · rw [if_neg (fun z => d z.2), if_neg (fun z => d (this.mpr z.2))]
    · rw [if_neg (fun z => c z.1), if_neg (fun z => c z.1)]
theorem gs_col_skip {kd vn en : Nat → Nat} {i j : Nat} : ∀ n, (∀ x, j ≤ x → x < j + n → ¬ (kd x = 3 ∧ i < en x)) → gs_col kd vn en i (j + n) = gs_col kd vn en i j := by
  intro n
  induction n with
  | zero => intro _; rfl
  | succ n ih =>
    intro h
    rw [← Nat.add_assoc]
    simp only [gs_col]
    rw [if_neg (h (j + n) (by omega) (by omega))]
    exact ih (fun x hx hx' => h x hx (by omega))
/-- the LAMs around an operand -/
theorem gs_col_op {kd vn : Nat → Nat} {cnt : Nat} (W : gs_WF kd cnt) {i k : Nat} (hi : i < cnt) (hk : k < gs_ar (kd i)) : gs_col kd vn (gs_en kd cnt) (gs_op (gs_en kd cnt) i k) (gs_op (gs_en kd cnt) i k) = (if kd i = 3 then vn i :: gs_col kd vn (gs_en kd cnt) i i else gs_col kd vn (gs_en kd cnt) i i) := by
  obtain ⟨l1, l2⟩ := gs_op_lt W hi hk
  have e1 : gs_op (gs_en kd cnt) i k = (i + 1) + (gs_op (gs_en kd cnt) i k - (i + 1)) := by omega
  have s1 : gs_col kd vn (gs_en kd cnt) (gs_op (gs_en kd cnt) i k) (gs_op (gs_en kd cnt) i k) = gs_col kd vn (gs_en kd cnt) (gs_op (gs_en kd cnt) i k) (i + 1) := by
    have := gs_col_skip (kd := kd) (vn := vn) (en := gs_en kd cnt) (i := gs_op (gs_en kd cnt) i k) (j := i + 1) (gs_op (gs_en kd cnt) i k - (i + 1)) (fun x hx hx' z => by
      have := gs_before W hi (Nat.le_of_lt hk) (show i < x by omega) (by omega)
      omega)
    rw [← e1] at this
    exact this
  have in1 : gs_op (gs_en kd cnt) i k < gs_en kd cnt i := by
    rw [← gs_op_end W hi]
    obtain ⟨a1, a2, a3, a4⟩ := gs_op_ok W hi _ (Nat.le_refl _)
    obtain ⟨b1, b2, b3, b4⟩ := gs_op_ok W hi k (by omega)
    refine Nat.lt_of_not_le (fun z => ?_)
    by_cases c : gs_op (gs_en kd cnt) i (gs_ar (kd i)) = gs_op (gs_en kd cnt) i k
    · rw [c] at a3; omega
    · have := b4 _ a1 (by omega); omega
  have s2 : gs_col kd vn (gs_en kd cnt) (gs_op (gs_en kd cnt) i k) i = gs_col kd vn (gs_en kd cnt) i i := by
    refine gs_col_same i (fun x hx _ => ⟨fun z => by omega, fun z => ?_⟩)
    have := gs_nest W (show x < cnt by omega) hi (by omega) z
    omega
  rw [s1]
  simp only [gs_col]
  rw [s2]
  by_cases c : kd i = 3
  · rw [if_pos ⟨c, in1⟩, if_pos c]
  · rw [if_neg (fun z => c z.1), if_neg c]
