/-! ===== 06: the types of a draft ===== -/
def gs_cmp (h : Nat) (a b : Lean.RArray Nat) : Nat × Lean.RArray Nat := if 1 + gd_sz a + gd_sz b ≤ 7 then (0, .branch h a b) else (3, .leaf 0)
def gs_var (nm : Nat → Lean.RArray Nat) (o : Option Nat) : Nat × Lean.RArray Nat :=
  match o with
  | none => (2, .leaf 0)
  | some n => (0, nm n)
/-- code (0 sound, 2 ill, 3 large) and type of a token of kind k with value v, operands of types t0 t1 t2, and l around it -/
def gs_typ (nm : Nat → Lean.RArray Nat) (k v : Nat) (l : List Nat) (t0 t1 t2 : Lean.RArray Nat) : Nat × Lean.RArray Nat :=
  if k = 0 then (0, .leaf 0) else if k = 1 then (0, .leaf 1)
  else if k = 2 then gs_var nm l[v]?
  else if k = 3 then gs_cmp 3 (nm v) t0
  else if k = 4 then (if gd_hd t0 = 2 then (0, .leaf 2) else if gd_hd t0 = 3 then (if gd_cb t1 (gd_lf t0) = true then 0 else 2, gd_rt t0) else (2, .leaf 0))
  else if k = 5 then (if gd_cb t0 (.leaf 1) = true ∧ gd_cb t2 t1 = true then 0 else 2, t1)
  else if k = 6 then (if gd_cb t0 (.leaf 0) = true ∧ gd_cb t1 (.leaf 0) = true then 0 else 2, .leaf 0)
  else if k = 7 then (if gd_cb t0 (.leaf 0) = true ∧ gd_cb t1 (.leaf 0) = true then 0 else 2, .leaf 1)
  else if k = 8 then gs_cmp 4 t0 t1
  else if k = 11 then (if gd_cb t0 (nm v) = true then 0 else 2, nm v)
  else if gd_hd t0 = 2 then (0, .leaf 2) else if gd_hd t0 = 4 then (0, if k = 9 then gd_lf t0 else gd_rt t0) else (2, .leaf 0)
def gs_snd (en : Nat → Nat) (r : Nat → Nat × Lean.RArray Nat) (i : Nat) : Nat → Bool
  | 0 => true
  | k + 1 => gs_snd en r i k && (r (gs_op en i k)).1 == 0
def gs_tk (en : Nat → Nat) (r : Nat → Nat × Lean.RArray Nat) (i n k : Nat) : Lean.RArray Nat := if k < n then (r (gs_op en i k)).2 else .leaf 0
def gs_node (kd vn : Nat → Nat) (nm : Nat → Lean.RArray Nat) (en : Nat → Nat) (r : Nat → Nat × Lean.RArray Nat) (i : Nat) : Nat × Lean.RArray Nat :=
  if gs_snd en r i (gs_ar (kd i)) = true then gs_typ nm (kd i) (vn i) (gs_col kd vn en i i) (gs_tk en r i (gs_ar (kd i)) 0) (gs_tk en r i (gs_ar (kd i)) 1) (gs_tk en r i (gs_ar (kd i)) 2) else (4, .leaf 0)
def gs_tb (kd vn : Nat → Nat) (nm : Nat → Lean.RArray Nat) (en : Nat → Nat) (cnt : Nat) : Nat → Nat → Nat × Lean.RArray Nat
  | 0 => fun _ => (4, .leaf 0)
  | n + 1 => fun i => if i + n + 1 = cnt then gs_node kd vn nm en (gs_tb kd vn nm en cnt n) i else gs_tb kd vn nm en cnt n i
def gs_rho (kd vn : Nat → Nat) (nm : Nat → Lean.RArray Nat) (cnt : Nat) : Nat → Nat × Lean.RArray Nat := gs_tb kd vn nm (gs_en kd cnt) cnt cnt
theorem gs_tb_st {kd vn : Nat → Nat} {nm : Nat → Lean.RArray Nat} {en : Nat → Nat} {cnt n i : Nat} (h : cnt ≤ i + n) : ∀ m, gs_tb kd vn nm en cnt (n + m) i = gs_tb kd vn nm en cnt n i := by
  intro m
  induction m with
  | zero => rfl
  | succ m ih =>
    rw [← ih]
    show (if i + (n + m) + 1 = cnt then _ else gs_tb kd vn nm en cnt (n + m) i) = _
    rw [if_neg (by omega)]
theorem gs_snd_c {en : Nat → Nat} {r r' : Nat → Nat × Lean.RArray Nat} {i : Nat} : ∀ k, (∀ m, m < k → r (gs_op en i m) = r' (gs_op en i m)) → gs_snd en r i k = gs_snd en r' i k := by
  intro k
  induction k with
  | zero => intro _; rfl
  | succ k ih =>
    intro h
    simp only [gs_snd]
    rw [ih (fun m hm => h m (by omega)), h k (by omega)]
theorem gs_snd_i {en : Nat → Nat} {r : Nat → Nat × Lean.RArray Nat} {i : Nat} : ∀ k, gs_snd en r i k = true ↔ ∀ m, m < k → (r (gs_op en i m)).1 = 0 := by
  intro k
  induction k with
  | zero => simp [gs_snd]
  | succ k ih =>
    simp only [gs_snd, Bool.and_eq_true, beq_iff_eq]
    rw [ih]
    refine ⟨fun h m hm => ?_, fun h => ⟨fun m hm => h m (by omega), h k (by omega)⟩⟩
    by_cases c : m = k
    · rw [c]; exact h.2
    · exact h.1 m (by omega)
theorem gs_tk_c {en : Nat → Nat} {r r' : Nat → Nat × Lean.RArray Nat} {i n : Nat} (h : ∀ m, m < n → r (gs_op en i m) = r' (gs_op en i m)) (k : Nat) : gs_tk en r i n k = gs_tk en r' i n k := by
  unfold gs_tk
  by_cases c : k < n
  · rw [if_pos c, if_pos c, h k c]
  · rw [if_neg c, if_neg c]
theorem gs_node_c {kd vn : Nat → Nat} {nm : Nat → Lean.RArray Nat} {en : Nat → Nat} {r r' : Nat → Nat × Lean.RArray Nat} {i : Nat} (h : ∀ m, m < gs_ar (kd i) → r (gs_op en i m) = r' (gs_op en i m)) : gs_node kd vn nm en r i = gs_node kd vn nm en r' i := by
  unfold gs_node
  rw [gs_snd_c _ h, gs_tk_c h 0, gs_tk_c h 1, gs_tk_c h 2]
theorem gs_rho_eq {kd vn : Nat → Nat} {nm : Nat → Lean.RArray Nat} {cnt : Nat} (W : gs_WF kd cnt) {i : Nat} (hi : i < cnt) : gs_rho kd vn nm cnt i = gs_node kd vn nm (gs_en kd cnt) (gs_rho kd vn nm cnt) i := by
  have st : ∀ j n, n ≤ cnt → cnt ≤ j + n → gs_rho kd vn nm cnt j = gs_tb kd vn nm (gs_en kd cnt) cnt n j := by
    intro j n hn h
    have := gs_tb_st (kd := kd) (vn := vn) (nm := nm) (en := gs_en kd cnt) h (cnt - n)
    rw [show n + (cnt - n) = cnt by omega] at this
    exact this
  rw [st i (cnt - 1 - i + 1) (by omega) (by omega)]
  show (if i + (cnt - 1 - i) + 1 = cnt then _ else _) = _
  rw [if_pos (by omega)]
  refine gs_node_c (fun m hm => ?_)
  have := gs_op_lt W hi hm
  exact (st _ _ (by omega) (by omega)).symm
theorem gs_code4 {kd vn : Nat → Nat} {nm : Nat → Lean.RArray Nat} {cnt : Nat} (W : gs_WF kd cnt) {i : Nat} (hi : i < cnt) (h : (gs_rho kd vn nm cnt i).1 ≠ 4) : (∀ m, m < gs_ar (kd i) → (gs_rho kd vn nm cnt (gs_op (gs_en kd cnt) i m)).1 = 0) ∧ gs_rho kd vn nm cnt i = gs_typ nm (kd i) (vn i) (gs_col kd vn (gs_en kd cnt) i i) (gs_tk (gs_en kd cnt) (gs_rho kd vn nm cnt) i (gs_ar (kd i)) 0) (gs_tk (gs_en kd cnt) (gs_rho kd vn nm cnt) i (gs_ar (kd i)) 1) (gs_tk (gs_en kd cnt) (gs_rho kd vn nm cnt) i (gs_ar (kd i)) 2) := by
  have e := gs_rho_eq (vn := vn) (nm := nm) W hi
  unfold gs_node at e
  by_cases c : gs_snd (gs_en kd cnt) (gs_rho kd vn nm cnt) i (gs_ar (kd i)) = true
  · rw [if_pos c] at e
    exact ⟨(gs_snd_i _).mp c, e⟩
  · rw [if_neg c] at e
    rw [e] at h
    exact absurd rfl h
theorem gs_snd_rho {kd vn : Nat → Nat} {nm : Nat → Lean.RArray Nat} {cnt : Nat} (W : gs_WF kd cnt) {i : Nat} (hi : i < cnt) (h : ∀ m, m < gs_ar (kd i) → (gs_rho kd vn nm cnt (gs_op (gs_en kd cnt) i m)).1 = 0) : gs_rho kd vn nm cnt i = gs_typ nm (kd i) (vn i) (gs_col kd vn (gs_en kd cnt) i i) (gs_tk (gs_en kd cnt) (gs_rho kd vn nm cnt) i (gs_ar (kd i)) 0) (gs_tk (gs_en kd cnt) (gs_rho kd vn nm cnt) i (gs_ar (kd i)) 1) (gs_tk (gs_en kd cnt) (gs_rho kd vn nm cnt) i (gs_ar (kd i)) 2) := by
  have e := gs_rho_eq (vn := vn) (nm := nm) W hi
  unfold gs_node at e
  rw [if_pos ((gs_snd_i _).mpr h)] at e
  exact e
/-- below what is sound or ill or large all is sound -/
theorem gs_desc {kd vn : Nat → Nat} {nm : Nat → Lean.RArray Nat} {cnt : Nat} (W : gs_WF kd cnt) : ∀ n i, i < cnt → cnt ≤ i + n → (gs_rho kd vn nm cnt i).1 ≠ 4 → ∀ j, i < j → j < gs_en kd cnt i → (gs_rho kd vn nm cnt j).1 = 0 := by
  intro n
  induction n with
  | zero => intro i h1 h2; omega
  | succ n ih =>
    intro i h1 h2 h3 j h4 h5
    obtain ⟨s, _⟩ := gs_code4 W h1 h3
    rw [← gs_op_end W h1] at h5
    obtain ⟨m, m1, m2, m3⟩ := gs_in h4 _ (Nat.le_refl _) h5
    have o := gs_op_lt W h1 m1
    have sm := s m m1
    by_cases c : gs_op (gs_en kd cnt) i m = j
    · rw [← c]; exact sm
    · exact ih _ o.2 (by omega) (by rw [sm]; decide) j (by omega) m3
/-- the first that is ill or large by ends is the first by place -/
theorem gs_small {kd vn : Nat → Nat} {nm : Nat → Lean.RArray Nat} {cnt : Nat} (W : gs_WF kd cnt) {i : Nat} (hi : i < cnt) (hc : (gs_rho kd vn nm cnt i).1 ≠ 0) (h : ∀ j, j < cnt → gs_en kd cnt j < gs_en kd cnt i → (gs_rho kd vn nm cnt j).1 = 0) : ∀ j, j < i → (gs_rho kd vn nm cnt j).1 = 0 ∨ (gs_rho kd vn nm cnt j).1 = 4 := by
  intro j hj
  have ei := gs_en_ok W hi
  by_cases c : (gs_rho kd vn nm cnt j).1 = 4
  · right; exact c
  · left
    by_cases d : gs_en kd cnt j ≤ i
    · exact h j (by omega) (by have := ei.1; omega)
    · exact absurd (gs_desc W cnt j (by omega) (by omega) c i hj (by omega)) hc
theorem gs_TY0 (n : Nat) (h : n < 3) : gd_TY (.leaf n) := ⟨h, by simp [gd_sz]⟩
theorem gs_lf_TY {t : Lean.RArray Nat} (h : gd_TY t) : gd_TY (gd_lf t) := by
  cases t with
  | leaf n => exact h
  | branch k l r => exact gd_TY_l h
theorem gs_rt_TY {t : Lean.RArray Nat} (h : gd_TY t) : gd_TY (gd_rt t) := by
  cases t with
  | leaf n => exact h
  | branch k l r => exact gd_TY_r h
theorem gs_cmp_TY {h : Nat} {a b : Lean.RArray Nat} (hh : h = 3 ∨ h = 4) (ha : gd_TY a) (hb : gd_TY b) : gd_TY (gs_cmp h a b).2 := by
  unfold gs_cmp
  by_cases c : 1 + gd_sz a + gd_sz b ≤ 7
  · rw [if_pos c]; exact ⟨⟨hh, ha.1, hb.1⟩, c⟩
  · rw [if_neg c]; exact gs_TY0 0 (by decide)
theorem gs_typ_TY {nm : Nat → Lean.RArray Nat} (hn : ∀ n, gd_TY (nm n)) {k v : Nat} {l : List Nat} {t0 t1 t2 : Lean.RArray Nat} (h0 : gd_TY t0) (h1 : gd_TY t1) : gd_TY (gs_typ nm k v l t0 t1 t2).2 := by
  have L0 := gs_TY0 0 (by decide)
  have L1 := gs_TY0 1 (by decide)
  have L2 := gs_TY0 2 (by decide)
  unfold gs_typ
  by_cases c : k = 0
  · rw [if_pos c]; exact L0
  rw [if_neg c]
  by_cases c : k = 1
  · rw [if_pos c]; exact L1
  rw [if_neg c]
  by_cases c : k = 2
  · rw [if_pos c]
    unfold gs_var
    split
    · exact L0
    · exact hn _
  rw [if_neg c]
  by_cases c : k = 3
  · rw [if_pos c]; exact gs_cmp_TY (Or.inl rfl) (hn _) h0
  rw [if_neg c]
  by_cases c : k = 4
  · rw [if_pos c]
    by_cases d : gd_hd t0 = 2
    · rw [if_pos d]; exact L2
    rw [if_neg d]
    by_cases d : gd_hd t0 = 3
    · rw [if_pos d]; exact gs_rt_TY h0
    · rw [if_neg d]; exact L0
  rw [if_neg c]
  by_cases c : k = 5
  · rw [if_pos c]; exact h1
  rw [if_neg c]
  by_cases c : k = 6
  · rw [if_pos c]; exact L0
  rw [if_neg c]
  by_cases c : k = 7
  · rw [if_pos c]; exact L1
  rw [if_neg c]
  by_cases c : k = 8
  · rw [if_pos c]; exact gs_cmp_TY (Or.inr rfl) h0 h1
  rw [if_neg c]
  by_cases c : k = 11
  · rw [if_pos c]; exact hn _
  rw [if_neg c]
  by_cases d : gd_hd t0 = 2
  · rw [if_pos d]; exact L2
  rw [if_neg d]
  by_cases d : gd_hd t0 = 4
  · rw [if_pos d]
    show gd_TY (if k = 9 then gd_lf t0 else gd_rt t0)
    split
    · exact gs_lf_TY h0
    · exact gs_rt_TY h0
  · rw [if_neg d]; exact L0
theorem gs_rho_TY {kd vn : Nat → Nat} {nm : Nat → Lean.RArray Nat} {cnt : Nat} (W : gs_WF kd cnt) (hn : ∀ n, gd_TY (nm n)) : ∀ n i, i < cnt → cnt ≤ i + n → gd_TY (gs_rho kd vn nm cnt i).2 := by
  intro n
  induction n with
  | zero => intro i h1 h2; omega
  | succ n ih =>
    intro i h1 h2
    rw [gs_rho_eq W h1]
    unfold gs_node
    have tk : ∀ k, gd_TY (gs_tk (gs_en kd cnt) (gs_rho kd vn nm cnt) i (gs_ar (kd i)) k) := by
      intro k
      unfold gs_tk
      by_cases c : k < gs_ar (kd i)
      · rw [if_pos c]
        have o := gs_op_lt W h1 c
        exact ih _ o.2 (by omega)
      · rw [if_neg c]; exact gs_TY0 0 (by decide)
    split
    · exact gs_typ_TY hn (tk 0) (tk 1)
    · exact gs_TY0 0 (by decide)
theorem gs_rTY {kd vn : Nat → Nat} {nm : Nat → Lean.RArray Nat} {cnt : Nat} (W : gs_WF kd cnt) (hn : ∀ n, gd_TY (nm n)) {i : Nat} (hi : i < cnt) : gd_TY (gs_rho kd vn nm cnt i).2 := gs_rho_TY W hn cnt i hi (by omega)
