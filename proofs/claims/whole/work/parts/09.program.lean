/-! ===== 09: the program that a sound draft is ===== -/
/-- the type that operand k of token i is cast to -/
def gs_tg (k j : Nat) (ti t0 own : Lean.RArray Nat) : Lean.RArray Nat :=
  if k = 4 then (if j = 0 then (if gd_hd own = 2 then .branch 3 (.leaf 2) (.leaf 2) else own) else (if gd_hd t0 = 2 then .leaf 2 else gd_lf t0))
  else if k = 9 ∨ k = 10 then (if gd_hd own = 2 then .branch 4 (.leaf 2) (.leaf 2) else own)
  else if k = 5 then (if j = 0 then .leaf 1 else ti)
  else if k = 6 ∨ k = 7 then .leaf 0
  else if k = 11 then ti
  else own
def gs_P (kd : Nat → Nat) (vl : Nat → Int32) (nm : Nat → Lean.RArray Nat) (cnt : Nat) : gm_P :=
  (kd, vl, gs_op (gs_en kd cnt), (fun i => (gs_rho kd (fun j => (vl j).toNatClampNeg) nm cnt i).2),
    (fun i k => gs_tg (kd i) k (gs_rho kd (fun j => (vl j).toNatClampNeg) nm cnt i).2 (gs_rho kd (fun j => (vl j).toNatClampNeg) nm cnt (gs_op (gs_en kd cnt) i 0)).2 (gs_rho kd (fun j => (vl j).toNatClampNeg) nm cnt (gs_op (gs_en kd cnt) i k)).2), cnt)
def gs_G (kd : Nat → Nat) (vl : Nat → Int32) (nm : Nat → Lean.RArray Nat) (cnt i : Nat) : List (Lean.RArray Nat) := (gs_col kd (fun j => (vl j).toNatClampNeg) (gs_en kd cnt) i i).map nm
theorem gs_ar_k {k : Nat} (h4 : 4 ≤ k) {j : Nat} (h : j = 0 ∨ j = 1 ∧ k < 9 ∨ j = 2 ∧ k = 5) : j < gs_ar k := by
  unfold gs_ar
  rw [if_neg (by omega)]
  by_cases c : k = 5
  · rw [if_pos c]; omega
  · rw [if_neg c]
    by_cases d : k = 4 ∨ 5 < k ∧ k < 9
    · rw [if_pos d]; omega
    · rw [if_neg d]; omega
theorem gs_hd3 {t : Lean.RArray Nat} (h : gd_vt t) (h3 : gd_hd t = 3) : t = .branch 3 (gd_lf t) (gd_rt t) := by
  obtain ⟨l, r, e, _⟩ := gm_br_of (by omega) h
  rw [h3] at e
  rw [e]
  rfl
theorem gs_hd4 {t : Lean.RArray Nat} (h : gd_vt t) (h3 : gd_hd t = 4) : t = .branch 4 (gd_lf t) (gd_rt t) := by
  obtain ⟨l, r, e, _⟩ := gm_br_of (by omega) h
  rw [h3] at e
  rw [e]
  rfl
theorem gs_if2 {p : Prop} {_ : Decidable p} (h : (if p then (0 : Nat) else 2) = 0) : p := by
  by_cases c : p
  · exact c
  · rw [if_neg c] at h; exact absurd h (by decide)
theorem gs_typ4 {nm : Nat → Lean.RArray Nat} {v : Nat} {l : List Nat} {t0 t1 t2 : Lean.RArray Nat} : gs_typ nm 4 v l t0 t1 t2 = (if gd_hd t0 = 2 then (0, .leaf 2) else if gd_hd t0 = 3 then (if gd_cb t1 (gd_lf t0) = true then 0 else 2, gd_rt t0) else (2, .leaf 0)) := rfl
theorem gs_tg40 {ti t0 own : Lean.RArray Nat} : gs_tg 4 0 ti t0 own = (if gd_hd own = 2 then .branch 3 (.leaf 2) (.leaf 2) else own) := rfl
theorem gs_tg41 {ti t0 own : Lean.RArray Nat} : gs_tg 4 1 ti t0 own = (if gd_hd t0 = 2 then .leaf 2 else gd_lf t0) := rfl
theorem gs_typ9 {nm : Nat → Lean.RArray Nat} {k v : Nat} {l : List Nat} {t0 t1 t2 : Lean.RArray Nat} (q : k = 9 ∨ k = 10) : gs_typ nm k v l t0 t1 t2 = (if gd_hd t0 = 2 then (0, .leaf 2) else if gd_hd t0 = 4 then (0, if k = 9 then gd_lf t0 else gd_rt t0) else (2, .leaf 0)) := by
  rcases q with q | q
  · subst q; rfl
  · subst q; rfl
theorem gs_tg9 {k : Nat} {ti t0 own : Lean.RArray Nat} (q : k = 9 ∨ k = 10) : gs_tg k 0 ti t0 own = (if gd_hd own = 2 then .branch 4 (.leaf 2) (.leaf 2) else own) := by
  rcases q with q | q
  · subst q; rfl
  · subst q; rfl
theorem gs_SF {kd : Nat → Nat} {vl : Nat → Int32} {nm : Nat → Lean.RArray Nat} {cnt : Nat} (W : gs_WF kd cnt) (hn : ∀ n, gd_TY (nm n)) (h12 : ∀ i, i < cnt → kd i < 12) (ok : ∀ i, i < cnt → (gs_rho kd (fun j => (vl j).toNatClampNeg) nm cnt i).1 = 0) : gm_SF (gs_P kd vl nm cnt) cnt (gs_G kd vl nm cnt) := by
  intro i hi
  have k12 := h12 i hi
  have tyi := gs_rTY (vn := fun j => (vl j).toNatClampNeg) W hn hi
  have c0 := ok i hi
  obtain ⟨snd, e⟩ := gs_code4 W hi (show (gs_rho kd (fun j => (vl j).toNatClampNeg) nm cnt i).1 ≠ 4 by rw [c0]; decide)
  have opt : ∀ k, k < gs_ar (kd i) → gs_op (gs_en kd cnt) i k < cnt ∧ gd_TY (gs_rho kd (fun j => (vl j).toNatClampNeg) nm cnt (gs_op (gs_en kd cnt) i k)).2 ∧ gs_tk (gs_en kd cnt) (gs_rho kd (fun j => (vl j).toNatClampNeg) nm cnt) i (gs_ar (kd i)) k = (gs_rho kd (fun j => (vl j).toNatClampNeg) nm cnt (gs_op (gs_en kd cnt) i k)).2 := by
    intro k hk
    have l := gs_op_lt W hi hk
    exact ⟨l.2, gs_rTY W hn l.2, by unfold gs_tk; rw [if_pos hk]⟩
  have cop : ∀ k, k < gs_ar (kd i) → gs_G kd vl nm cnt (gs_op (gs_en kd cnt) i k) = (if kd i = 3 then nm (vl i).toNatClampNeg :: gs_G kd vl nm cnt i else gs_G kd vl nm cnt i) := by
    intro k hk
    unfold gs_G
    rw [gs_col_op W hi hk]
    split <;> rfl
  have L0 := gs_TY0 0 (by decide)
  have L1 := gs_TY0 1 (by decide)
  have L2 := gs_TY0 2 (by decide)
  have g3 : gd_TY (.branch 3 (.leaf 2) (.leaf 2)) := ⟨⟨Or.inl rfl, L2.1, L2.1⟩, by decide⟩
  have g4 : gd_TY (.branch 4 (.leaf 2) (.leaf 2)) := ⟨⟨Or.inr rfl, L2.1, L2.1⟩, by decide⟩
  show gd_TY (gs_rho kd (fun j => (vl j).toNatClampNeg) nm cnt i).2 ∧ _
  refine ⟨tyi, ?_, ?_, ?_, ?_, ?_, ?_, ?_, ?_, ?_, ?_, ?_, ?_⟩
  · intro (k : kd i = 0)
    show (gs_rho kd (fun j => (vl j).toNatClampNeg) nm cnt i).2 = _
    rw [e, k]
    rfl
  · intro (k : kd i = 1)
    show (gs_rho kd (fun j => (vl j).toNatClampNeg) nm cnt i).2 = _
    rw [e, k]
    rfl
  · intro (k : kd i = 2)
    show (gs_G kd vl nm cnt i)[(vl i).toNatClampNeg]? = some (gs_rho kd (fun j => (vl j).toNatClampNeg) nm cnt i).2
    rw [e] at c0 ⊢
    rw [k] at c0 ⊢
    unfold gs_G
    rw [List.getElem?_map]
    change (gs_var nm _).1 = 0 at c0
    change _ = some (gs_var nm _).2
    generalize (gs_col kd (fun j => (vl j).toNatClampNeg) (gs_en kd cnt) i i)[(vl i).toNatClampNeg]? = o at c0 ⊢
    cases o with
    | none => exact absurd c0 (by simp [gs_var])
    | some n => rfl
  · intro (k : kd i = 3)
    have h0 : 0 < gs_ar (kd i) := by rw [k]; decide
    obtain ⟨l, t0, et0⟩ := opt 0 h0
    refine ⟨l, nm (vl i).toNatClampNeg, ?_, ?_⟩
    · show (gs_rho kd (fun j => (vl j).toNatClampNeg) nm cnt i).2 = .branch 3 _ (gs_rho kd (fun j => (vl j).toNatClampNeg) nm cnt (i + 1)).2
      rw [et0] at e
      rw [e] at c0 ⊢
      rw [k] at c0 ⊢
      change (gs_cmp 3 (nm (vl i).toNatClampNeg) (gs_rho kd (fun j => (vl j).toNatClampNeg) nm cnt (i + 1)).2).1 = 0 at c0
      show (gs_cmp 3 (nm (vl i).toNatClampNeg) (gs_rho kd (fun j => (vl j).toNatClampNeg) nm cnt (i + 1)).2).2 = _
      unfold gs_cmp at c0 ⊢
      split at c0
      · rename_i q; rw [if_pos q]
      · exact absurd c0 (by decide)
    · have := cop 0 h0
      rw [if_pos k] at this
      exact this
  · intro (k4 : 4 ≤ kd i)
    refine ⟨by show kd i ≤ 11; omega, ?_⟩
    intro k (hk : k = 0 ∨ k = 1 ∧ kd i < 9 ∨ k = 2 ∧ kd i = 5)
    have hk' := gs_ar_k k4 hk
    obtain ⟨l, tk, etk⟩ := opt k hk'
    have c := cop k hk'
    rw [if_neg (by omega)] at c
    have h0 : 0 < gs_ar (kd i) := gs_ar_k k4 (Or.inl rfl)
    obtain ⟨l0, t0, et0⟩ := opt 0 h0
    refine ⟨l, c, ?_⟩
    show gd_TY (gs_tg (kd i) k (gs_rho kd (fun j => (vl j).toNatClampNeg) nm cnt i).2 (gs_rho kd (fun j => (vl j).toNatClampNeg) nm cnt (gs_op (gs_en kd cnt) i 0)).2 (gs_rho kd (fun j => (vl j).toNatClampNeg) nm cnt (gs_op (gs_en kd cnt) i k)).2) ∧ gd_cb (gs_rho kd (fun j => (vl j).toNatClampNeg) nm cnt (gs_op (gs_en kd cnt) i k)).2 (gs_tg (kd i) k (gs_rho kd (fun j => (vl j).toNatClampNeg) nm cnt i).2 (gs_rho kd (fun j => (vl j).toNatClampNeg) nm cnt (gs_op (gs_en kd cnt) i 0)).2 (gs_rho kd (fun j => (vl j).toNatClampNeg) nm cnt (gs_op (gs_en kd cnt) i k)).2) = true
    rw [et0] at e
    have e1 : 1 < gs_ar (kd i) → gs_tk (gs_en kd cnt) (gs_rho kd (fun j => (vl j).toNatClampNeg) nm cnt) i (gs_ar (kd i)) 1 = (gs_rho kd (fun j => (vl j).toNatClampNeg) nm cnt (gs_op (gs_en kd cnt) i 1)).2 := fun z => (opt 1 z).2.2
    have e2 : 2 < gs_ar (kd i) → gs_tk (gs_en kd cnt) (gs_rho kd (fun j => (vl j).toNatClampNeg) nm cnt) i (gs_ar (kd i)) 2 = (gs_rho kd (fun j => (vl j).toNatClampNeg) nm cnt (gs_op (gs_en kd cnt) i 2)).2 := fun z => (opt 2 z).2.2
    have e' := e
    rw [e] at c0
    clear e
    have hcase : kd i = 4 ∨ kd i = 5 ∨ kd i = 6 ∨ kd i = 7 ∨ kd i = 8 ∨ kd i = 9 ∨ kd i = 10 ∨ kd i = 11 := by omega
    unfold gs_tg
    rcases hcase with q | q | q | q | q | q | q | q
    · rw [if_pos q]
      rw [e1 (by rw [q]; decide)] at c0
      rw [q] at c0 hk
      by_cases z : k = 0
      · subst z
        rw [if_pos rfl]
        by_cases y : gd_hd (gs_rho kd (fun j => (vl j).toNatClampNeg) nm cnt (gs_op (gs_en kd cnt) i 0)).2 = 2
        · rw [if_pos y]
          rw [gm_leaf_of t0.1 (by omega), y]
          exact ⟨g3, gd_cb_any _⟩
        · rw [if_neg y]; exact ⟨t0, gd_cb_refl _⟩
      · rw [if_neg z]
        have z1 : k = 1 := by omega
        subst z1
        by_cases y : gd_hd (gs_rho kd (fun j => (vl j).toNatClampNeg) nm cnt (gs_op (gs_en kd cnt) i 0)).2 = 2
        · rw [if_pos y]; exact ⟨L2, gd_cb_any' _⟩
        · rw [if_neg y]
          refine ⟨gs_lf_TY t0, ?_⟩
          change (if gd_hd (gs_rho kd (fun j => (vl j).toNatClampNeg) nm cnt (gs_op (gs_en kd cnt) i 0)).2 = 2 then (0, Lean.RArray.leaf 2) else if gd_hd (gs_rho kd (fun j => (vl j).toNatClampNeg) nm cnt (gs_op (gs_en kd cnt) i 0)).2 = 3 then (if gd_cb (gs_rho kd (fun j => (vl j).toNatClampNeg) nm cnt (gs_op (gs_en kd cnt) i 1)).2 (gd_lf (gs_rho kd (fun j => (vl j).toNatClampNeg) nm cnt (gs_op (gs_en kd cnt) i 0)).2) = true then 0 else 2, gd_rt (gs_rho kd (fun j => (vl j).toNatClampNeg) nm cnt (gs_op (gs_en kd cnt) i 0)).2) else (2, Lean.RArray.leaf 0)).1 = 0 at c0
          rw [if_neg y] at c0
          split at c0
          · exact gs_if2 c0
          · exact absurd c0 (by decide)
    · rw [if_neg (by omega), if_neg (by omega), if_pos q]
      rw [e1 (by rw [q]; decide), e2 (by rw [q]; decide)] at c0
      rw [q] at c0 hk
      have c1 := gs_if2 (show (if gd_cb (gs_rho kd (fun j => (vl j).toNatClampNeg) nm cnt (gs_op (gs_en kd cnt) i 0)).2 (.leaf 1) = true ∧ gd_cb (gs_rho kd (fun j => (vl j).toNatClampNeg) nm cnt (gs_op (gs_en kd cnt) i 2)).2 (gs_rho kd (fun j => (vl j).toNatClampNeg) nm cnt (gs_op (gs_en kd cnt) i 1)).2 = true then (0 : Nat) else 2) = 0 from c0)
      by_cases z : k = 0
      · subst z
        rw [if_pos rfl]
        exact ⟨L1, c1.1⟩
      · rw [if_neg z]
        refine ⟨tyi, ?_⟩
        rw [e', e1 (by rw [q]; decide), e2 (by rw [q]; decide), q]
        show gd_cb _ (gs_rho kd (fun j => (vl j).toNatClampNeg) nm cnt (gs_op (gs_en kd cnt) i 1)).2 = true
        have z1 : k = 1 ∨ k = 2 := by omega
        rcases z1 with z1 | z1
        · subst z1; exact gd_cb_refl _
        · subst z1; exact c1.2
    · rw [if_neg (by omega), if_neg (by omega), if_neg (by omega), if_pos (Or.inl q)]
      rw [e1 (by rw [q]; decide)] at c0
      rw [q] at c0 hk
      have c1 := gs_if2 (show (if gd_cb (gs_rho kd (fun j => (vl j).toNatClampNeg) nm cnt (gs_op (gs_en kd cnt) i 0)).2 (.leaf 0) = true ∧ gd_cb (gs_rho kd (fun j => (vl j).toNatClampNeg) nm cnt (gs_op (gs_en kd cnt) i 1)).2 (.leaf 0) = true then (0 : Nat) else 2) = 0 from c0)
      have z1 : k = 0 ∨ k = 1 := by omega
      rcases z1 with z1 | z1
      · subst z1; exact ⟨L0, c1.1⟩
      · subst z1; exact ⟨L0, c1.2⟩
    · rw [if_neg (by omega), if_neg (by omega), if_neg (by omega), if_pos (Or.inr q)]
      rw [e1 (by rw [q]; decide)] at c0
      rw [q] at c0 hk
      have c1 := gs_if2 (show (if gd_cb (gs_rho kd (fun j => (vl j).toNatClampNeg) nm cnt (gs_op (gs_en kd cnt) i 0)).2 (.leaf 0) = true ∧ gd_cb (gs_rho kd (fun j => (vl j).toNatClampNeg) nm cnt (gs_op (gs_en kd cnt) i 1)).2 (.leaf 0) = true then (0 : Nat) else 2) = 0 from c0)
      have z1 : k = 0 ∨ k = 1 := by omega
      rcases z1 with z1 | z1
      · subst z1; exact ⟨L0, c1.1⟩
      · subst z1; exact ⟨L0, c1.2⟩
    · rw [if_neg (by omega), if_neg (by omega), if_neg (by omega), if_neg (by omega), if_neg (by omega)]
      exact ⟨tk, gd_cb_refl _⟩
    · rw [if_neg (by omega), if_pos (Or.inl q)]
      by_cases y : gd_hd (gs_rho kd (fun j => (vl j).toNatClampNeg) nm cnt (gs_op (gs_en kd cnt) i k)).2 = 2
      · rw [if_pos y, gm_leaf_of tk.1 (by omega), y]
        exact ⟨g4, gd_cb_any _⟩
      · rw [if_neg y]; exact ⟨tk, gd_cb_refl _⟩
    · rw [if_neg (by omega), if_pos (Or.inr q)]
      by_cases y : gd_hd (gs_rho kd (fun j => (vl j).toNatClampNeg) nm cnt (gs_op (gs_en kd cnt) i k)).2 = 2
      · rw [if_pos y, gm_leaf_of tk.1 (by omega), y]
        exact ⟨g4, gd_cb_any _⟩
      · rw [if_neg y]; exact ⟨tk, gd_cb_refl _⟩
    · rw [if_neg (by omega), if_neg (by omega), if_neg (by omega), if_neg (by omega), if_pos q]
      rw [q] at c0 hk
      have z1 : k = 0 := by omega
      subst z1
      refine ⟨tyi, ?_⟩
      rw [e', q]
      exact gs_if2 c0
  · intro (q : kd i = 4)
    have h0 : 0 < gs_ar (kd i) := gs_ar_k (by omega) (Or.inl rfl)
    obtain ⟨l0, t0, et0⟩ := opt 0 h0
    rw [et0] at e
    show ∃ a b, gs_tg (kd i) 0 _ _ _ = .branch 3 a b ∧ gs_tg (kd i) 1 _ _ _ = a ∧ (gs_rho kd (fun j => (vl j).toNatClampNeg) nm cnt i).2 = b ∧ ((gs_rho kd (fun j => (vl j).toNatClampNeg) nm cnt (gs_op (gs_en kd cnt) i 0)).2 = .branch 3 a b ∨ (gs_rho kd (fun j => (vl j).toNatClampNeg) nm cnt (gs_op (gs_en kd cnt) i 0)).2 = .leaf 2 ∧ a = .leaf 2 ∧ b = .leaf 2)
    rw [e] at c0
    rw [e, q] 
    rw [q] at c0
    rw [gs_typ4] at c0 ⊢
    rw [gs_tg40, gs_tg41]
    by_cases y : gd_hd (gs_rho kd (fun j => (vl j).toNatClampNeg) nm cnt (gs_op (gs_en kd cnt) i 0)).2 = 2
    · rw [if_pos y, if_pos y, if_pos y]
      exact ⟨_, _, rfl, rfl, rfl, Or.inr ⟨by rw [gm_leaf_of t0.1 (by omega), y], rfl, rfl⟩⟩
    · rw [if_neg y] at c0
      rw [if_neg y, if_neg y, if_neg y]
      by_cases y3 : gd_hd (gs_rho kd (fun j => (vl j).toNatClampNeg) nm cnt (gs_op (gs_en kd cnt) i 0)).2 = 3
      · rw [if_pos y3]
        exact ⟨_, _, gs_hd3 t0.1 y3, rfl, rfl, Or.inl (gs_hd3 t0.1 y3)⟩
      · rw [if_neg y3] at c0
        exact absurd c0 (by decide)
  · intro (q : kd i = 5)
    obtain ⟨l1, t1, et1⟩ := opt 1 (by rw [q]; decide)
    show gs_tg (kd i) 0 _ _ _ = _ ∧ gs_tg (kd i) 1 (gs_rho kd (fun j => (vl j).toNatClampNeg) nm cnt i).2 _ _ = (gs_rho kd (fun j => (vl j).toNatClampNeg) nm cnt i).2 ∧ gs_tg (kd i) 2 (gs_rho kd (fun j => (vl j).toNatClampNeg) nm cnt i).2 _ _ = (gs_rho kd (fun j => (vl j).toNatClampNeg) nm cnt i).2
    rw [q]
    exact ⟨rfl, rfl, rfl⟩
  · intro (q : kd i = 6)
    show gs_tg (kd i) 0 _ _ _ = _ ∧ gs_tg (kd i) 1 _ _ _ = _ ∧ (gs_rho kd (fun j => (vl j).toNatClampNeg) nm cnt i).2 = _
    rw [e, q]
    exact ⟨rfl, rfl, rfl⟩
  · intro (q : kd i = 7)
    show gs_tg (kd i) 0 _ _ _ = _ ∧ gs_tg (kd i) 1 _ _ _ = _ ∧ (gs_rho kd (fun j => (vl j).toNatClampNeg) nm cnt i).2 = _
    rw [e, q]
    exact ⟨rfl, rfl, rfl⟩
  · intro (q : kd i = 8)
    obtain ⟨l0, t0, et0⟩ := opt 0 (by rw [q]; decide)
    obtain ⟨l1, t1, et1⟩ := opt 1 (by rw [q]; decide)
    rw [et0, et1] at e
    show gs_tg (kd i) 0 _ _ (gs_rho kd (fun j => (vl j).toNatClampNeg) nm cnt (gs_op (gs_en kd cnt) i 0)).2 = (gs_rho kd (fun j => (vl j).toNatClampNeg) nm cnt (gs_op (gs_en kd cnt) i 0)).2 ∧ gs_tg (kd i) 1 _ _ (gs_rho kd (fun j => (vl j).toNatClampNeg) nm cnt (gs_op (gs_en kd cnt) i 1)).2 = (gs_rho kd (fun j => (vl j).toNatClampNeg) nm cnt (gs_op (gs_en kd cnt) i 1)).2 ∧ (gs_rho kd (fun j => (vl j).toNatClampNeg) nm cnt i).2 = .branch 4 (gs_rho kd (fun j => (vl j).toNatClampNeg) nm cnt (gs_op (gs_en kd cnt) i 0)).2 (gs_rho kd (fun j => (vl j).toNatClampNeg) nm cnt (gs_op (gs_en kd cnt) i 1)).2
    rw [e] at c0
    rw [e, q]
    rw [q] at c0
    refine ⟨rfl, rfl, ?_⟩
    change (gs_cmp 4 (gs_rho kd (fun j => (vl j).toNatClampNeg) nm cnt (gs_op (gs_en kd cnt) i 0)).2 (gs_rho kd (fun j => (vl j).toNatClampNeg) nm cnt (gs_op (gs_en kd cnt) i 1)).2).1 = 0 at c0
    show (gs_cmp 4 (gs_rho kd (fun j => (vl j).toNatClampNeg) nm cnt (gs_op (gs_en kd cnt) i 0)).2 (gs_rho kd (fun j => (vl j).toNatClampNeg) nm cnt (gs_op (gs_en kd cnt) i 1)).2).2 = _
    unfold gs_cmp at c0 ⊢
    split at c0
    · rename_i z; rw [if_pos z]
    · exact absurd c0 (by decide)
  · intro (q : kd i = 9 ∨ kd i = 10)
    have h0 : 0 < gs_ar (kd i) := gs_ar_k (by omega) (Or.inl rfl)
    obtain ⟨l0, t0, et0⟩ := opt 0 h0
    rw [et0] at e
    show ∃ a b, gs_tg (kd i) 0 _ _ _ = .branch 4 a b ∧ (gs_rho kd (fun j => (vl j).toNatClampNeg) nm cnt i).2 = (if kd i = 9 then a else b) ∧ ((gs_rho kd (fun j => (vl j).toNatClampNeg) nm cnt (gs_op (gs_en kd cnt) i 0)).2 = .branch 4 a b ∨ (gs_rho kd (fun j => (vl j).toNatClampNeg) nm cnt (gs_op (gs_en kd cnt) i 0)).2 = .leaf 2 ∧ a = .leaf 2 ∧ b = .leaf 2)
    rw [e] at c0
    rw [e]
    rw [gs_typ9 q] at c0 ⊢
    rw [gs_tg9 q]
    by_cases y : gd_hd (gs_rho kd (fun j => (vl j).toNatClampNeg) nm cnt (gs_op (gs_en kd cnt) i 0)).2 = 2
    · rw [if_pos y, if_pos y]
      refine ⟨_, _, rfl, ?_, Or.inr ⟨by rw [gm_leaf_of t0.1 (by omega), y], rfl, rfl⟩⟩
      split <;> rfl
    · rw [if_neg y] at c0
      rw [if_neg y, if_neg y]
      by_cases y3 : gd_hd (gs_rho kd (fun j => (vl j).toNatClampNeg) nm cnt (gs_op (gs_en kd cnt) i 0)).2 = 4
      · rw [if_pos y3]
        exact ⟨_, _, gs_hd4 t0.1 y3, rfl, Or.inl (gs_hd4 t0.1 y3)⟩
      · rw [if_neg y3] at c0
        exact absurd c0 (by decide)
  · intro (q : kd i = 11)
    show gs_tg (kd i) 0 (gs_rho kd (fun j => (vl j).toNatClampNeg) nm cnt i).2 _ _ = (gs_rho kd (fun j => (vl j).toNatClampNeg) nm cnt i).2
    rw [q]
    rfl
