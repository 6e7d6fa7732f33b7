/-! ===== 01: types as trees (leaf 0 INT, 1 BOOL, 2 ANY; branch 3 FUN, 4 PAIR) ===== -/
def gd_vt : Lean.RArray Nat → Prop
  | .leaf n => n < 3
  | .branch h l r => (h = 3 ∨ h = 4) ∧ gd_vt l ∧ gd_vt r
def gd_sz : Lean.RArray Nat → Nat
  | .leaf _ => 1
  | .branch _ l r => 1 + gd_sz l + gd_sz r
def gd_mx (a b : Nat) : Nat := if a ≤ b then b else a
def gd_dp : Lean.RArray Nat → Nat
  | .leaf _ => 0
  | .branch _ l r => 1 + gd_mx (gd_dp l) (gd_dp r)
def gd_hd : Lean.RArray Nat → Nat
  | .leaf n => n
  | .branch h _ _ => h
def gd_lf : Lean.RArray Nat → Lean.RArray Nat
  | .leaf n => .leaf n
  | .branch _ l _ => l
def gd_rt : Lean.RArray Nat → Lean.RArray Nat
  | .leaf n => .leaf n
  | .branch _ _ r => r
def gd_en : Lean.RArray Nat → Nat
  | .leaf n => n
  | .branch h l r => h + 8 * (gd_en l + 8 ^ gd_sz l * gd_en r)
/-- the reader r spells the type at i -/
def gd_Sp (r : Nat → Int32) : Lean.RArray Nat → Nat → Prop
  | .leaf n, i => r i = nI n
  | .branch h a b, i => r i = nI h ∧ gd_Sp r a (i + 1) ∧ gd_Sp r b (i + 1 + gd_sz a)
/-- consistent -/
def gd_cb : Lean.RArray Nat → Lean.RArray Nat → Bool
  | .leaf n, .leaf m => n == 2 || m == 2 || n == m
  | .leaf n, .branch _ _ _ => n == 2
  | .branch _ _ _, .leaf m => m == 2
  | .branch h l r, .branch h' l' r' => h == h' && gd_cb l l' && gd_cb r r'
def gd_TY (t : Lean.RArray Nat) : Prop := gd_vt t ∧ gd_sz t ≤ 7
theorem gd_mx_l (a b : Nat) : a ≤ gd_mx a b := by unfold gd_mx; split <;> omega
theorem gd_mx_r (a b : Nat) : b ≤ gd_mx a b := by unfold gd_mx; split <;> omega
theorem gd_mx_le {a b c : Nat} (h : a ≤ c) (h' : b ≤ c) : gd_mx a b ≤ c := by unfold gd_mx; split <;> omega
theorem gd_sz_pos (t : Lean.RArray Nat) : 1 ≤ gd_sz t := by
  cases t with
  | leaf n => exact Nat.le_refl 1
  | branch h l r => simp only [gd_sz]; omega
theorem gd_dp_sz : ∀ t : Lean.RArray Nat, 2 * gd_dp t + 1 ≤ gd_sz t := by
  intro t
  induction t with
  | leaf n => simp only [gd_dp, gd_sz]; omega
  | branch h l r ihl ihr =>
    have hl := gd_sz_pos l
    have hr := gd_sz_pos r
    simp only [gd_dp, gd_sz]
    unfold gd_mx
    split <;> omega
theorem gd_dp3 {t : Lean.RArray Nat} (h : gd_TY t) : gd_dp t ≤ 3 := by
  have a := gd_dp_sz t
  have b := h.2
  omega
theorem gd_ab {A B a b : Nat} (ha : a < A) (hb : b < B) : a + A * b < A * B := by
  have h := Nat.mul_le_mul_left A (show b + 1 ≤ B from hb)
  rw [Nat.mul_add, Nat.mul_one] at h
  omega
theorem gd_pw (a b : Nat) : 8 ^ (1 + a + b) = 8 * (8 ^ a * 8 ^ b) := by
  rw [Nat.pow_add, Nat.pow_add, Nat.pow_one, Nat.mul_assoc]
theorem gd_h8 {h : Nat} (hh : h = 3 ∨ h = 4) : 3 ≤ h ∧ h < 5 := by omega
theorem gd_en_lt : ∀ t : Lean.RArray Nat, gd_vt t → gd_en t < 8 ^ gd_sz t := by
  intro t
  induction t with
  | leaf n => intro h; simp only [gd_vt] at h; simp only [gd_en, gd_sz]; omega
  | branch h l r ihl ihr =>
    intro hv
    simp only [gd_vt] at hv
    have hh := gd_h8 hv.1
    have h1 := gd_ab (ihl hv.2.1) (ihr hv.2.2)
    simp only [gd_en, gd_sz]
    rw [gd_pw]
    omega
theorem gd_en_big {t : Lean.RArray Nat} (h : gd_TY t) : gd_en t < 2097152 := by
  have a := gd_en_lt t h.1
  have b : 8 ^ gd_sz t ≤ 8 ^ 7 := Nat.pow_le_pow_right (by decide) h.2
  have c : (8 : Nat) ^ 7 = 2097152 := by decide
  omega
theorem gd_TY_l {h : Nat} {l r : Lean.RArray Nat} (H : gd_TY (.branch h l r)) : gd_TY l := by
  obtain ⟨a, b⟩ := H
  simp only [gd_vt] at a
  simp only [gd_sz] at b
  exact ⟨a.2.1, by omega⟩
theorem gd_TY_r {h : Nat} {l r : Lean.RArray Nat} (H : gd_TY (.branch h l r)) : gd_TY r := by
  obtain ⟨a, b⟩ := H
  simp only [gd_vt] at a
  simp only [gd_sz] at b
  exact ⟨a.2.2, by omega⟩
/-- numbers that begin alike are alike -/
theorem gd_inj : ∀ f : Lean.RArray Nat, gd_vt f → ∀ t : Lean.RArray Nat, gd_vt t → ∀ x y : Nat, gd_en f + 8 ^ gd_sz f * x = gd_en t + 8 ^ gd_sz t * y → f = t ∧ x = y := by
  intro f
  induction f with
  | leaf n =>
    intro hn t
    cases t with
    | leaf m =>
      intro hm x y e
      simp only [gd_vt] at hn hm
      simp only [gd_en, gd_sz] at e
      have h1 : n = m := by omega
      subst h1
      exact ⟨rfl, by omega⟩
    | branch h l r =>
      intro hv x y e
      simp only [gd_vt] at hn hv
      have hh := gd_h8 hv.1
      simp only [gd_en, gd_sz] at e
      rw [gd_pw, Nat.mul_assoc] at e
      exfalso
      omega
  | branch h l r ihl ihr =>
    intro hv t
    simp only [gd_vt] at hv
    have hh := gd_h8 hv.1
    cases t with
    | leaf m =>
      intro hm x y e
      simp only [gd_vt] at hm
      simp only [gd_en, gd_sz] at e
      rw [gd_pw, Nat.mul_assoc] at e
      exfalso
      omega
    | branch h' l' r' =>
      intro hv' x y e
      simp only [gd_vt] at hv'
      have hh' := gd_h8 hv'.1
      simp only [gd_en, gd_sz] at e
      rw [gd_pw, gd_pw, Nat.mul_assoc 8, Nat.mul_assoc 8] at e
      have e1 : h = h' := by omega
      have e2 : (gd_en l + 8 ^ gd_sz l * gd_en r) + 8 ^ gd_sz l * 8 ^ gd_sz r * x = (gd_en l' + 8 ^ gd_sz l' * gd_en r') + 8 ^ gd_sz l' * 8 ^ gd_sz r' * y := by omega
      have e3 : gd_en l + 8 ^ gd_sz l * (gd_en r + 8 ^ gd_sz r * x) = gd_en l' + 8 ^ gd_sz l' * (gd_en r' + 8 ^ gd_sz r' * y) := by
        rw [Nat.mul_add, Nat.mul_add, ← Nat.mul_assoc, ← Nat.mul_assoc, ← Nat.add_assoc, ← Nat.add_assoc]
        exact e2
      obtain ⟨a, b⟩ := ihl hv.2.1 l' hv'.2.1 _ _ e3
      obtain ⟨c, d⟩ := ihr hv.2.2 r' hv'.2.2 _ _ b
      subst e1 a c
      exact ⟨rfl, d⟩
theorem gd_en_inj {f t : Lean.RArray Nat} (hf : gd_vt f) (ht : gd_vt t) (e : gd_en f = gd_en t) : f = t := by
  refine (gd_inj f hf t ht 0 0 ?_).1
  rw [Nat.mul_zero, Nat.mul_zero, e]
/-- X's reader of a packed type -/
def gd_xr (s : Nat) : Nat → Int32 := fun k => nI (s / 8 ^ k % 8)
theorem gd_sp_x : ∀ t : Lean.RArray Nat, gd_vt t → ∀ s i x : Nat, s / 8 ^ i = gd_en t + 8 ^ gd_sz t * x → gd_Sp (gd_xr s) t i := by
  intro t
  induction t with
  | leaf n =>
    intro hn s i x e
    simp only [gd_vt] at hn
    simp only [gd_en, gd_sz] at e
    have h1 : s / 8 ^ i % 8 = n := by omega
    simp only [gd_Sp, gd_xr]
    rw [h1]
  | branch h l r ihl ihr =>
    intro hv s i x e
    simp only [gd_vt] at hv
    have hh := gd_h8 hv.1
    simp only [gd_en, gd_sz] at e
    rw [gd_pw, Nat.mul_assoc] at e
    have h1 : s / 8 ^ i % 8 = h := by omega
    have h2 : s / 8 ^ (i + 1) = gd_en l + 8 ^ gd_sz l * (gd_en r + 8 ^ gd_sz r * x) := by
      rw [Nat.pow_succ, ← Nat.div_div_eq_div_mul, Nat.mul_add, ← Nat.mul_assoc]
      omega
    have h3 : s / 8 ^ (i + 1 + gd_sz l) = gd_en r + 8 ^ gd_sz r * x := by
      rw [Nat.pow_add, ← Nat.div_div_eq_div_mul, h2, Nat.add_mul_div_left _ _ (Nat.pow_pos (by decide)), Nat.div_eq_of_lt (gd_en_lt l hv.2.1), Nat.zero_add]
    exact ⟨by simp only [gd_xr]; rw [h1], ihl hv.2.1 s (i + 1) _ h2, ihr hv.2.2 s (i + 1 + gd_sz l) x h3⟩
theorem gd_sp_en {t : Lean.RArray Nat} (h : gd_vt t) : gd_Sp (gd_xr (gd_en t)) t 0 := by
  refine gd_sp_x t h _ 0 0 ?_
  rw [Nat.pow_zero, Nat.div_one, Nat.mul_zero, Nat.add_zero]
/-- a reader that reads alike spells alike -/
theorem gd_sp_cp {r r' : Nat → Int32} : ∀ (t : Lean.RArray Nat) (i j : Nat), gd_Sp r t i → (∀ k, k < gd_sz t → r' (j + k) = r (i + k)) → gd_Sp r' t j := by
  intro t
  induction t with
  | leaf n =>
    intro i j h e
    have := e 0 (by simp only [gd_sz]; omega)
    simp only [gd_Sp] at h ⊢
    rw [Nat.add_zero, Nat.add_zero] at this
    rw [this, h]
  | branch h l x ihl ihr =>
    intro i j hs e
    simp only [gd_Sp] at hs ⊢
    simp only [gd_sz] at e
    refine ⟨?_, ihl (i + 1) (j + 1) hs.2.1 ?_, ihr (i + 1 + gd_sz l) (j + 1 + gd_sz l) hs.2.2 ?_⟩
    · have := e 0 (by omega)
      rw [Nat.add_zero, Nat.add_zero] at this
      rw [this, hs.1]
    · intro k hk
      have := e (1 + k) (by omega)
      rw [Nat.add_assoc, Nat.add_assoc]
      exact this
    · intro k hk
      have := e (1 + gd_sz l + k) (by omega)
      rw [show j + 1 + gd_sz l + k = j + (1 + gd_sz l + k) by omega, show i + 1 + gd_sz l + k = i + (1 + gd_sz l + k) by omega]
      exact this
theorem gd_sp_hd {r : Nat → Int32} {t : Lean.RArray Nat} {i : Nat} (h : gd_Sp r t i) : r i = nI (gd_hd t) := by
  cases t with
  | leaf n => exact h
  | branch k l x => exact h.1
theorem gd_hd_lt {t : Lean.RArray Nat} (h : gd_vt t) : gd_hd t < 5 := by
  cases t with
  | leaf n => simp only [gd_vt] at h; simp only [gd_hd]; omega
  | branch k l x => simp only [gd_vt] at h; simp only [gd_hd]; omega
theorem gd_cb_sym : ∀ f t : Lean.RArray Nat, gd_cb f t = gd_cb t f := by
  intro f
  induction f with
  | leaf n =>
    intro t
    cases t with
    | leaf m =>
      simp only [gd_cb]
      rw [Bool.eq_iff_iff]
      simp only [Bool.or_eq_true, beq_iff_eq]
      omega
    | branch h l r => rfl
  | branch h l r ihl ihr =>
    intro t
    cases t with
    | leaf m => rfl
    | branch h' l' r' =>
      show (h == h' && gd_cb l l' && gd_cb r r') = (h' == h && gd_cb l' l && gd_cb r' r)
      rw [ihl l', ihr r']
      by_cases c : h = h'
      · subst c; rfl
      · have c' : ¬ h' = h := fun z => c z.symm
        have c1 : (h == h') = false := by simp [c]
        have c2 : (h' == h) = false := by simp [c']
        rw [c1, c2]
theorem gd_cb_br {h h' : Nat} {l r l' r' : Lean.RArray Nat} (H : gd_cb (.branch h l r) (.branch h' l' r') = true) : h = h' ∧ gd_cb l l' = true ∧ gd_cb r r' = true := by
  simp only [gd_cb, Bool.and_eq_true, beq_iff_eq] at H
  exact ⟨H.1.1, H.1.2, H.2⟩
theorem gd_cb_any (t : Lean.RArray Nat) : gd_cb (.leaf 2) t = true := by
  cases t with
  | leaf m => simp [gd_cb]
  | branch h l r => rfl
theorem gd_cb_any' (t : Lean.RArray Nat) : gd_cb t (.leaf 2) = true := by rw [gd_cb_sym]; exact gd_cb_any t
theorem gd_cb_refl : ∀ t : Lean.RArray Nat, gd_cb t t = true := by
  intro t
  induction t with
  | leaf n => simp [gd_cb]
  | branch h l r ihl ihr => simp [gd_cb, ihl, ihr]
theorem gd_sp_tok {r : Nat → Int32} : ∀ (t : Lean.RArray Nat) (i j : Nat), gd_Sp r t i → gd_Sp r t j → ∀ k, k < gd_sz t → r (i + k) = r (j + k) := by
  intro t
  induction t with
  | leaf n =>
    intro i j a b k hk
    simp only [gd_sz] at hk
    have e : k = 0 := by omega
    subst e
    exact a.trans b.symm
  | branch h l x ihl ihr =>
    intro i j a b k hk
    simp only [gd_sz] at hk
    by_cases h0 : k = 0
    · subst h0
      exact a.1.trans b.1.symm
    · by_cases h1 : k ≤ gd_sz l
      · have := ihl (i + 1) (j + 1) a.2.1 b.2.1 (k - 1) (by omega)
        rw [show i + 1 + (k - 1) = i + k by omega, show j + 1 + (k - 1) = j + k by omega] at this
        exact this
      · have := ihr (i + 1 + gd_sz l) (j + 1 + gd_sz l) a.2.2 b.2.2 (k - 1 - gd_sz l) (by omega)
        rw [show i + 1 + gd_sz l + (k - 1 - gd_sz l) = i + k by omega, show j + 1 + gd_sz l + (k - 1 - gd_sz l) = j + k by omega] at this
        exact this
theorem gd_sp_eq {r : Nat → Int32} : ∀ f : Lean.RArray Nat, gd_vt f → ∀ g : Lean.RArray Nat, gd_vt g → ∀ i j : Nat, gd_Sp r f i → gd_Sp r g j → (∀ q, q < gd_sz f → r (i + q) = r (j + q)) → f = g := by
  intro f
  induction f with
  | leaf n =>
    intro hn g hg i j a b e
    have e0 := e 0 (by simp only [gd_sz]; omega)
    rw [Nat.add_zero, Nat.add_zero, gd_sp_hd b] at e0
    have e1 : nI n = nI (gd_hd g) := (show r i = nI n from a).symm.trans e0
    have lt := gd_hd_lt hg
    simp only [gd_vt] at hn
    have e2 := (nI_eq (by omega) (by omega)).mp e1
    cases g with
    | leaf m => simp only [gd_hd] at e2; rw [e2]
    | branch h l x => simp only [gd_vt] at hg; simp only [gd_hd] at e2; omega
  | branch h l x ihl ihr =>
    intro hv g hg i j a b e
    simp only [gd_vt] at hv
    simp only [gd_sz] at e
    have e0 := e 0 (by omega)
    rw [Nat.add_zero, Nat.add_zero, gd_sp_hd b] at e0
    have e1 : nI h = nI (gd_hd g) := a.1.symm.trans e0
    have lt := gd_hd_lt hg
    have e2 := (nI_eq (by omega) (by omega)).mp e1
    cases g with
    | leaf m => simp only [gd_vt] at hg; simp only [gd_hd] at e2; omega
    | branch h' l' x' =>
      simp only [gd_vt] at hg
      simp only [gd_hd] at e2
      have el := ihl hv.2.1 l' hg.2.1 (i + 1) (j + 1) a.2.1 b.2.1 (fun q hq => by
        have := e (1 + q) (by omega)
        rw [Nat.add_assoc, Nat.add_assoc]
        exact this)
      subst el
      have er := ihr hv.2.2 x' hg.2.2 (i + 1 + gd_sz l) (j + 1 + gd_sz l) a.2.2 b.2.2 (fun q hq => by
        have := e (1 + gd_sz l + q) (by omega)
        rw [show i + 1 + gd_sz l + q = i + (1 + gd_sz l + q) by omega, show j + 1 + gd_sz l + q = j + (1 + gd_sz l + q) by omega]
        exact this)
      subst er e2
      rfl
def gd_G (t : Lean.RArray Nat) : Lean.RArray Nat := if gd_hd t = 3 then .branch 3 (.leaf 2) (.leaf 2) else if gd_hd t = 4 then .branch 4 (.leaf 2) (.leaf 2) else .leaf (gd_hd t)
