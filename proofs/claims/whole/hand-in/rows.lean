section
/-! ===== 00: rows pasted from the task's kit/rows (PURE-ROWS, BITS) ===== -/
theorem pk_us {f : Nat → Int32} {k : Nat} {x : Int32} : upd f k x k = x := if_pos rfl
theorem pk_un {f : Nat → Int32} {k j : Nat} {x : Int32} (h : j ≠ k) : upd f k x j = f j := if_neg h
theorem pk_sub {a b : Nat} (h : b ≤ a) : nI a - nI b = nI (a - b) := by
  obtain ⟨c, rfl⟩ : ∃ c, a = c + b := ⟨a - b, by omega⟩
  rw [← nI_add, Int32.add_sub_cancel, Nat.add_sub_cancel]
theorem pk_m1 (n : Nat) : nI (n + 1) + (-1) = nI n := by
  rw [← nI_1, Int32.add_assoc, show (1 : Int32) + (-1) = 0 from rfl, Int32.add_zero]
theorem pk_mul (a b : Nat) : nI a * nI b = nI (a * b) := (Int32.ofNat_mul a b).symm
theorem pk_div {a d : Nat} (ha : a < 2 ^ 31) (h0 : 0 < d) (hd : d < 2 ^ 31) : nI a / nI d = nI (a / d) := by
  apply Int32.toInt_inj.mp
  rw [lg_idiv_nonneg (by rw [nI_toInt ha]; omega) (by rw [nI_toInt hd]; omega), nI_toInt ha, nI_toInt hd, nI_toInt (Nat.lt_of_le_of_lt (Nat.div_le_self a d) ha)]
  first | rfl | exact (Int.natCast_ediv _ _).symm
theorem pk_rem {a d : Nat} (ha : a < 2 ^ 31) (h0 : 0 < d) (hd : d < 2 ^ 31) : nI a - nI a / nI d * nI d = nI (a % d) := by
  rw [pk_div ha h0 hd, pk_mul, pk_sub (Nat.div_mul_le_self a d)]
  exact congrArg nI (by have := Nat.div_add_mod' a d; omega)
theorem pk_le {x y : Int32} {A B : Prop} (a b : Nat) (f : a ≤ b → A) (g : b < a → B) (hx : x = nI a := by rfl) (hy : y = nI b := by rfl) (ha : a < 2 ^ 31 := by omega) (hb : b < 2 ^ 31 := by omega) : (x ≤ y → A) ∧ (¬ x ≤ y → B) := by
  subst hx hy
  rw [nI_leI ha hb]
  exact ⟨f, fun z => g (by omega)⟩
theorem pk_lt {x y : Int32} {A B : Prop} (a b : Nat) (f : a < b → A) (g : b ≤ a → B) (hx : x = nI a := by rfl) (hy : y = nI b := by rfl) (ha : a < 2 ^ 31 := by omega) (hb : b < 2 ^ 31 := by omega) : (x < y → A) ∧ (¬ x < y → B) := by
  subst hx hy
  rw [nI_ltI ha hb]
  exact ⟨f, fun z => g (by omega)⟩
theorem pk_eq {x y : Int32} {A B : Prop} (a b : Nat) (f : a = b → A) (g : a ≠ b → B) (hx : x = nI a := by rfl) (hy : y = nI b := by rfl) (ha : a < 2 ^ 31 := by omega) (hb : b < 2 ^ 31 := by omega) : (x = y → A) ∧ (¬ x = y → B) := by
  subst hx hy
  rw [nI_eq ha hb]
  exact ⟨f, g⟩
theorem pk_in {x : Int32} (n N : Nat) (h : n < N) (hx : x = nI n := by rfl) (hN : N < 2 ^ 31 := by omega) : vp_in x N := by
  subst hx
  exact vp_in_nI h hN
theorem pk_cl {x : Int32} (n : Nat) (hx : x = nI n := by rfl) (h : n < 2 ^ 31 := by omega) : x.toNatClampNeg = n := by
  subst hx
  exact nI_clamp h
theorem pk_tn {n : Nat} (h : n < 2 ^ 32) : (nI n).toBitVec.toNat = n := Nat.mod_eq_of_lt h
theorem pk_and (x : Int32) {m : Int32} (k : Nat) (hm : m.toBitVec.toNat = 2 ^ k - 1) : x &&& m = nI (x.toBitVec.toNat % 2 ^ k) := by
  apply Int32.toBitVec_inj.mp
  apply BitVec.eq_of_toNat_eq
  rw [Int32.toBitVec_and, BitVec.toNat_and, hm, Nat.and_two_pow_sub_one_eq_mod]
  show _ = (BitVec.ofNat 32 _).toNat
  rw [BitVec.toNat_ofNat]
  exact (Nat.mod_eq_of_lt (Nat.lt_of_le_of_lt (Nat.mod_le _ _) x.toBitVec.isLt)).symm
theorem pk_andN {n : Nat} (h : n < 2 ^ 32) {m : Int32} (k : Nat) (hm : m.toBitVec.toNat = 2 ^ k - 1) : nI n &&& m = nI (n % 2 ^ k) := by
  rw [pk_and _ k hm, pk_tn h]
theorem pk_shl (a s : Int32) (k : Nat) (hs : (s.toBitVec.smod 32).toNat = k) : (a <<< s).toBitVec.toNat = a.toBitVec.toNat * 2 ^ k % 2 ^ 32 := by
  show (a.toBitVec <<< (s.toBitVec.smod 32).toNat).toNat = _
  rw [hs, BitVec.toNat_shiftLeft, Nat.shiftLeft_eq]
theorem pk_shlN {n : Nat} (s : Int32) (k : Nat) (hs : (s.toBitVec.smod 32).toNat = k) (h : n * 2 ^ k < 2 ^ 32) : nI n <<< s = nI (n * 2 ^ k) := by
  apply Int32.toBitVec_inj.mp
  apply BitVec.eq_of_toNat_eq
  have hn : n < 2 ^ 32 := Nat.lt_of_le_of_lt (Nat.le_mul_of_pos_right n (Nat.two_pow_pos k)) h
  rw [pk_shl _ _ k hs, pk_tn hn, pk_tn h, Nat.mod_eq_of_lt h]
theorem pk_shr (a s : Int32) (k : Nat) (hs : (s.toBitVec.smod 32).toNat = k) : (a >>> s).toInt = a.toInt >>> k := by
  show (a.toBitVec.sshiftRight (s.toBitVec.smod 32).toNat).toInt = _
  rw [hs, BitVec.toInt_sshiftRight]
  rfl
theorem pk_shrN {n : Nat} (h : n < 2 ^ 31) (s : Int32) (k : Nat) (hs : (s.toBitVec.smod 32).toNat = k) : nI n >>> s = nI (n / 2 ^ k) := by
  apply Int32.toInt_inj.mp
  have h2 : n / 2 ^ k ≤ n := Nat.div_le_self _ _
  rw [pk_shr _ _ k hs, nI_toInt h, nI_toInt (by omega), Int.shiftRight_eq_div_pow]
  rfl
theorem pk_vb (z : Int32) : vp_nar .byte z.toInt8.toInt32 = z.toInt8.toInt32 := by rw [vp_nar_byte]; simp
theorem pk_vs (z : Int32) : vp_nar .short z.toInt16.toInt32 = z.toInt16.toInt32 := by rw [vp_nar_short]; simp
theorem s_l : ∀ n, n < 32 → ((nI n &&& 31).toBitVec.smod 32).toNat = n := by decide +kernel
end
section
/-! ===== 01: types as trees (leaf 0 INT, 1 BOOL, 2 ANY; branch 3 FUN, 4 PAIR) ===== -/
def gd_vt : Lean.RArray Nat → Prop
  | .leaf n => n < 3
  | .branch h l r => (h = 3 ∨ h = 4) ∧ gd_vt l ∧ gd_vt r
def gd_sz : Lean.RArray Nat → Nat
  | .leaf _ => 1
  | .branch _ l r => 1 + gd_sz l + gd_sz r
def gd_mx (a b : Nat) : Nat := if a ≤ b then b else a
def gd_dp : Lean.RArray Nat → Nat
  | .leaf _ => 0
  | .branch _ l r => 1 + gd_mx (gd_dp l) (gd_dp r)
def gd_hd : Lean.RArray Nat → Nat
  | .leaf n => n
  | .branch h _ _ => h
def gd_lf : Lean.RArray Nat → Lean.RArray Nat
  | .leaf n => .leaf n
  | .branch _ l _ => l
def gd_rt : Lean.RArray Nat → Lean.RArray Nat
  | .leaf n => .leaf n
  | .branch _ _ r => r
def gd_en : Lean.RArray Nat → Nat
  | .leaf n => n
  | .branch h l r => h + 8 * (gd_en l + 8 ^ gd_sz l * gd_en r)
/-- the reader r spells the type at i -/
def gd_Sp (r : Nat → Int32) : Lean.RArray Nat → Nat → Prop
  | .leaf n, i => r i = nI n
  | .branch h a b, i => r i = nI h ∧ gd_Sp r a (i + 1) ∧ gd_Sp r b (i + 1 + gd_sz a)
/-- consistent -/
def gd_cb : Lean.RArray Nat → Lean.RArray Nat → Bool
  | .leaf n, .leaf m => n == 2 || m == 2 || n == m
  | .leaf n, .branch _ _ _ => n == 2
  | .branch _ _ _, .leaf m => m == 2
  | .branch h l r, .branch h' l' r' => h == h' && gd_cb l l' && gd_cb r r'
def gd_TY (t : Lean.RArray Nat) : Prop := gd_vt t ∧ gd_sz t ≤ 7
theorem gd_mx_l (a b : Nat) : a ≤ gd_mx a b := by unfold gd_mx; split <;> omega
theorem gd_mx_r (a b : Nat) : b ≤ gd_mx a b := by unfold gd_mx; split <;> omega
theorem gd_mx_le {a b c : Nat} (h : a ≤ c) (h' : b ≤ c) : gd_mx a b ≤ c := by unfold gd_mx; split <;> omega
theorem gd_sz_pos (t : Lean.RArray Nat) : 1 ≤ gd_sz t := by
  cases t with
  | leaf n => exact Nat.le_refl 1
  | branch h l r => simp only [gd_sz]; omega
theorem gd_dp_sz : ∀ t : Lean.RArray Nat, 2 * gd_dp t + 1 ≤ gd_sz t := by
  intro t
  induction t with
  | leaf n => simp only [gd_dp, gd_sz]; omega
  | branch h l r ihl ihr =>
    have hl := gd_sz_pos l
    have hr := gd_sz_pos r
    simp only [gd_dp, gd_sz]
    unfold gd_mx
    split <;> omega
theorem gd_dp3 {t : Lean.RArray Nat} (h : gd_TY t) : gd_dp t ≤ 3 := by
  have a := gd_dp_sz t
  have b := h.2
  omega
theorem gd_ab {A B a b : Nat} (ha : a < A) (hb : b < B) : a + A * b < A * B := by
  have h := Nat.mul_le_mul_left A (show b + 1 ≤ B from hb)
  rw [Nat.mul_add, Nat.mul_one] at h
  omega
theorem gd_pw (a b : Nat) : 8 ^ (1 + a + b) = 8 * (8 ^ a * 8 ^ b) := by
  rw [Nat.pow_add, Nat.pow_add, Nat.pow_one, Nat.mul_assoc]
theorem gd_h8 {h : Nat} (hh : h = 3 ∨ h = 4) : 3 ≤ h ∧ h < 5 := by omega
theorem gd_en_lt : ∀ t : Lean.RArray Nat, gd_vt t → gd_en t < 8 ^ gd_sz t := by
  intro t
  induction t with
  | leaf n => intro h; simp only [gd_vt] at h; simp only [gd_en, gd_sz]; omega
  | branch h l r ihl ihr =>
    intro hv
    simp only [gd_vt] at hv
    have hh := gd_h8 hv.1
    have h1 := gd_ab (ihl hv.2.1) (ihr hv.2.2)
    simp only [gd_en, gd_sz]
    rw [gd_pw]
    omega
theorem gd_en_big {t : Lean.RArray Nat} (h : gd_TY t) : gd_en t < 2097152 := by
  have a := gd_en_lt t h.1
  have b : 8 ^ gd_sz t ≤ 8 ^ 7 := Nat.pow_le_pow_right (by decide) h.2
  have c : (8 : Nat) ^ 7 = 2097152 := by decide
  omega
theorem gd_TY_l {h : Nat} {l r : Lean.RArray Nat} (H : gd_TY (.branch h l r)) : gd_TY l := by
  obtain ⟨a, b⟩ := H
  simp only [gd_vt] at a
  simp only [gd_sz] at b
  exact ⟨a.2.1, by omega⟩
theorem gd_TY_r {h : Nat} {l r : Lean.RArray Nat} (H : gd_TY (.branch h l r)) : gd_TY r := by
  obtain ⟨a, b⟩ := H
  simp only [gd_vt] at a
  simp only [gd_sz] at b
  exact ⟨a.2.2, by omega⟩
/-- numbers that begin alike are alike -/
theorem gd_inj : ∀ f : Lean.RArray Nat, gd_vt f → ∀ t : Lean.RArray Nat, gd_vt t → ∀ x y : Nat, gd_en f + 8 ^ gd_sz f * x = gd_en t + 8 ^ gd_sz t * y → f = t ∧ x = y := by
  intro f
  induction f with
  | leaf n =>
    intro hn t
    cases t with
    | leaf m =>
      intro hm x y e
      simp only [gd_vt] at hn hm
      simp only [gd_en, gd_sz] at e
      have h1 : n = m := by omega
      subst h1
      exact ⟨rfl, by omega⟩
    | branch h l r =>
      intro hv x y e
      simp only [gd_vt] at hn hv
      have hh := gd_h8 hv.1
      simp only [gd_en, gd_sz] at e
      rw [gd_pw, Nat.mul_assoc] at e
      exfalso
      omega
  | branch h l r ihl ihr =>
    intro hv t
    simp only [gd_vt] at hv
    have hh := gd_h8 hv.1
    cases t with
    | leaf m =>
      intro hm x y e
      simp only [gd_vt] at hm
      simp only [gd_en, gd_sz] at e
      rw [gd_pw, Nat.mul_assoc] at e
      exfalso
      omega
    | branch h' l' r' =>
      intro hv' x y e
      simp only [gd_vt] at hv'
      have hh' := gd_h8 hv'.1
      simp only [gd_en, gd_sz] at e
      rw [gd_pw, gd_pw, Nat.mul_assoc 8, Nat.mul_assoc 8] at e
      have e1 : h = h' := by omega
      have e2 : (gd_en l + 8 ^ gd_sz l * gd_en r) + 8 ^ gd_sz l * 8 ^ gd_sz r * x = (gd_en l' + 8 ^ gd_sz l' * gd_en r') + 8 ^ gd_sz l' * 8 ^ gd_sz r' * y := by omega
      have e3 : gd_en l + 8 ^ gd_sz l * (gd_en r + 8 ^ gd_sz r * x) = gd_en l' + 8 ^ gd_sz l' * (gd_en r' + 8 ^ gd_sz r' * y) := by
        rw [Nat.mul_add, Nat.mul_add, ← Nat.mul_assoc, ← Nat.mul_assoc, ← Nat.add_assoc, ← Nat.add_assoc]
        exact e2
      obtain ⟨a, b⟩ := ihl hv.2.1 l' hv'.2.1 _ _ e3
      obtain ⟨c, d⟩ := ihr hv.2.2 r' hv'.2.2 _ _ b
      subst e1 a c
      exact ⟨rfl, d⟩
theorem gd_en_inj {f t : Lean.RArray Nat} (hf : gd_vt f) (ht : gd_vt t) (e : gd_en f = gd_en t) : f = t := by
  refine (gd_inj f hf t ht 0 0 ?_).1
  rw [Nat.mul_zero, Nat.mul_zero, e]
/-- X's reader of a packed type -/
def gd_xr (s : Nat) : Nat → Int32 := fun k => nI (s / 8 ^ k % 8)
theorem gd_sp_x : ∀ t : Lean.RArray Nat, gd_vt t → ∀ s i x : Nat, s / 8 ^ i = gd_en t + 8 ^ gd_sz t * x → gd_Sp (gd_xr s) t i := by
  intro t
  induction t with
  | leaf n =>
    intro hn s i x e
    simp only [gd_vt] at hn
    simp only [gd_en, gd_sz] at e
    have h1 : s / 8 ^ i % 8 = n := by omega
    simp only [gd_Sp, gd_xr]
    rw [h1]
  | branch h l r ihl ihr =>
    intro hv s i x e
    simp only [gd_vt] at hv
    have hh := gd_h8 hv.1
    simp only [gd_en, gd_sz] at e
    rw [gd_pw, Nat.mul_assoc] at e
    have h1 : s / 8 ^ i % 8 = h := by omega
    have h2 : s / 8 ^ (i + 1) = gd_en l + 8 ^ gd_sz l * (gd_en r + 8 ^ gd_sz r * x) := by
      rw [Nat.pow_succ, ← Nat.div_div_eq_div_mul, Nat.mul_add, ← Nat.mul_assoc]
      omega
    have h3 : s / 8 ^ (i + 1 + gd_sz l) = gd_en r + 8 ^ gd_sz r * x := by
      rw [Nat.pow_add, ← Nat.div_div_eq_div_mul, h2, Nat.add_mul_div_left _ _ (Nat.pow_pos (by decide)), Nat.div_eq_of_lt (gd_en_lt l hv.2.1), Nat.zero_add]
    exact ⟨by simp only [gd_xr]; rw [h1], ihl hv.2.1 s (i + 1) _ h2, ihr hv.2.2 s (i + 1 + gd_sz l) x h3⟩
theorem gd_sp_en {t : Lean.RArray Nat} (h : gd_vt t) : gd_Sp (gd_xr (gd_en t)) t 0 := by
  refine gd_sp_x t h _ 0 0 ?_
  rw [Nat.pow_zero, Nat.div_one, Nat.mul_zero, Nat.add_zero]
/-- a reader that reads alike spells alike -/
theorem gd_sp_cp {r r' : Nat → Int32} : ∀ (t : Lean.RArray Nat) (i j : Nat), gd_Sp r t i → (∀ k, k < gd_sz t → r' (j + k) = r (i + k)) → gd_Sp r' t j := by
  intro t
  induction t with
  | leaf n =>
    intro i j h e
    have := e 0 (by simp only [gd_sz]; omega)
    simp only [gd_Sp] at h ⊢
    rw [Nat.add_zero, Nat.add_zero] at this
    rw [this, h]
  | branch h l x ihl ihr =>
    intro i j hs e
    simp only [gd_Sp] at hs ⊢
    simp only [gd_sz] at e
    refine ⟨?_, ihl (i + 1) (j + 1) hs.2.1 ?_, ihr (i + 1 + gd_sz l) (j + 1 + gd_sz l) hs.2.2 ?_⟩
    · have := e 0 (by omega)
      rw [Nat.add_zero, Nat.add_zero] at this
      rw [this, hs.1]
    · intro k hk
      have := e (1 + k) (by omega)
      rw [Nat.add_assoc, Nat.add_assoc]
      exact this
    · intro k hk
      have := e (1 + gd_sz l + k) (by omega)
      rw [show j + 1 + gd_sz l + k = j + (1 + gd_sz l + k) by omega, show i + 1 + gd_sz l + k = i + (1 + gd_sz l + k) by omega]
      exact this
theorem gd_sp_hd {r : Nat → Int32} {t : Lean.RArray Nat} {i : Nat} (h : gd_Sp r t i) : r i = nI (gd_hd t) := by
  cases t with
  | leaf n => exact h
  | branch k l x => exact h.1
theorem gd_hd_lt {t : Lean.RArray Nat} (h : gd_vt t) : gd_hd t < 5 := by
  cases t with
  | leaf n => simp only [gd_vt] at h; simp only [gd_hd]; omega
  | branch k l x => simp only [gd_vt] at h; simp only [gd_hd]; omega
theorem gd_cb_sym : ∀ f t : Lean.RArray Nat, gd_cb f t = gd_cb t f := by
  intro f
  induction f with
  | leaf n =>
    intro t
    cases t with
    | leaf m =>
      simp only [gd_cb]
      rw [Bool.eq_iff_iff]
      simp only [Bool.or_eq_true, beq_iff_eq]
      omega
    | branch h l r => rfl
  | branch h l r ihl ihr =>
    intro t
    cases t with
    | leaf m => rfl
    | branch h' l' r' =>
      show (h == h' && gd_cb l l' && gd_cb r r') = (h' == h && gd_cb l' l && gd_cb r' r)
      rw [ihl l', ihr r']
      by_cases c : h = h'
      · subst c; rfl
      · have c' : ¬ h' = h := fun z => c z.symm
        have c1 : (h == h') = false := by simp [c]
        have c2 : (h' == h) = false := by simp [c']
        rw [c1, c2]
theorem gd_cb_br {h h' : Nat} {l r l' r' : Lean.RArray Nat} (H : gd_cb (.branch h l r) (.branch h' l' r') = true) : h = h' ∧ gd_cb l l' = true ∧ gd_cb r r' = true := by
  simp only [gd_cb, Bool.and_eq_true, beq_iff_eq] at H
  exact ⟨H.1.1, H.1.2, H.2⟩
theorem gd_cb_any (t : Lean.RArray Nat) : gd_cb (.leaf 2) t = true := by
  cases t with
  | leaf m => simp [gd_cb]
  | branch h l r => rfl
theorem gd_cb_any' (t : Lean.RArray Nat) : gd_cb t (.leaf 2) = true := by rw [gd_cb_sym]; exact gd_cb_any t
theorem gd_cb_refl : ∀ t : Lean.RArray Nat, gd_cb t t = true := by
  intro t
  induction t with
  | leaf n => simp [gd_cb]
  | branch h l r ihl ihr => simp [gd_cb, ihl, ihr]
theorem gd_sp_tok {r : Nat → Int32} : ∀ (t : Lean.RArray Nat) (i j : Nat), gd_Sp r t i → gd_Sp r t j → ∀ k, k < gd_sz t → r (i + k) = r (j + k) := by
  intro t
  induction t with
  | leaf n =>
    intro i j a b k hk
    simp only [gd_sz] at hk
    have e : k = 0 := by omega
    subst e
    exact a.trans b.symm
  | branch h l x ihl ihr =>
    intro i j a b k hk
    simp only [gd_sz] at hk
    by_cases h0 : k = 0
    · subst h0
      exact a.1.trans b.1.symm
    · by_cases h1 : k ≤ gd_sz l
      · have := ihl (i + 1) (j + 1) a.2.1 b.2.1 (k - 1) (by omega)
        rw [show i + 1 + (k - 1) = i + k by omega, show j + 1 + (k - 1) = j + k by omega] at this
        exact this
      · have := ihr (i + 1 + gd_sz l) (j + 1 + gd_sz l) a.2.2 b.2.2 (k - 1 - gd_sz l) (by omega)
        rw [show i + 1 + gd_sz l + (k - 1 - gd_sz l) = i + k by omega, show j + 1 + gd_sz l + (k - 1 - gd_sz l) = j + k by omega] at this
        exact this
theorem gd_sp_eq {r : Nat → Int32} : ∀ f : Lean.RArray Nat, gd_vt f → ∀ g : Lean.RArray Nat, gd_vt g → ∀ i j : Nat, gd_Sp r f i → gd_Sp r g j → (∀ q, q < gd_sz f → r (i + q) = r (j + q)) → f = g := by
  intro f
  induction f with
  | leaf n =>
    intro hn g hg i j a b e
    have e0 := e 0 (by simp only [gd_sz]; omega)
    rw [Nat.add_zero, Nat.add_zero, gd_sp_hd b] at e0
    have e1 : nI n = nI (gd_hd g) := (show r i = nI n from a).symm.trans e0
    have lt := gd_hd_lt hg
    simp only [gd_vt] at hn
    have e2 := (nI_eq (by omega) (by omega)).mp e1
    cases g with
    | leaf m => simp only [gd_hd] at e2; rw [e2]
    | branch h l x => simp only [gd_vt] at hg; simp only [gd_hd] at e2; omega
  | branch h l x ihl ihr =>
    intro hv g hg i j a b e
    simp only [gd_vt] at hv
    simp only [gd_sz] at e
    have e0 := e 0 (by omega)
    rw [Nat.add_zero, Nat.add_zero, gd_sp_hd b] at e0
    have e1 : nI h = nI (gd_hd g) := a.1.symm.trans e0
    have lt := gd_hd_lt hg
    have e2 := (nI_eq (by omega) (by omega)).mp e1
    cases g with
    | leaf m => simp only [gd_vt] at hg; simp only [gd_hd] at e2; omega
    | branch h' l' x' =>
      simp only [gd_vt] at hg
      simp only [gd_hd] at e2
      have el := ihl hv.2.1 l' hg.2.1 (i + 1) (j + 1) a.2.1 b.2.1 (fun q hq => by
        have := e (1 + q) (by omega)
        rw [Nat.add_assoc, Nat.add_assoc]
        exact this)
      subst el
      have er := ihr hv.2.2 x' hg.2.2 (i + 1 + gd_sz l) (j + 1 + gd_sz l) a.2.2 b.2.2 (fun q hq => by
        have := e (1 + gd_sz l + q) (by omega)
        rw [show i + 1 + gd_sz l + q = i + (1 + gd_sz l + q) by omega, show j + 1 + gd_sz l + q = j + (1 + gd_sz l + q) by omega]
        exact this)
      subst er e2
      rfl
def gd_G (t : Lean.RArray Nat) : Lean.RArray Nat := if gd_hd t = 3 then .branch 3 (.leaf 2) (.leaf 2) else if gd_hd t = 4 then .branch 4 (.leaf 2) (.leaf 2) else .leaf (gd_hd t)
end
section
/-! ===== 02: X's walks over packed types ===== -/
theorem gx_or {k a b : Nat} (ha : a < 2 ^ k) : nI a ||| nI (2 ^ k * b) = nI (a + 2 ^ k * b) := by
  have e : nI a ||| nI (2 ^ k * b) = nI (a ||| 2 ^ k * b) := by
    apply Int32.toBitVec_inj.1
    show BitVec.ofNat 32 a ||| BitVec.ofNat 32 (2 ^ k * b) = BitVec.ofNat 32 (a ||| 2 ^ k * b)
    apply BitVec.eq_of_getLsbD_eq
    intro i hi
    simp [hi]
  rw [e, Nat.or_comm, ← Nat.two_pow_add_eq_or_of_lt ha, Nat.add_comm]
theorem gx_p8 (i : Nat) : 2 ^ (3 * i) = 8 ^ i := by
  rw [Nat.pow_mul]
theorem gx_tok {s i : Nat} (hs : s < 2 ^ 31) (hi : i < 8) : (nI s >>> ((3 * nI i) &&& 31)) &&& 7 = nI (s / 8 ^ i % 8) := by
  have e3 : (3 : Int32) * nI i = nI (3 * i) := pk_mul 3 i
  rw [e3, pk_shrN hs (nI (3 * i) &&& 31) (3 * i) (s_l _ (by omega)), pk_andN (Nat.lt_of_le_of_lt (Nat.div_le_self _ _) (by omega)) 3 (by decide), gx_p8]
theorem gx_te {post : Int32 → Prop} {s : Nat} (hs : s < 2 ^ 31) : ∀ t : Lean.RArray Nat, gd_vt t → ∀ i m n : Nat, gd_Sp (gd_xr s) t i → i + gd_sz t ≤ 7 → m + gd_sz t < 100 → wX_typeEnd_4 post (nI s) n (nI m) (nI (i + gd_sz t)) → wX_typeEnd_4 post (nI s) (n + gd_sz t) (nI (m + 1)) (nI i) := by
  intro t
  induction t with
  | leaf k =>
    intro hk i m n sp hi hm H
    simp only [gd_vt] at hk
    simp only [gd_sz] at hi hm H ⊢
    have h7 : ¬ (7 : Int32) ≤ nI i := nI_ge (b := 7) (by omega) (by decide)
    have h0 : ¬ nI (m + 1) ≤ 0 := nI_nle (by omega) (by omega)
    have e : nI (s / 8 ^ i % 8) = nI k := sp
    have hk3 : ((nI s >>> ((3 * nI i) &&& 31)) &&& 7) < 3 := by
      rw [gx_tok hs (by omega), e]
      exact nI_lt (b := 3) hk (by decide)
    exact br_f h7 (br_f h0 (br_t hk3 (nm_r (pk_m1 m) (nm_r (nI_1 i) H))))
  | branch h l r ihl ihr =>
    intro hv i m n sp hi hm H
    simp only [gd_vt] at hv
    have hh := gd_h8 hv.1
    have hl := gd_sz_pos l
    have hr := gd_sz_pos r
    simp only [gd_sz] at hi hm H ⊢
    have h7 : ¬ (7 : Int32) ≤ nI i := nI_ge (b := 7) (by omega) (by decide)
    have h0 : ¬ nI (m + 1) ≤ 0 := nI_nle (by omega) (by omega)
    have e : nI (s / 8 ^ i % 8) = nI h := sp.1
    have hk3 : ¬ ((nI s >>> ((3 * nI i) &&& 31)) &&& 7) < 3 := by
      rw [gx_tok hs (by omega), e]
      exact nI_nlt (b := 3) hh.1 (by omega)
    rw [show n + (1 + gd_sz l + gd_sz r) = (n + gd_sz r + gd_sz l) + 1 by omega]
    rw [show i + (1 + gd_sz l + gd_sz r) = i + 1 + gd_sz l + gd_sz r by omega] at H
    exact br_f h7 (br_f h0 (br_f hk3 (nm_r (nI_1 (m + 1)) (nm_r (nI_1 i) (ihl hv.2.1 (i + 1) (m + 1) (n + gd_sz r) sp.2.1 (by omega) (by omega) (ihr hv.2.2 (i + 1 + gd_sz l) m n sp.2.2 (by omega) (by omega) H))))))
theorem gx_typeEnd {post : Int32 → Prop} {s : Nat} (hs : s < 2 ^ 31) {t : Lean.RArray Nat} (ht : gd_vt t) {i : Nat} (sp : gd_Sp (gd_xr s) t i) (hi : i + gd_sz t ≤ 7) (H : post (nI (i + gd_sz t))) : wpX_typeEnd post (nI s) (nI i) := by
  have z : wX_typeEnd_40 post (nI 0) (nI (i + gd_sz t)) := br_t (by rw [nI_0]; exact Int32.le_refl 0) H
  have y : wX_typeEnd_4 post (nI s) 1 (nI 0) (nI (i + gd_sz t)) := br_c (fun _ => z) (fun _ => br_t (by rw [nI_0]; exact Int32.le_refl 0) z)
  exact Exists.intro (1 + gd_sz t) (gx_te hs t ht i 0 1 sp hi (by omega) y)
theorem gx_en {t : Lean.RArray Nat} (h : gd_TY t) : gd_en t < 2 ^ 31 := by
  have := gd_en_big h
  omega
theorem gx_br_en (h : Nat) (l r : Lean.RArray Nat) : gd_en (.branch h l r) = h + 8 * (gd_en l + 8 ^ gd_sz l * gd_en r) := rfl
theorem gx_leftOf {post : Int32 → Prop} {h : Nat} {l r : Lean.RArray Nat} (H : gd_TY (.branch h l r)) (P : post (nI (gd_en l))) : wpX_leftOf post (nI (gd_en (.branch h l r))) := by
  have hs := gx_en H
  have hv := H.1
  simp only [gd_vt] at hv
  have hh := gd_h8 hv.1
  have hz := H.2
  simp only [gd_sz] at hz
  have hr := gd_sz_pos r
  have hl := gd_en_lt l hv.2.1
  have sp := (gd_sp_en H.1).2.1
  refine gx_typeEnd (i := 1) hs hv.2.1 sp (by omega) ?_
  rw [show 1 + gd_sz l = gd_sz l + 1 by omega]
  refine nm_r (nI_pred (gd_sz l)) ?_
  have e3 : (3 : Int32) * nI (gd_sz l) = nI (3 * gd_sz l) := pk_mul 3 _
  have hp : 8 ^ gd_sz l ≤ 8 ^ 7 := Nat.pow_le_pow_right (by decide) (by omega)
  have hp7 : (8 : Nat) ^ 7 = 2097152 := by decide
  have hp0 : 0 < 8 ^ gd_sz l := Nat.pow_pos (by decide)
  have e4 : (1 : Int32) <<< ((3 * nI (gd_sz l)) &&& 31) = nI (8 ^ gd_sz l) := by
    rw [e3, show (1 : Int32) = nI 1 from rfl, pk_shlN (nI (3 * gd_sz l) &&& 31) (3 * gd_sz l) (s_l _ (by omega)) (by rw [gx_p8]; omega), gx_p8, Nat.one_mul]
  have e5 : (1 : Int32) <<< ((3 * nI (gd_sz l)) &&& 31) - 1 = nI (8 ^ gd_sz l - 1) := by
    rw [e4]
    exact pk_sub (b := 1) hp0
  rw [e5, pk_shrN hs ((3 : Int32) &&& 31) 3 (by decide), pk_andN (Nat.lt_of_le_of_lt (Nat.div_le_self _ _) (by omega)) (3 * gd_sz l) (by rw [pk_tn (by omega), gx_p8])]
  rw [gx_p8, gx_br_en]
  have e6 : (h + 8 * (gd_en l + 8 ^ gd_sz l * gd_en r)) / 2 ^ 3 = gd_en l + 8 ^ gd_sz l * gd_en r := by omega
  rw [e6, Nat.add_mul_mod_self_left, Nat.mod_eq_of_lt hl]
  exact P
theorem gx_rightOf {post : Int32 → Prop} {h : Nat} {l r : Lean.RArray Nat} (H : gd_TY (.branch h l r)) (P : post (nI (gd_en r))) : wpX_rightOf post (nI (gd_en (.branch h l r))) := by
  have hs := gx_en H
  have hv := H.1
  simp only [gd_vt] at hv
  have hh := gd_h8 hv.1
  have hz := H.2
  simp only [gd_sz] at hz
  have hr := gd_sz_pos r
  have hl := gd_en_lt l hv.2.1
  have sp := (gd_sp_en H.1).2.1
  refine gx_typeEnd (i := 1) hs hv.2.1 sp (by omega) ?_
  have e3 : (3 : Int32) * nI (1 + gd_sz l) = nI (3 * (1 + gd_sz l)) := pk_mul 3 _
  show post (nI (gd_en (.branch h l r)) >>> ((3 * nI (1 + gd_sz l)) &&& 31))
  rw [e3, pk_shrN hs (nI (3 * (1 + gd_sz l)) &&& 31) (3 * (1 + gd_sz l)) (s_l _ (by omega)), gx_p8, gx_br_en, Nat.pow_add, ← Nat.div_div_eq_div_mul, Nat.pow_one]
  have e6 : (h + 8 * (gd_en l + 8 ^ gd_sz l * gd_en r)) / 8 = gd_en l + 8 ^ gd_sz l * gd_en r := by omega
  rw [e6, Nat.add_mul_div_left _ _ (Nat.pow_pos (by decide)), Nat.div_eq_of_lt hl, Nat.zero_add]
  exact P
theorem gx_typeHead {post : Int32 → Prop} {t : Lean.RArray Nat} (H : gd_TY t) (P : post (nI (gd_hd t))) : wpX_typeHead post (nI (gd_en t)) := by
  show post (nI (gd_en t) &&& 7)
  have hs := gx_en H
  rw [pk_andN (by omega) 3 (by decide)]
  have e : gd_en t % 2 ^ 3 = gd_hd t := by
    have hv := H.1
    cases t with
    | leaf n => simp only [gd_vt] at hv; simp only [gd_en, gd_hd]; omega
    | branch h l r => simp only [gd_vt] at hv; have hh := gd_h8 hv.1; simp only [gd_en, gd_hd]; omega
  rw [e]
  exact P
theorem gx_joined {post : Int32 → Prop} {h : Nat} {l r : Lean.RArray Nat} (hh : h = 3 ∨ h = 4) (hl : gd_TY l) (hr : gd_TY r) (P : 1 + gd_sz l + gd_sz r ≤ 7 → post (nI (gd_en (.branch h l r)))) (Q : ¬ 1 + gd_sz l + gd_sz r ≤ 7 → post (-2)) : wpX_joined post (nI h) (nI (gd_en l)) (nI (gd_en r)) := by
  have h8 := gd_h8 hh
  have zl := hl.2
  have zr := hr.2
  have bl := gd_en_big hl
  have br' := gd_en_big hr
  refine gx_typeEnd (i := 0) (gx_en hl) hl.1 (gd_sp_en hl.1) (by omega) ?_
  rw [Nat.zero_add]
  have e1 : (1 : Int32) + nI (gd_sz l) = nI (1 + gd_sz l) := nI_add 1 _
  refine nm_r e1 ?_
  refine gx_typeEnd (i := 0) (gx_en hr) hr.1 (gd_sp_en hr.1) (by omega) ?_
  rw [Nat.zero_add, nI_add]
  refine pk_le (1 + gd_sz l + gd_sz r) 7 ?_ (fun z => Q (by omega))
  intro hz
  have P' := P hz
  have e3 : (3 : Int32) * nI (1 + gd_sz l) = nI (3 * (1 + gd_sz l)) := pk_mul 3 _
  have ez : 8 ^ (1 + gd_sz l) * gd_en r < 8 ^ 7 := by
    have a := gd_en_lt r hr.1
    have b := Nat.mul_lt_mul_of_pos_left a (Nat.pow_pos (n := 1 + gd_sz l) (show 0 < 8 by decide))
    rw [← Nat.pow_add] at b
    exact Nat.lt_of_lt_of_le b (Nat.pow_le_pow_right (by decide) (by omega))
  have hp7 : (8 : Nat) ^ 7 = 2097152 := by decide
  rw [e3, pk_shlN (nI (3 * (1 + gd_sz l)) &&& 31) (3 * (1 + gd_sz l)) (s_l _ (by omega)) (by rw [gx_p8, Nat.mul_comm]; omega), pk_shlN ((3 : Int32) &&& 31) 3 (by decide) (by omega), gx_p8]
  rw [Nat.mul_comm (gd_en l), gx_or (k := 3) (a := h) (b := gd_en l) (by omega)]
  have hlow : h + 2 ^ 3 * gd_en l < 2 ^ (3 * (1 + gd_sz l)) := by
    have a := gd_en_lt l hl.1
    rw [gx_p8, Nat.pow_add, Nat.pow_one]
    omega
  rw [Nat.mul_comm (gd_en r), ← gx_p8, gx_or hlow]
  have e9 : h + 2 ^ 3 * gd_en l + 2 ^ (3 * (1 + gd_sz l)) * gd_en r = gd_en (.branch h l r) := by
    rw [gx_br_en, gx_p8, Nat.pow_add, Nat.pow_one, Nat.mul_add, Nat.mul_assoc]
    omega
  rw [e9]
  exact P'
theorem gx_typeToken {post : Int32 → Prop} {s i : Nat} (hs : s < 2 ^ 31) (hi : i < 8) (P : post (gd_xr s i)) : wpX_typeToken post (nI s) (nI i) := by
  show post ((nI s >>> ((3 * nI i) &&& 31)) &&& 7)
  rw [gx_tok hs hi]
  exact P
/-- one pair of parts of the two types -/
theorem gx_co {post : Int32 → Prop} {s t : Nat} (hs : s < 2 ^ 31) (ht : t < 2 ^ 31) : ∀ f : Lean.RArray Nat, gd_vt f → ∀ g : Lean.RArray Nat, gd_vt g → ∀ i j m p n : Nat, gd_Sp (gd_xr s) f i → gd_Sp (gd_xr t) g j → i + gd_sz f ≤ 7 → j + gd_sz g ≤ 7 → p ≤ i → m + gd_sz f < 100 →
    (gd_cb f g = true → ∀ p' N, p' ≤ i + gd_sz f → n ≤ N → wX_consistent_10 post (nI s) (nI t) N (nI (i + gd_sz f)) (nI (j + gd_sz g)) (nI m) (nI p')) → (gd_cb f g = false → post 0) →
    ∀ N, n + gd_sz f ≤ N → wX_consistent_10 post (nI s) (nI t) N (nI i) (nI j) (nI (m + 1)) (nI p) := by
  intro f
  induction f with
  | leaf a =>
    intro ha g hg i j m p n sf sg hi hj hp hm C D N hN
    simp only [gd_sz] at hi hm C hN
    have zg := gd_sz_pos g
    obtain ⟨N, rfl⟩ : ∃ K, N = K + 1 := ⟨N - 1, by omega⟩
    refine br_f (nI_ge (b := 7) (by omega) (by decide)) (br_f (nI_nle (by omega) (by omega)) ?_)
    refine gx_typeToken hs (by omega) (gx_typeToken ht (by omega) ?_)
    rw [show gd_xr s i = nI a from sf, gd_sp_hd sg]
    have skip : gd_cb (.leaf a) g = true → wX_consistent_48 post (wX_consistent_10 post (nI s) (nI t) N) (nI s) (nI t) (nI i) (nI j) (nI (m + 1)) (nI p) := by
      intro z
      refine gx_typeEnd hs ha sf (by simp only [gd_sz]; omega) (gx_typeEnd ht hg sg hj ?_)
      exact nm_r (pk_m1 m) (nm_r (nI_1 p) (C z (p + 1) N (by omega) (by omega)))
    have ga := gd_hd_lt hg
    simp only [gd_vt] at ha
    refine pk_eq a 2 (fun z => skip (by rw [z]; exact gd_cb_any g)) (fun z2 => ?_)
    refine pk_eq (gd_hd g) 2 (fun z => skip ?_) (fun z3 => ?_)
    · cases g with
      | leaf b => simp only [gd_hd] at z; rw [z]; exact gd_cb_any' _
      | branch h l r => simp only [gd_vt] at hg; simp only [gd_hd] at z; omega
    refine pk_eq a (gd_hd g) (fun z => ?_) (fun z => ?_)
    · cases g with
      | leaf b =>
        simp only [gd_hd] at z
        subst z
        have C' := C (gd_cb_refl _) (p + 1) N (by omega) (by omega)
        simp only [gd_sz] at C'
        exact nm_r (nI_1 i) (nm_r (nI_1 j) (br_t (nI_lt (b := 3) ha (by decide)) (nm_r (pk_m1 m) (nm_r (nI_1 p) C'))))
      | branch h l r => simp only [gd_vt] at hg; simp only [gd_hd] at z; omega
    · refine D ?_
      cases g with
      | leaf b => simp only [gd_hd] at z z3; simp [gd_cb, z2, z3, z]
      | branch h l r => simp [gd_cb, z2]
  | branch h l r ihl ihr =>
    intro hv g hg i j m p n sf sg hi hj hp hm C D N hN
    have hv0 := hv
    simp only [gd_vt] at hv
    have hh := gd_h8 hv.1
    have zl := gd_sz_pos l
    have zr := gd_sz_pos r
    have zg := gd_sz_pos g
    have hi0 := hi
    simp only [gd_sz] at hi hm hN
    obtain ⟨N, rfl⟩ : ∃ K, N = K + 1 := ⟨N - 1, by omega⟩
    refine br_f (nI_ge (b := 7) (by omega) (by decide)) (br_f (nI_nle (by omega) (by omega)) ?_)
    refine gx_typeToken hs (by omega) (gx_typeToken ht (by omega) ?_)
    rw [show gd_xr s i = nI h from sf.1, gd_sp_hd sg]
    have skip : gd_cb (.branch h l r) g = true → wX_consistent_48 post (wX_consistent_10 post (nI s) (nI t) N) (nI s) (nI t) (nI i) (nI j) (nI (m + 1)) (nI p) := by
      intro z
      refine gx_typeEnd hs hv0 sf hi0 (gx_typeEnd ht hg sg hj ?_)
      exact nm_r (pk_m1 m) (nm_r (nI_1 p) (C z (p + 1) N (by simp only [gd_sz]; omega) (by omega)))
    have ga := gd_hd_lt hg
    refine pk_eq h 2 (fun z => by omega) (fun z2 => ?_)
    refine pk_eq (gd_hd g) 2 (fun z => skip ?_) (fun z3 => ?_)
    · cases g with
      | leaf b => simp only [gd_hd] at z; rw [z]; exact gd_cb_any' _
      | branch h' l' r' => simp only [gd_vt] at hg; simp only [gd_hd] at z; omega
    cases g with
    | leaf b =>
      simp only [gd_vt] at hg
      simp only [gd_hd] at z3 ⊢
      refine pk_eq h b (fun z => by omega) (fun z => D ?_)
      simp [gd_cb, z3]
    | branch h' l' r' =>
      simp only [gd_vt] at hg
      simp only [gd_hd] at z3 ⊢
      simp only [gd_sz] at hj C
      refine pk_eq h h' (fun z => ?_) (fun z => D (by simp [gd_cb, z]))
      refine nm_r (nI_1 i) (nm_r (nI_1 j) (br_f (nI_nlt (b := 3) hh.1 (by omega)) (nm_r (nI_1 (m + 1)) (nm_r (nI_1 p) ?_))))
      refine ihl hv.2.1 l' hg.2.1 (i + 1) (j + 1) (m + 1) (p + 1) (n + gd_sz r) sf.2.1 sg.2.1 (by omega) (by omega) (by omega) (by omega) ?_ ?_ N (by omega)
      · intro cl p' N' hp' hN'
        refine ihr hv.2.2 r' hg.2.2 (i + 1 + gd_sz l) (j + 1 + gd_sz l') m p' n sf.2.2 sg.2.2 (by omega) (by omega) hp' (by omega) ?_ ?_ N' hN'
        · intro cr p'' N'' hp'' hN''
          have c := C (by simp [gd_cb, z, cl, cr]) p'' N'' (by omega) hN''
          rw [show i + 1 + gd_sz l + gd_sz r = i + (1 + gd_sz l + gd_sz r) by omega, show j + 1 + gd_sz l' + gd_sz r' = j + (1 + gd_sz l' + gd_sz r') by omega]
          exact c
        · intro cr
          exact D (by simp [gd_cb, cr])
      · intro cl
        exact D (by simp [gd_cb, cl])
theorem gx_consistent {post : Int32 → Prop} {f g : Lean.RArray Nat} (hf : gd_TY f) (hg : gd_TY g) (P : gd_cb f g = true → post 1) (Q : gd_cb f g = false → post 0) : wpX_consistent post (nI (gd_en f)) (nI (gd_en g)) := by
  refine Exists.intro (1 + gd_sz f) ?_
  have zf := hf.2
  have zg := hg.2
  refine gx_co (gx_en hf) (gx_en hg) f hf.1 g hg.1 0 0 0 0 1 (gd_sp_en hf.1) (gd_sp_en hg.1) (by omega) (by omega) (by omega) (by omega) ?_ Q _ (Nat.le_refl _)
  intro c p' N _ hN
  obtain ⟨N, rfl⟩ : ∃ K, N = K + 1 := ⟨N - 1, by omega⟩
  exact br_c (fun _ => P c) (fun _ => br_t (by rw [nI_0]; exact Int32.le_refl 0) (P c))
theorem gx_tagFor {post : Int32 → Prop} {t : Lean.RArray Nat} (H : gd_TY t) (P : post (nI (gd_en (gd_G t)))) : wpX_tagFor post (nI (gd_en t)) := by
  have hd := gd_hd_lt H.1
  refine gx_typeHead H ?_
  unfold gd_G at P
  refine pk_eq (gd_hd t) 3 (fun z => ?_) (fun z => pk_eq (gd_hd t) 4 (fun y => ?_) (fun y => ?_))
  · rw [if_pos z] at P; exact P
  · rw [if_neg z, if_pos y] at P; exact P
  · rw [if_neg z, if_neg y] at P; exact P
def gd_shp (t : Lean.RArray Nat) : Nat := if gd_hd t = 0 then 1 else if gd_hd t = 1 then 2 else if gd_hd t = 3 then 3 else 4
theorem gx_shapeOf {post : Int32 → Prop} {t : Lean.RArray Nat} (H : gd_TY t) (P : post (nI (gd_shp t))) : wpX_shapeOf post (nI (gd_en t)) := by
  have hd := gd_hd_lt H.1
  refine gx_typeHead H ?_
  refine br_f (nI_pos (by omega)) (pk_lt 3 (gd_hd t) (fun z => ?_) (fun z => ?_))
  · have e : gd_shp t = 4 := by unfold gd_shp; rw [if_neg (by omega), if_neg (by omega), if_neg (by omega)]
    rw [e] at P; exact P
  · refine pk_eq (gd_hd t) 0 (fun y => ?_) (fun y0 => pk_eq (gd_hd t) 1 (fun y => ?_) (fun y1 => pk_eq (gd_hd t) 2 (fun y => ?_) (fun y2 => pk_eq (gd_hd t) 3 (fun y => ?_) (fun y3 => trivial))))
    · have e : gd_shp t = 1 := by unfold gd_shp; rw [if_pos y]
      rw [e] at P; exact P
    · have e : gd_shp t = 2 := by unfold gd_shp; rw [if_neg y0, if_pos y]
      rw [e] at P; exact P
    · have e : gd_shp t = 4 := by unfold gd_shp; rw [if_neg (by omega), if_neg (by omega), if_neg (by omega)]
      rw [e] at P; exact P
    · have e : gd_shp t = 3 := by unfold gd_shp; rw [if_neg (by omega), if_neg (by omega), if_pos y]
      rw [e] at P; exact P
end
section
/-! ===== 03: the reference's walks over spelled types ===== -/
section
variable {y_parts y_count y_place y_where y_values y_variables y_waits y_at y_world y_steps y_blame y_result y_given : Int32} {y_ty y_part y_kind y_end y_state y_with y_runKind y_runEnd y_runWith y_sort y_one y_two y_from y_to y_label y_held y_around y_waiting y_operand y_outer y_kept : Nat → Int32}
theorem gy_be {post : Int32 → Prop} : ∀ t : Lean.RArray Nat, gd_vt t → ∀ i m n : Nat, gd_Sp y_ty t i → i + gd_sz t ≤ 700 → m + gd_sz t < 1000 → wY_behind_4 post y_parts y_count y_place y_where y_values y_variables y_waits y_at y_world y_steps y_blame y_result y_given y_ty y_part y_kind y_end y_state y_with y_runKind y_runEnd y_runWith y_sort y_one y_two y_from y_to y_label y_held y_around y_waiting y_operand y_outer y_kept n (nI m) (nI (i + gd_sz t)) → wY_behind_4 post y_parts y_count y_place y_where y_values y_variables y_waits y_at y_world y_steps y_blame y_result y_given y_ty y_part y_kind y_end y_state y_with y_runKind y_runEnd y_runWith y_sort y_one y_two y_from y_to y_label y_held y_around y_waiting y_operand y_outer y_kept (n + gd_sz t) (nI (m + 1)) (nI i) := by
  intro t
  induction t with
  | leaf k =>
    intro hk i m n sp hi hm H
    simp only [gd_vt] at hk
    simp only [gd_sz] at hi hm H ⊢
    have h0 : ¬ nI (m + 1) ≤ 0 := nI_nle (by omega) (by omega)
    have e : y_ty i = nI k := sp
    have hk3 : y_ty (nI i).toNatClampNeg ≤ 2 := by
      rw [nI_clamp (by omega), e]
      exact nI_le (b := 2) (by omega) (by decide)
    exact br_f h0 (nm_r (nI_1 i) (And.intro (vp_in_nI (by omega) (by decide)) (br_t hk3 (nm_r (pk_m1 m) H))))
  | branch h l r ihl ihr =>
    intro hv i m n sp hi hm H
    simp only [gd_vt] at hv
    have hh := gd_h8 hv.1
    have hl := gd_sz_pos l
    have hr := gd_sz_pos r
    simp only [gd_sz] at hi hm H ⊢
    have h0 : ¬ nI (m + 1) ≤ 0 := nI_nle (by omega) (by omega)
    have e : y_ty i = nI h := sp.1
    have hk3 : ¬ y_ty (nI i).toNatClampNeg ≤ 2 := by
      rw [nI_clamp (by omega), e]
      exact nI_ge (a := 2) (by omega) (by omega)
    rw [show n + (1 + gd_sz l + gd_sz r) = (n + gd_sz r + gd_sz l) + 1 by omega]
    rw [show i + (1 + gd_sz l + gd_sz r) = i + 1 + gd_sz l + gd_sz r by omega] at H
    exact br_f h0 (nm_r (nI_1 i) (And.intro (vp_in_nI (by omega) (by decide)) (br_f hk3 (nm_r (nI_1 (m + 1)) (ihl hv.2.1 (i + 1) (m + 1) (n + gd_sz r) sp.2.1 (by omega) (by omega) (ihr hv.2.2 (i + 1 + gd_sz l) m n sp.2.2 (by omega) (by omega) H))))))
theorem gy_behind {post : Int32 → Prop} {t : Lean.RArray Nat} (ht : gd_TY t) {i : Nat} (sp : gd_Sp y_ty t i) (hi : i + gd_sz t ≤ 700) (H : post (nI (i + gd_sz t))) : wpY_behind post (y_parts, y_count, y_place, y_where, y_values, y_variables, y_waits, y_at, y_world, y_steps, y_blame, y_result, y_given, y_ty, y_part, y_kind, y_end, y_state, y_with, y_runKind, y_runEnd, y_runWith, y_sort, y_one, y_two, y_from, y_to, y_label, y_held, y_around, y_waiting, y_operand, y_outer, y_kept) (nI i) := by
  have z := ht.2
  have y : wY_behind_4 post y_parts y_count y_place y_where y_values y_variables y_waits y_at y_world y_steps y_blame y_result y_given y_ty y_part y_kind y_end y_state y_with y_runKind y_runEnd y_runWith y_sort y_one y_two y_from y_to y_label y_held y_around y_waiting y_operand y_outer y_kept 1 (nI 0) (nI (i + gd_sz t)) := br_t (by rw [nI_0]; exact Int32.le_refl 0) H
  exact Exists.intro (1 + gd_sz t) (gy_be t ht.1 i 0 1 sp (by omega) (by omega) y)
theorem gy_same_l {post : Int32 → Prop} {f g : Lean.RArray Nat} (hf : gd_TY f) (hg : gd_TY g) {i j : Nat} (sf : gd_Sp y_ty f i) (sg : gd_Sp y_ty g j) (hi : i + 7 ≤ 700) (hj : j + 7 ≤ 700) (P : f = g → post 1) (Q : f ≠ g → post 0) : ∀ d k : Nat, k + d = gd_sz f → (∀ q, q < k → y_ty (i + q) = y_ty (j + q)) → wY_same_11 post (nI i) (nI j) (nI (gd_sz f)) y_parts y_count y_place y_where y_values y_variables y_waits y_at y_world y_steps y_blame y_result y_given y_ty y_part y_kind y_end y_state y_with y_runKind y_runEnd y_runWith y_sort y_one y_two y_from y_to y_label y_held y_around y_waiting y_operand y_outer y_kept (d + 1) (nI k) := by
  intro d
  have zf := hf.2
  induction d with
  | zero =>
    intro k hk h
    exact br_t (nI_le (by omega) (by omega)) (P (gd_sp_eq f hf.1 g hg.1 i j sf sg (fun q hq => h q (by omega))))
  | succ d ih =>
    intro k hk h
    refine br_f (nI_ge (by omega) (by omega)) ?_
    rw [nI_add, nI_add]
    refine And.intro (vp_in_nI (by omega) (by decide)) (And.intro (vp_in_nI (by omega) (by decide)) ?_)
    rw [nI_clamp (show i + k < 2 ^ 31 by omega), nI_clamp (show j + k < 2 ^ 31 by omega)]
    refine br_c (fun z => nm_r (nI_1 k) (ih (k + 1) (by omega) ?_)) (fun z => Q ?_)
    · intro q hq
      by_cases e : q = k
      · rw [e]; exact z
      · exact h q (by omega)
    · intro e
      subst e
      exact z (gd_sp_tok f i j sf sg k (by omega))
theorem gy_same {post : Int32 → Prop} {f g : Lean.RArray Nat} (hf : gd_TY f) (hg : gd_TY g) {i j : Nat} (sf : gd_Sp y_ty f i) (sg : gd_Sp y_ty g j) (hi : i + 7 ≤ 700) (hj : j + 7 ≤ 700) (P : f = g → post 1) (Q : f ≠ g → post 0) : wpY_same post (y_parts, y_count, y_place, y_where, y_values, y_variables, y_waits, y_at, y_world, y_steps, y_blame, y_result, y_given, y_ty, y_part, y_kind, y_end, y_state, y_with, y_runKind, y_runEnd, y_runWith, y_sort, y_one, y_two, y_from, y_to, y_label, y_held, y_around, y_waiting, y_operand, y_outer, y_kept) (nI i) (nI j) := by
  refine gy_behind hf sf (by have := hf.2; omega) ?_
  refine nm_r (e' := nI (gd_sz f)) ?_ ?_
  · rw [pk_sub (by omega)]
    exact congrArg nI (by omega)
  · exact Exists.intro (gd_sz f + 1) (gy_same_l hf hg sf sg hi hj P Q (gd_sz f) 0 (by omega) (fun q hq => absurd hq (Nat.not_lt_zero q)))
theorem gy_co_skip {post : Int32 → Prop} {J : Int32 → Int32 → Prop} {x5 : Int32} {f g : Lean.RArray Nat} (hf : gd_TY f) (hg : gd_TY g) {i j : Nat} (sf : gd_Sp y_ty f i) (sg : gd_Sp y_ty g j) (hi : i + gd_sz f ≤ 700) (hj : j + gd_sz g ≤ 700) (H : J (nI (i + gd_sz f)) (nI (j + gd_sz g))) : wY_consistent_39 post J (nI i) (nI j) x5 y_parts y_count y_place y_where y_values y_variables y_waits y_at y_world y_steps y_blame y_result y_given y_ty y_part y_kind y_end y_state y_with y_runKind y_runEnd y_runWith y_sort y_one y_two y_from y_to y_label y_held y_around y_waiting y_operand y_outer y_kept :=
  br_f (show ¬ (1 : Int32) = 0 by decide) (br_f (show ¬ (1 : Int32) = 0 by decide) (gy_behind hf sf hi (br_f (show ¬ (1 : Int32) = 0 by decide) (gy_behind hg sg hj H))))
theorem gy_co_step {post : Int32 → Prop} {J : Int32 → Int32 → Prop} {x5 : Int32} {a b : Nat} {i j : Nat} (ha : a < 10) (hb : b < 10) (sa : y_ty i = nI a) (sb : y_ty j = nI b) (hi : i < 700) (hj : j < 700) (H : a = b → J (nI (i + 1)) (nI (j + 1))) (D : a ≠ b → post 0) : wY_consistent_44 post J (nI i) (nI j) x5 0 y_parts y_count y_place y_where y_values y_variables y_waits y_at y_world y_steps y_blame y_result y_given y_ty y_part y_kind y_end y_state y_with y_runKind y_runEnd y_runWith y_sort y_one y_two y_from y_to y_label y_held y_around y_waiting y_operand y_outer y_kept := by
  refine br_t rfl (And.intro (vp_in_nI hi (by decide)) (And.intro (vp_in_nI hj (by decide)) ?_))
  rw [nI_clamp (show i < 2 ^ 31 by omega), nI_clamp (show j < 2 ^ 31 by omega), sa, sb]
  refine pk_eq a b (fun z => ?_) D
  refine br_t rfl (br_t rfl ?_)
  rw [nI_1 i]
  exact nm_r (nI_1 j) (H z)
theorem gy_co {post : Int32 → Prop} {E : Nat} (hE : E ≤ 700) : ∀ f : Lean.RArray Nat, gd_TY f → ∀ g : Lean.RArray Nat, gd_TY g → ∀ i j n : Nat, gd_Sp y_ty f i → gd_Sp y_ty g j → i + gd_sz f ≤ E → i + gd_sz f ≤ 700 → j + gd_sz g ≤ 700 →
    (gd_cb f g = true → ∀ N, n ≤ N → wY_consistent_12 post (nI E) y_parts y_count y_place y_where y_values y_variables y_waits y_at y_world y_steps y_blame y_result y_given y_ty y_part y_kind y_end y_state y_with y_runKind y_runEnd y_runWith y_sort y_one y_two y_from y_to y_label y_held y_around y_waiting y_operand y_outer y_kept N (nI (i + gd_sz f)) (nI (j + gd_sz g))) → (gd_cb f g = false → post 0) →
    ∀ N, n + gd_sz f ≤ N → wY_consistent_12 post (nI E) y_parts y_count y_place y_where y_values y_variables y_waits y_at y_world y_steps y_blame y_result y_given y_ty y_part y_kind y_end y_state y_with y_runKind y_runEnd y_runWith y_sort y_one y_two y_from y_to y_label y_held y_around y_waiting y_operand y_outer y_kept N (nI i) (nI j) := by
  intro f
  induction f with
  | leaf a =>
    intro hf g hg i j n sf sg hi hi7 hj7 C D N hN
    have zg0 := gd_sz_pos g
    have ha := hf.1
    simp only [gd_vt] at ha
    have hC := C
    simp only [gd_sz] at hi hN
    have ga := gd_hd_lt hg.1
    have sa : y_ty i = nI a := sf
    have sb := gd_sp_hd sg
    obtain ⟨N, rfl⟩ : ∃ K, N = K + 1 := ⟨N - 1, by omega⟩
    refine br_f (nI_ge (by omega) (by omega)) (And.intro (vp_in_nI (by omega) (by decide)) ?_)
    rw [nI_clamp (show i < 2 ^ 31 by omega), sa]
    refine pk_eq a 2 (fun z => gy_co_skip hf hg sf sg hi7 hj7 (C (by rw [z]; exact gd_cb_any g) N (by omega))) (fun z2 => And.intro (vp_in_nI (by omega) (by decide)) ?_)
    rw [nI_clamp (show j < 2 ^ 31 by omega), sb]
    refine pk_eq (gd_hd g) 2 (fun z => gy_co_skip hf hg sf sg hi7 hj7 (C ?_ N (by omega))) (fun z3 => ?_)
    · cases g with
      | leaf b => simp only [gd_hd] at z; rw [z]; exact gd_cb_any' _
      | branch h l r => have hv := hg.1; simp only [gd_vt] at hv; simp only [gd_hd] at z; omega
    refine gy_co_step (a := a) (b := gd_hd g) (by omega) (by omega) sa sb (by omega) (by omega) (fun z => ?_) (fun z => D ?_)
    · cases g with
      | leaf b =>
        simp only [gd_hd] at z
        subst z
        have c := C (gd_cb_refl _) N (by omega)
        simp only [gd_sz] at c
        exact c
      | branch h l r => have hv := hg.1; simp only [gd_vt] at hv; simp only [gd_hd] at z; omega
    · cases g with
      | leaf b => simp only [gd_hd] at z z3; simp [gd_cb, z2, z3, z]
      | branch h l r => simp [gd_cb, z2]
  | branch h l r ihl ihr =>
    intro hf g hg i j n sf sg hi hi7 hj7 C D N hN
    have zg0 := gd_sz_pos g
    have hv := hf.1
    simp only [gd_vt] at hv
    have hh := gd_h8 hv.1
    have zl := gd_sz_pos l
    have zr := gd_sz_pos r
    have zf := hf.2
    have ga := gd_hd_lt hg.1
    have sa : y_ty i = nI h := sf.1
    have sb := gd_sp_hd sg
    have hN0 := hN
    simp only [gd_sz] at hi hN zf
    obtain ⟨N, rfl⟩ : ∃ K, N = K + 1 := ⟨N - 1, by omega⟩
    refine br_f (nI_ge (by omega) (by omega)) (And.intro (vp_in_nI (by omega) (by decide)) ?_)
    rw [nI_clamp (show i < 2 ^ 31 by omega), sa]
    refine pk_eq h 2 (fun z => by omega) (fun z2 => And.intro (vp_in_nI (by omega) (by decide)) ?_)
    rw [nI_clamp (show j < 2 ^ 31 by omega), sb]
    refine pk_eq (gd_hd g) 2 (fun z => gy_co_skip hf hg sf sg hi7 hj7 (C ?_ N (by omega))) (fun z3 => ?_)
    · cases g with
      | leaf b => simp only [gd_hd] at z; rw [z]; exact gd_cb_any' _
      | branch h' l' r' => have hv' := hg.1; simp only [gd_vt] at hv'; simp only [gd_hd] at z; omega
    refine gy_co_step (a := h) (b := gd_hd g) (by omega) (by omega) sa sb (by omega) (by omega) (fun z => ?_) (fun z => D ?_)
    · cases g with
      | leaf b => have hv' := hg.1; simp only [gd_vt] at hv'; simp only [gd_hd] at z; omega
      | branch h' l' r' =>
        simp only [gd_hd] at z
        have zg := hg.2
        simp only [gd_sz] at C zg hj7
        have zl' := gd_sz_pos l'
        have zr' := gd_sz_pos r'
        refine ihl (gd_TY_l hf) l' (gd_TY_l hg) (i + 1) (j + 1) (n + gd_sz r) sf.2.1 sg.2.1 (by omega) (by omega) (by omega) ?_ ?_ N (by omega)
        · intro cl N' hN'
          refine ihr (gd_TY_r hf) r' (gd_TY_r hg) (i + 1 + gd_sz l) (j + 1 + gd_sz l') n sf.2.2 sg.2.2 (by omega) (by omega) (by omega) ?_ ?_ N' hN'
          · intro cr N'' hN''
            have c := C (by simp [gd_cb, z, cl, cr]) N'' hN''
            rw [show i + 1 + gd_sz l + gd_sz r = i + (1 + gd_sz l + gd_sz r) by omega, show j + 1 + gd_sz l' + gd_sz r' = j + (1 + gd_sz l' + gd_sz r') by omega]
            exact c
          · intro cr
            exact D (by simp [gd_cb, cr])
        · intro cl
          exact D (by simp [gd_cb, cl])
    · cases g with
      | leaf b => simp only [gd_hd] at z z3; simp [gd_cb, z3]
      | branch h' l' r' => simp only [gd_hd] at z; simp [gd_cb, z]
theorem gy_consistent {post : Int32 → Prop} {f g : Lean.RArray Nat} (hf : gd_TY f) (hg : gd_TY g) {i j : Nat} (sf : gd_Sp y_ty f i) (sg : gd_Sp y_ty g j) (hi : i + 7 ≤ 700) (hj : j + 7 ≤ 700) (P : gd_cb f g = true → post 1) (Q : gd_cb f g = false → post 0) : wpY_consistent post (y_parts, y_count, y_place, y_where, y_values, y_variables, y_waits, y_at, y_world, y_steps, y_blame, y_result, y_given, y_ty, y_part, y_kind, y_end, y_state, y_with, y_runKind, y_runEnd, y_runWith, y_sort, y_one, y_two, y_from, y_to, y_label, y_held, y_around, y_waiting, y_operand, y_outer, y_kept) (nI i) (nI j) := by
  have zf := hf.2
  have zg := hg.2
  refine gy_behind hf sf (by omega) ?_
  refine Exists.intro (1 + gd_sz f) ?_
  refine gy_co (E := i + gd_sz f) (by omega) f hf g hg i j 1 sf sg (by omega) (by omega) (by omega) ?_ Q _ (Nat.le_refl _)
  intro c N hN
  obtain ⟨N, rfl⟩ : ∃ K, N = K + 1 := ⟨N - 1, by omega⟩
  exact br_t (nI_le (by omega) (by omega)) (P c)
theorem gd_nb : ∀ k, k < 128 → vp_nar .byte (nI k) = nI k := by
  intro k hk
  rw [vp_nar_byte]
  revert k
  decide +kernel
/-- a copy: the target reads as the source did, the rest stays (the two don't meet) -/
theorem gy_copy_l {post : Int32 → SY → Prop} {o a n : Nat} (ho : o + n ≤ 700) (ha : a + n ≤ 700) (hd : o + n ≤ a ∨ a + n ≤ o) (r0 : Nat → Int32) (hb : ∀ k, k < n → vp_nar .byte (r0 (o + k)) = r0 (o + k))
    (P : ∀ r' : Nat → Int32, (∀ k, k < n → r' (a + k) = r0 (o + k)) → (∀ q, (q < a ∨ a + n ≤ q) → r' q = r0 q) → post (nI (a + n)) (y_parts, y_count, y_place, y_where, y_values, y_variables, y_waits, y_at, y_world, y_steps, y_blame, y_result, y_given, r', y_part, y_kind, y_end, y_state, y_with, y_runKind, y_runEnd, y_runWith, y_sort, y_one, y_two, y_from, y_to, y_label, y_held, y_around, y_waiting, y_operand, y_outer, y_kept)) :
    ∀ d k : Nat, k + d = n → ∀ r : Nat → Int32, (∀ q, q < k → r (a + q) = r0 (o + q)) → (∀ q, (q < a ∨ a + k ≤ q) → r q = r0 q) → wY_copy_11 post (nI o) (nI a) (nI n) y_parts y_count y_place y_where y_values y_variables y_waits y_at y_world y_steps y_blame y_result y_given (d + 1) (nI k) r y_part y_kind y_end y_state y_with y_runKind y_runEnd y_runWith y_sort y_one y_two y_from y_to y_label y_held y_around y_waiting y_operand y_outer y_kept := by
  intro d
  induction d with
  | zero =>
    intro k hk r h1 h2
    have e : k = n := by omega
    subst e
    refine br_t (Int32.le_refl _) ?_
    rw [nI_add]
    exact P r h1 h2
  | succ d ih =>
    intro k hk r h1 h2
    refine br_f (nI_ge (by omega) (by omega)) ?_
    rw [nI_add, nI_add]
    refine And.intro (vp_in_nI (by omega) (by decide)) (And.intro (vp_in_nI (by omega) (by decide)) ?_)
    rw [nI_clamp (show o + k < 2 ^ 31 by omega), nI_clamp (show a + k < 2 ^ 31 by omega)]
    have e1 : r (o + k) = r0 (o + k) := h2 _ (by omega)
    rw [e1, hb k (by omega)]
    refine nm_e (nm_r (nI_1 k) (ih (k + 1) (by omega) (upd r (a + k) (r0 (o + k))) ?_ ?_))
    · intro q hq
      by_cases e : q = k
      · subst e; exact pk_us
      · rw [pk_un (by omega)]; exact h1 q (by omega)
    · intro q hq
      rw [pk_un (by omega)]
      exact h2 q (by omega)
theorem gy_copy {post : Int32 → SY → Prop} {t : Lean.RArray Nat} (ht : gd_TY t) {o a : Nat} (sp : gd_Sp y_ty t o) (ho : o + 7 ≤ 700) (ha : a + 7 ≤ 700) (hd : o + gd_sz t ≤ a ∨ a + gd_sz t ≤ o) (hb : ∀ k, k < gd_sz t → vp_nar .byte (y_ty (o + k)) = y_ty (o + k))
    (P : ∀ r' : Nat → Int32, gd_Sp r' t a → (∀ q, (q < a ∨ a + gd_sz t ≤ q) → r' q = y_ty q) → post (nI (a + gd_sz t)) (y_parts, y_count, y_place, y_where, y_values, y_variables, y_waits, y_at, y_world, y_steps, y_blame, y_result, y_given, r', y_part, y_kind, y_end, y_state, y_with, y_runKind, y_runEnd, y_runWith, y_sort, y_one, y_two, y_from, y_to, y_label, y_held, y_around, y_waiting, y_operand, y_outer, y_kept)) : wpY_copy post (y_parts, y_count, y_place, y_where, y_values, y_variables, y_waits, y_at, y_world, y_steps, y_blame, y_result, y_given, y_ty, y_part, y_kind, y_end, y_state, y_with, y_runKind, y_runEnd, y_runWith, y_sort, y_one, y_two, y_from, y_to, y_label, y_held, y_around, y_waiting, y_operand, y_outer, y_kept) (nI o) (nI a) := by
  have z := ht.2
  refine gy_behind ht sp (by omega) ?_
  refine nm_r (e' := nI (gd_sz t)) ?_ ?_
  · rw [pk_sub (by omega)]
    exact congrArg nI (by omega)
  · refine Exists.intro (gd_sz t + 1) (gy_copy_l (by omega) (by omega) hd y_ty hb ?_ (gd_sz t) 0 (by omega) y_ty (fun q hq => absurd hq (Nat.not_lt_zero q)) (fun q _ => rfl))
    intro r' h1 h2
    exact P r' (gd_sp_cp t o a sp h1) h2
end
end
section
/-! ===== 05: terms in front notation: where they end, their operands, the LAMs around ===== -/
def gs_ar (k : Nat) : Nat := if k < 3 then 0 else if k = 5 then 3 else if k = 4 ∨ 5 < k ∧ k < 9 then 2 else 1
/-- how many terms are missing before token i -/
def gs_D (kd : Nat → Nat) : Nat → Nat
  | 0 => 1
  | i + 1 => gs_D kd i + gs_ar (kd i) - 1
def gs_WF (kd : Nat → Nat) (cnt : Nat) : Prop := (∀ i, i < cnt → 0 < gs_D kd i) ∧ gs_D kd cnt = 0
/-- the fault is at i -/
def gs_FA (kd : Nat → Nat) (cnt i : Nat) : Prop := (∀ j, j < i → 0 < gs_D kd j) ∧ (i < cnt ∧ gs_D kd i = 0 ∨ i = cnt ∧ 0 < gs_D kd cnt)
theorem gs_first (D : Nat → Nat) : ∀ n, (∀ i, i < n → 0 < D i) ∨ ∃ i, i < n ∧ D i = 0 ∧ ∀ j, j < i → 0 < D j := by
  intro n
  induction n with
  | zero => left; intro i hi; omega
  | succ n ih =>
    rcases ih with ih | ⟨i, h1, h2, h3⟩
    · by_cases e : D n = 0
      · right; exact ⟨n, by omega, e, ih⟩
      · left
        intro i hi
        by_cases c : i = n
        · subst c; omega
        · exact ih i (by omega)
    · right; exact ⟨i, by omega, h2, h3⟩
theorem gs_dec (kd : Nat → Nat) (cnt : Nat) : gs_WF kd cnt ∨ ∃ i, gs_FA kd cnt i := by
  rcases gs_first (gs_D kd) cnt with h | ⟨i, h1, h2, h3⟩
  · by_cases e : gs_D kd cnt = 0
    · left; exact ⟨h, e⟩
    · right; exact ⟨cnt, h, Or.inr ⟨rfl, by omega⟩⟩
  · right; exact ⟨i, h3, Or.inl ⟨h1, h2⟩⟩
def gs_fd (D : Nat → Nat) (x : Nat) : Nat → Nat → Nat
  | 0, j => j
  | n + 1, j => if D j + 1 = x then j else gs_fd D x n (j + 1)
/-- the end of the term that begins at i -/
def gs_en (kd : Nat → Nat) (cnt i : Nat) : Nat := gs_fd (gs_D kd) (gs_D kd i) (cnt - i) (i + 1)
def gs_op (en : Nat → Nat) (i : Nat) : Nat → Nat
  | 0 => i + 1
  | k + 1 => en (gs_op en i k)
def gs_EN (kd : Nat → Nat) (cnt i e : Nat) : Prop := i < e ∧ e ≤ cnt ∧ gs_D kd e + 1 = gs_D kd i ∧ ∀ x, i ≤ x → x < e → gs_D kd i ≤ gs_D kd x
theorem gs_fd_ok {kd : Nat → Nat} {cnt : Nat} (W : gs_WF kd cnt) {i : Nat} (hi : i < cnt) : ∀ n j, i < j → j ≤ cnt → j + n = cnt + 1 → (∀ x, i ≤ x → x < j → gs_D kd i ≤ gs_D kd x) → gs_EN kd cnt i (gs_fd (gs_D kd) (gs_D kd i) n j) := by
  intro n
  induction n with
  | zero => intro j h1 h2 h3 h4; omega
  | succ n ih =>
    intro j h1 h2 h3 h4
    simp only [gs_fd]
    by_cases e : gs_D kd j + 1 = gs_D kd i
    · rw [if_pos e]; exact ⟨h1, h2, e, h4⟩
    · rw [if_neg e]
      obtain ⟨j', rfl⟩ : ∃ k, j = k + 1 := ⟨j - 1, by omega⟩
      have a := h4 j' (by omega) (by omega)
      have b : gs_D kd (j' + 1) = gs_D kd j' + gs_ar (kd j') - 1 := rfl
      have c := W.1 i hi
      have d : gs_D kd i ≤ gs_D kd (j' + 1) := by omega
      have ne : j' + 1 ≠ cnt := by
        intro z
        rw [z, W.2] at d
        omega
      refine ih (j' + 1 + 1) (by omega) (by omega) (by omega) ?_
      intro x hx hx'
      by_cases c : x = j' + 1
      · rw [c]; exact d
      · exact h4 x hx (by omega)
theorem gs_en_ok {kd : Nat → Nat} {cnt : Nat} (W : gs_WF kd cnt) {i : Nat} (hi : i < cnt) : gs_EN kd cnt i (gs_en kd cnt i) := by
  refine gs_fd_ok W hi _ _ (by omega) (by omega) (by omega) ?_
  intro x hx hx'
  rw [show x = i by omega]
  exact Nat.le_refl _
theorem gs_EN_uniq {kd : Nat → Nat} {cnt i e e' : Nat} (h : gs_EN kd cnt i e) (h' : gs_EN kd cnt i e') : e = e' := by
  obtain ⟨a1, a2, a3, a4⟩ := h
  obtain ⟨b1, b2, b3, b4⟩ := h'
  rcases Nat.lt_trichotomy e e' with c | c | c
  · have := b4 e (by omega) c; omega
  · exact c
  · have := a4 e' (by omega) c; omega
theorem gs_op_ok {kd : Nat → Nat} {cnt : Nat} (W : gs_WF kd cnt) {i : Nat} (hi : i < cnt) : ∀ k, k ≤ gs_ar (kd i) → i < gs_op (gs_en kd cnt) i k ∧ gs_op (gs_en kd cnt) i k ≤ cnt ∧ gs_D kd (gs_op (gs_en kd cnt) i k) + k + 1 = gs_D kd i + gs_ar (kd i) ∧ ∀ x, i < x → x < gs_op (gs_en kd cnt) i k → gs_D kd (gs_op (gs_en kd cnt) i k) < gs_D kd x := by
  intro k
  have d0 := W.1 i hi
  induction k with
  | zero =>
    intro _
    simp only [gs_op]
    refine ⟨by omega, by omega, ?_, fun x hx hx' => by omega⟩
    show gs_D kd i + gs_ar (kd i) - 1 + 0 + 1 = _
    omega
  | succ k ih =>
    intro hk
    obtain ⟨a1, a2, a3, a4⟩ := ih (by omega)
    have ne : gs_op (gs_en kd cnt) i k ≠ cnt := by
      intro z
      rw [z, W.2] at a3
      omega
    obtain ⟨b1, b2, b3, b4⟩ := gs_en_ok W (show gs_op (gs_en kd cnt) i k < cnt by omega)
    simp only [gs_op]
    refine ⟨by omega, b2, by omega, ?_⟩
    intro x hx hx'
    by_cases c : x < gs_op (gs_en kd cnt) i k
    · have := a4 x hx c; omega
    · have := b4 x (by omega) hx'; omega
theorem gs_op_lt {kd : Nat → Nat} {cnt : Nat} (W : gs_WF kd cnt) {i : Nat} (hi : i < cnt) {k : Nat} (hk : k < gs_ar (kd i)) : i < gs_op (gs_en kd cnt) i k ∧ gs_op (gs_en kd cnt) i k < cnt := by
  obtain ⟨a1, a2, a3, a4⟩ := gs_op_ok W hi k (by omega)
  have d0 := W.1 i hi
  refine ⟨a1, ?_⟩
  have ne : gs_op (gs_en kd cnt) i k ≠ cnt := by
    intro z
    rw [z, W.2] at a3
    omega
  omega
theorem gs_op_end {kd : Nat → Nat} {cnt : Nat} (W : gs_WF kd cnt) {i : Nat} (hi : i < cnt) : gs_op (gs_en kd cnt) i (gs_ar (kd i)) = gs_en kd cnt i := by
  obtain ⟨a1, a2, a3, a4⟩ := gs_op_ok W hi _ (Nat.le_refl _)
  have d0 := W.1 i hi
  refine gs_EN_uniq (kd := kd) (cnt := cnt) (i := i) ⟨a1, a2, by omega, ?_⟩ (gs_en_ok W hi)
  intro x hx hx'
  by_cases c : x = i
  · rw [c]; exact Nat.le_refl _
  · have := a4 x (by omega) hx'; omega
/-- what begins within i's term ends within it -/
theorem gs_nest {kd : Nat → Nat} {cnt : Nat} (W : gs_WF kd cnt) {j i : Nat} (hj : j < cnt) (hi : i < cnt) (h1 : j ≤ i) (h2 : i < gs_en kd cnt j) : gs_en kd cnt i ≤ gs_en kd cnt j := by
  obtain ⟨a1, a2, a3, a4⟩ := gs_en_ok W hj
  obtain ⟨b1, b2, b3, b4⟩ := gs_en_ok W hi
  refine Nat.le_of_not_lt (fun z => ?_)
  have := b4 _ (Nat.le_of_lt h2) z
  have := a4 i h1 h2
  omega
/-- what begins between i and an operand of i ends before that operand -/
theorem gs_before {kd : Nat → Nat} {cnt : Nat} (W : gs_WF kd cnt) {i j k : Nat} (hi : i < cnt) (hk : k ≤ gs_ar (kd i)) (h1 : i < j) (h2 : j < gs_op (gs_en kd cnt) i k) : gs_en kd cnt j ≤ gs_op (gs_en kd cnt) i k := by
  obtain ⟨a1, a2, a3, a4⟩ := gs_op_ok W hi k hk
  obtain ⟨b1, b2, b3, b4⟩ := gs_en_ok W (show j < cnt by omega)
  refine Nat.le_of_not_lt (fun z => ?_)
  have := b4 _ (Nat.le_of_lt h2) z
  have := a4 j h1 h2
  omega
/-- what is within i is i or within an operand of i -/
theorem gs_in {kd : Nat → Nat} {cnt i j : Nat} (h1 : i < j) : ∀ k, k ≤ gs_ar (kd i) → j < gs_op (gs_en kd cnt) i k → ∃ m, m < k ∧ gs_op (gs_en kd cnt) i m ≤ j ∧ j < gs_en kd cnt (gs_op (gs_en kd cnt) i m) := by
  intro k
  induction k with
  | zero => intro _ h; simp only [gs_op] at h; omega
  | succ k ih =>
    intro hk h
    by_cases c : j < gs_op (gs_en kd cnt) i k
    · obtain ⟨m, x, y⟩ := ih (by omega) c
      exact ⟨m, by omega, y⟩
    · exact ⟨k, by omega, by omega, h⟩
/-- the values of the LAMs around i, the innermost first, that begin before j -/
def gs_col (kd vn en : Nat → Nat) (i : Nat) : Nat → List Nat
  | 0 => []
  | j + 1 => if kd j = 3 ∧ i < en j then vn j :: gs_col kd vn en i j else gs_col kd vn en i j
theorem gs_col_same {kd vn en : Nat → Nat} {i i' : Nat} : ∀ j, (∀ x, x < j → kd x = 3 → (i < en x ↔ i' < en x)) → gs_col kd vn en i j = gs_col kd vn en i' j := by
  intro j
  induction j with
  | zero => intro _; rfl
  | succ j ih =>
    intro h
    simp only [gs_col]
    rw [ih (fun x hx => h x (by omega))]
    by_cases c : kd j = 3
    · have := h j (by omega) c
      by_cases d : i < en j
      · rw [if_pos ⟨c, d⟩, if_pos ⟨c, this.mp d⟩]
      · rw [if_neg (fun z => d z.2), if_neg (fun z => d (this.mpr z.2))]
    · rw [if_neg (fun z => c z.1), if_neg (fun z => c z.1)]
theorem gs_col_skip {kd vn en : Nat → Nat} {i j : Nat} : ∀ n, (∀ x, j ≤ x → x < j + n → ¬ (kd x = 3 ∧ i < en x)) → gs_col kd vn en i (j + n) = gs_col kd vn en i j := by
  intro n
  induction n with
  | zero => intro _; rfl
  | succ n ih =>
    intro h
    rw [← Nat.add_assoc]
    simp only [gs_col]
    rw [if_neg (h (j + n) (by omega) (by omega))]
    exact ih (fun x hx hx' => h x hx (by omega))
/-- the LAMs around an operand -/
theorem gs_col_op {kd vn : Nat → Nat} {cnt : Nat} (W : gs_WF kd cnt) {i k : Nat} (hi : i < cnt) (hk : k < gs_ar (kd i)) : gs_col kd vn (gs_en kd cnt) (gs_op (gs_en kd cnt) i k) (gs_op (gs_en kd cnt) i k) = (if kd i = 3 then vn i :: gs_col kd vn (gs_en kd cnt) i i else gs_col kd vn (gs_en kd cnt) i i) := by
  obtain ⟨l1, l2⟩ := gs_op_lt W hi hk
  have e1 : gs_op (gs_en kd cnt) i k = (i + 1) + (gs_op (gs_en kd cnt) i k - (i + 1)) := by omega
  have s1 : gs_col kd vn (gs_en kd cnt) (gs_op (gs_en kd cnt) i k) (gs_op (gs_en kd cnt) i k) = gs_col kd vn (gs_en kd cnt) (gs_op (gs_en kd cnt) i k) (i + 1) := by
    have := gs_col_skip (kd := kd) (vn := vn) (en := gs_en kd cnt) (i := gs_op (gs_en kd cnt) i k) (j := i + 1) (gs_op (gs_en kd cnt) i k - (i + 1)) (fun x hx hx' z => by
      have := gs_before W hi (Nat.le_of_lt hk) (show i < x by omega) (by omega)
      omega)
    rw [← e1] at this
    exact this
  have in1 : gs_op (gs_en kd cnt) i k < gs_en kd cnt i := by
    rw [← gs_op_end W hi]
    obtain ⟨a1, a2, a3, a4⟩ := gs_op_ok W hi _ (Nat.le_refl _)
    obtain ⟨b1, b2, b3, b4⟩ := gs_op_ok W hi k (by omega)
    refine Nat.lt_of_not_le (fun z => ?_)
    by_cases c : gs_op (gs_en kd cnt) i (gs_ar (kd i)) = gs_op (gs_en kd cnt) i k
    · rw [c] at a3; omega
    · have := b4 _ a1 (by omega); omega
  have s2 : gs_col kd vn (gs_en kd cnt) (gs_op (gs_en kd cnt) i k) i = gs_col kd vn (gs_en kd cnt) i i := by
    refine gs_col_same i (fun x hx _ => ⟨fun z => by omega, fun z => ?_⟩)
    have := gs_nest W (show x < cnt by omega) hi (by omega) z
    omega
  rw [s1]
  simp only [gs_col]
  rw [s2]
  by_cases c : kd i = 3
  · rw [if_pos ⟨c, in1⟩, if_pos c]
  · rw [if_neg (fun z => c z.1), if_neg c]
end
section
/-! ===== 06: the types of a draft ===== -/
def gs_cmp (h : Nat) (a b : Lean.RArray Nat) : Nat × Lean.RArray Nat := if 1 + gd_sz a + gd_sz b ≤ 7 then (0, .branch h a b) else (3, .leaf 0)
def gs_var (nm : Nat → Lean.RArray Nat) (o : Option Nat) : Nat × Lean.RArray Nat :=
  match o with
  | none => (2, .leaf 0)
  | some n => (0, nm n)
/-- code (0 sound, 2 ill, 3 large) and type of a token of kind k with value v, operands of types t0 t1 t2, and l around it -/
def gs_typ (nm : Nat → Lean.RArray Nat) (k v : Nat) (l : List Nat) (t0 t1 t2 : Lean.RArray Nat) : Nat × Lean.RArray Nat :=
  if k = 0 then (0, .leaf 0) else if k = 1 then (0, .leaf 1)
  else if k = 2 then gs_var nm l[v]?
  else if k = 3 then gs_cmp 3 (nm v) t0
  else if k = 4 then (if gd_hd t0 = 2 then (0, .leaf 2) else if gd_hd t0 = 3 then (if gd_cb t1 (gd_lf t0) = true then 0 else 2, gd_rt t0) else (2, .leaf 0))
  else if k = 5 then (if gd_cb t0 (.leaf 1) = true ∧ gd_cb t2 t1 = true then 0 else 2, t1)
  else if k = 6 then (if gd_cb t0 (.leaf 0) = true ∧ gd_cb t1 (.leaf 0) = true then 0 else 2, .leaf 0)
  else if k = 7 then (if gd_cb t0 (.leaf 0) = true ∧ gd_cb t1 (.leaf 0) = true then 0 else 2, .leaf 1)
  else if k = 8 then gs_cmp 4 t0 t1
  else if k = 11 then (if gd_cb t0 (nm v) = true then 0 else 2, nm v)
  else if gd_hd t0 = 2 then (0, .leaf 2) else if gd_hd t0 = 4 then (0, if k = 9 then gd_lf t0 else gd_rt t0) else (2, .leaf 0)
def gs_snd (en : Nat → Nat) (r : Nat → Nat × Lean.RArray Nat) (i : Nat) : Nat → Bool
  | 0 => true
  | k + 1 => gs_snd en r i k && (r (gs_op en i k)).1 == 0
def gs_tk (en : Nat → Nat) (r : Nat → Nat × Lean.RArray Nat) (i n k : Nat) : Lean.RArray Nat := if k < n then (r (gs_op en i k)).2 else .leaf 0
def gs_node (kd vn : Nat → Nat) (nm : Nat → Lean.RArray Nat) (en : Nat → Nat) (r : Nat → Nat × Lean.RArray Nat) (i : Nat) : Nat × Lean.RArray Nat :=
  if gs_snd en r i (gs_ar (kd i)) = true then gs_typ nm (kd i) (vn i) (gs_col kd vn en i i) (gs_tk en r i (gs_ar (kd i)) 0) (gs_tk en r i (gs_ar (kd i)) 1) (gs_tk en r i (gs_ar (kd i)) 2) else (4, .leaf 0)
def gs_tb (kd vn : Nat → Nat) (nm : Nat → Lean.RArray Nat) (en : Nat → Nat) (cnt : Nat) : Nat → Nat → Nat × Lean.RArray Nat
  | 0 => fun _ => (4, .leaf 0)
  | n + 1 => fun i => if i + n + 1 = cnt then gs_node kd vn nm en (gs_tb kd vn nm en cnt n) i else gs_tb kd vn nm en cnt n i
def gs_rho (kd vn : Nat → Nat) (nm : Nat → Lean.RArray Nat) (cnt : Nat) : Nat → Nat × Lean.RArray Nat := gs_tb kd vn nm (gs_en kd cnt) cnt cnt
theorem gs_tb_st {kd vn : Nat → Nat} {nm : Nat → Lean.RArray Nat} {en : Nat → Nat} {cnt n i : Nat} (h : cnt ≤ i + n) : ∀ m, gs_tb kd vn nm en cnt (n + m) i = gs_tb kd vn nm en cnt n i := by
  intro m
  induction m with
  | zero => rfl
  | succ m ih =>
    rw [← ih]
    show (if i + (n + m) + 1 = cnt then _ else gs_tb kd vn nm en cnt (n + m) i) = _
    rw [if_neg (by omega)]
theorem gs_snd_c {en : Nat → Nat} {r r' : Nat → Nat × Lean.RArray Nat} {i : Nat} : ∀ k, (∀ m, m < k → r (gs_op en i m) = r' (gs_op en i m)) → gs_snd en r i k = gs_snd en r' i k := by
  intro k
  induction k with
  | zero => intro _; rfl
  | succ k ih =>
    intro h
    simp only [gs_snd]
    rw [ih (fun m hm => h m (by omega)), h k (by omega)]
theorem gs_snd_i {en : Nat → Nat} {r : Nat → Nat × Lean.RArray Nat} {i : Nat} : ∀ k, gs_snd en r i k = true ↔ ∀ m, m < k → (r (gs_op en i m)).1 = 0 := by
  intro k
  induction k with
  | zero => simp [gs_snd]
  | succ k ih =>
    simp only [gs_snd, Bool.and_eq_true, beq_iff_eq]
    rw [ih]
    refine ⟨fun h m hm => ?_, fun h => ⟨fun m hm => h m (by omega), h k (by omega)⟩⟩
    by_cases c : m = k
    · rw [c]; exact h.2
    · exact h.1 m (by omega)
theorem gs_tk_c {en : Nat → Nat} {r r' : Nat → Nat × Lean.RArray Nat} {i n : Nat} (h : ∀ m, m < n → r (gs_op en i m) = r' (gs_op en i m)) (k : Nat) : gs_tk en r i n k = gs_tk en r' i n k := by
  unfold gs_tk
  by_cases c : k < n
  · rw [if_pos c, if_pos c, h k c]
  · rw [if_neg c, if_neg c]
theorem gs_node_c {kd vn : Nat → Nat} {nm : Nat → Lean.RArray Nat} {en : Nat → Nat} {r r' : Nat → Nat × Lean.RArray Nat} {i : Nat} (h : ∀ m, m < gs_ar (kd i) → r (gs_op en i m) = r' (gs_op en i m)) : gs_node kd vn nm en r i = gs_node kd vn nm en r' i := by
  unfold gs_node
  rw [gs_snd_c _ h, gs_tk_c h 0, gs_tk_c h 1, gs_tk_c h 2]
theorem gs_rho_eq {kd vn : Nat → Nat} {nm : Nat → Lean.RArray Nat} {cnt : Nat} (W : gs_WF kd cnt) {i : Nat} (hi : i < cnt) : gs_rho kd vn nm cnt i = gs_node kd vn nm (gs_en kd cnt) (gs_rho kd vn nm cnt) i := by
  have st : ∀ j n, n ≤ cnt → cnt ≤ j + n → gs_rho kd vn nm cnt j = gs_tb kd vn nm (gs_en kd cnt) cnt n j := by
    intro j n hn h
    have := gs_tb_st (kd := kd) (vn := vn) (nm := nm) (en := gs_en kd cnt) h (cnt - n)
    rw [show n + (cnt - n) = cnt by omega] at this
    exact this
  rw [st i (cnt - 1 - i + 1) (by omega) (by omega)]
  show (if i + (cnt - 1 - i) + 1 = cnt then _ else _) = _
  rw [if_pos (by omega)]
  refine gs_node_c (fun m hm => ?_)
  have := gs_op_lt W hi hm
  exact (st _ _ (by omega) (by omega)).symm
theorem gs_code4 {kd vn : Nat → Nat} {nm : Nat → Lean.RArray Nat} {cnt : Nat} (W : gs_WF kd cnt) {i : Nat} (hi : i < cnt) (h : (gs_rho kd vn nm cnt i).1 ≠ 4) : (∀ m, m < gs_ar (kd i) → (gs_rho kd vn nm cnt (gs_op (gs_en kd cnt) i m)).1 = 0) ∧ gs_rho kd vn nm cnt i = gs_typ nm (kd i) (vn i) (gs_col kd vn (gs_en kd cnt) i i) (gs_tk (gs_en kd cnt) (gs_rho kd vn nm cnt) i (gs_ar (kd i)) 0) (gs_tk (gs_en kd cnt) (gs_rho kd vn nm cnt) i (gs_ar (kd i)) 1) (gs_tk (gs_en kd cnt) (gs_rho kd vn nm cnt) i (gs_ar (kd i)) 2) := by
  have e := gs_rho_eq (vn := vn) (nm := nm) W hi
  unfold gs_node at e
  by_cases c : gs_snd (gs_en kd cnt) (gs_rho kd vn nm cnt) i (gs_ar (kd i)) = true
  · rw [if_pos c] at e
    exact ⟨(gs_snd_i _).mp c, e⟩
  · rw [if_neg c] at e
    rw [e] at h
    exact absurd rfl h
theorem gs_snd_rho {kd vn : Nat → Nat} {nm : Nat → Lean.RArray Nat} {cnt : Nat} (W : gs_WF kd cnt) {i : Nat} (hi : i < cnt) (h : ∀ m, m < gs_ar (kd i) → (gs_rho kd vn nm cnt (gs_op (gs_en kd cnt) i m)).1 = 0) : gs_rho kd vn nm cnt i = gs_typ nm (kd i) (vn i) (gs_col kd vn (gs_en kd cnt) i i) (gs_tk (gs_en kd cnt) (gs_rho kd vn nm cnt) i (gs_ar (kd i)) 0) (gs_tk (gs_en kd cnt) (gs_rho kd vn nm cnt) i (gs_ar (kd i)) 1) (gs_tk (gs_en kd cnt) (gs_rho kd vn nm cnt) i (gs_ar (kd i)) 2) := by
  have e := gs_rho_eq (vn := vn) (nm := nm) W hi
  unfold gs_node at e
  rw [if_pos ((gs_snd_i _).mpr h)] at e
  exact e
/-- below what is sound or ill or large all is sound -/
theorem gs_desc {kd vn : Nat → Nat} {nm : Nat → Lean.RArray Nat} {cnt : Nat} (W : gs_WF kd cnt) : ∀ n i, i < cnt → cnt ≤ i + n → (gs_rho kd vn nm cnt i).1 ≠ 4 → ∀ j, i < j → j < gs_en kd cnt i → (gs_rho kd vn nm cnt j).1 = 0 := by
  intro n
  induction n with
  | zero => intro i h1 h2; omega
  | succ n ih =>
    intro i h1 h2 h3 j h4 h5
    obtain ⟨s, _⟩ := gs_code4 W h1 h3
    rw [← gs_op_end W h1] at h5
    obtain ⟨m, m1, m2, m3⟩ := gs_in h4 _ (Nat.le_refl _) h5
    have o := gs_op_lt W h1 m1
    have sm := s m m1
    by_cases c : gs_op (gs_en kd cnt) i m = j
    · rw [← c]; exact sm
    · exact ih _ o.2 (by omega) (by rw [sm]; decide) j (by omega) m3
/-- the first that is ill or large by ends is the first by place -/
theorem gs_small {kd vn : Nat → Nat} {nm : Nat → Lean.RArray Nat} {cnt : Nat} (W : gs_WF kd cnt) {i : Nat} (hi : i < cnt) (hc : (gs_rho kd vn nm cnt i).1 ≠ 0) (h : ∀ j, j < cnt → gs_en kd cnt j < gs_en kd cnt i → (gs_rho kd vn nm cnt j).1 = 0) : ∀ j, j < i → (gs_rho kd vn nm cnt j).1 = 0 ∨ (gs_rho kd vn nm cnt j).1 = 4 := by
  intro j hj
  have ei := gs_en_ok W hi
  by_cases c : (gs_rho kd vn nm cnt j).1 = 4
  · right; exact c
  · left
    by_cases d : gs_en kd cnt j ≤ i
    · exact h j (by omega) (by have := ei.1; omega)
    · exact absurd (gs_desc W cnt j (by omega) (by omega) c i hj (by omega)) hc
theorem gs_TY0 (n : Nat) (h : n < 3) : gd_TY (.leaf n) := ⟨h, by simp [gd_sz]⟩
theorem gs_lf_TY {t : Lean.RArray Nat} (h : gd_TY t) : gd_TY (gd_lf t) := by
  cases t with
  | leaf n => exact h
  | branch k l r => exact gd_TY_l h
theorem gs_rt_TY {t : Lean.RArray Nat} (h : gd_TY t) : gd_TY (gd_rt t) := by
  cases t with
  | leaf n => exact h
  | branch k l r => exact gd_TY_r h
theorem gs_cmp_TY {h : Nat} {a b : Lean.RArray Nat} (hh : h = 3 ∨ h = 4) (ha : gd_TY a) (hb : gd_TY b) : gd_TY (gs_cmp h a b).2 := by
  unfold gs_cmp
  by_cases c : 1 + gd_sz a + gd_sz b ≤ 7
  · rw [if_pos c]; exact ⟨⟨hh, ha.1, hb.1⟩, c⟩
  · rw [if_neg c]; exact gs_TY0 0 (by decide)
theorem gs_typ_TY {nm : Nat → Lean.RArray Nat} (hn : ∀ n, gd_TY (nm n)) {k v : Nat} {l : List Nat} {t0 t1 t2 : Lean.RArray Nat} (h0 : gd_TY t0) (h1 : gd_TY t1) : gd_TY (gs_typ nm k v l t0 t1 t2).2 := by
  have L0 := gs_TY0 0 (by decide)
  have L1 := gs_TY0 1 (by decide)
  have L2 := gs_TY0 2 (by decide)
  unfold gs_typ
  by_cases c : k = 0
  · rw [if_pos c]; exact L0
  rw [if_neg c]
  by_cases c : k = 1
  · rw [if_pos c]; exact L1
  rw [if_neg c]
  by_cases c : k = 2
  · rw [if_pos c]
    unfold gs_var
    split
    · exact L0
    · exact hn _
  rw [if_neg c]
  by_cases c : k = 3
  · rw [if_pos c]; exact gs_cmp_TY (Or.inl rfl) (hn _) h0
  rw [if_neg c]
  by_cases c : k = 4
  · rw [if_pos c]
    by_cases d : gd_hd t0 = 2
    · rw [if_pos d]; exact L2
    rw [if_neg d]
    by_cases d : gd_hd t0 = 3
    · rw [if_pos d]; exact gs_rt_TY h0
    · rw [if_neg d]; exact L0
  rw [if_neg c]
  by_cases c : k = 5
  · rw [if_pos c]; exact h1
  rw [if_neg c]
  by_cases c : k = 6
  · rw [if_pos c]; exact L0
  rw [if_neg c]
  by_cases c : k = 7
  · rw [if_pos c]; exact L1
  rw [if_neg c]
  by_cases c : k = 8
  · rw [if_pos c]; exact gs_cmp_TY (Or.inr rfl) h0 h1
  rw [if_neg c]
  by_cases c : k = 11
  · rw [if_pos c]; exact hn _
  rw [if_neg c]
  by_cases d : gd_hd t0 = 2
  · rw [if_pos d]; exact L2
  rw [if_neg d]
  by_cases d : gd_hd t0 = 4
  · rw [if_pos d]
    show gd_TY (if k = 9 then gd_lf t0 else gd_rt t0)
    split
    · exact gs_lf_TY h0
    · exact gs_rt_TY h0
  · rw [if_neg d]; exact L0
theorem gs_rho_TY {kd vn : Nat → Nat} {nm : Nat → Lean.RArray Nat} {cnt : Nat} (W : gs_WF kd cnt) (hn : ∀ n, gd_TY (nm n)) : ∀ n i, i < cnt → cnt ≤ i + n → gd_TY (gs_rho kd vn nm cnt i).2 := by
  intro n
  induction n with
  | zero => intro i h1 h2; omega
  | succ n ih =>
    intro i h1 h2
    rw [gs_rho_eq W h1]
    unfold gs_node
    have tk : ∀ k, gd_TY (gs_tk (gs_en kd cnt) (gs_rho kd vn nm cnt) i (gs_ar (kd i)) k) := by
      intro k
      unfold gs_tk
      by_cases c : k < gs_ar (kd i)
      · rw [if_pos c]
        have o := gs_op_lt W h1 c
        exact ih _ o.2 (by omega)
      · rw [if_neg c]; exact gs_TY0 0 (by decide)
    split
    · exact gs_typ_TY hn (tk 0) (tk 1)
    · exact gs_TY0 0 (by decide)
theorem gs_rTY {kd vn : Nat → Nat} {nm : Nat → Lean.RArray Nat} {cnt : Nat} (W : gs_WF kd cnt) (hn : ∀ n, gd_TY (nm n)) {i : Nat} (hi : i < cnt) : gd_TY (gs_rho kd vn nm cnt i).2 := gs_rho_TY W hn cnt i hi (by omega)
end
section
/-! ===== 07: the machine in between: an evaluator with checks; none means that a check fell ===== -/
abbrev gm_Cell : Type := Nat × Int32 × Nat × Nat × Lean.RArray Nat × Lean.RArray Nat × Int × Nat × Nat × Nat × Nat
/-- kind, int, a, b, from, own type, label, chain counts of levels 1 2 3, rank -/
def gm_ck (c : gm_Cell) : Nat := c.1
def gm_ci (c : gm_Cell) : Int32 := c.2.1
def gm_ca (c : gm_Cell) : Nat := c.2.2.1
def gm_cb (c : gm_Cell) : Nat := c.2.2.2.1
def gm_cf (c : gm_Cell) : Lean.RArray Nat := c.2.2.2.2.1
def gm_ct (c : gm_Cell) : Lean.RArray Nat := c.2.2.2.2.2.1
def gm_cp (c : gm_Cell) : Int := c.2.2.2.2.2.2.1
def gm_q1 (c : gm_Cell) : Nat := c.2.2.2.2.2.2.2.1
def gm_q2 (c : gm_Cell) : Nat := c.2.2.2.2.2.2.2.2.1
def gm_q3 (c : gm_Cell) : Nat := c.2.2.2.2.2.2.2.2.2.1
def gm_rk (c : gm_Cell) : Nat := c.2.2.2.2.2.2.2.2.2.2
/-- cells, their number, scopes, their number (0 is the empty one), steps, turns -/
abbrev gm_S : Type := Nat × (Nat → gm_Cell) × Nat × (Nat → Nat × Nat) × Nat × Nat
def gm_n (s : gm_S) : Nat := s.1
def gm_h (s : gm_S) : Nat → gm_Cell := s.2.1
def gm_m (s : gm_S) : Nat := s.2.2.1
def gm_e (s : gm_S) : Nat → Nat × Nat := s.2.2.2.1
def gm_T (s : gm_S) : Nat := s.2.2.2.2.1
def gm_u (s : gm_S) : Nat := s.2.2.2.2.2
/-- 0 a value, 4 blame with its label, 5 long -/
abbrev gm_O : Type := Nat × Nat × Int × gm_S
def gm_bd (o : Option gm_O) (k : Nat → gm_S → Option gm_O) : Option gm_O :=
  match o with
  | none => none
  | some (0, v, _, s) => k v s
  | some (c + 1, v, p, s) => some (c + 1, v, p, s)
def gm_tk (s : gm_S) : gm_S := (s.1, s.2.1, s.2.2.1, s.2.2.2.1, s.2.2.2.2.1, s.2.2.2.2.2 + 1)
def gm_st (s : gm_S) : gm_S := (s.1, s.2.1, s.2.2.1, s.2.2.2.1, s.2.2.2.2.1 + 1, s.2.2.2.2.2)
def gm_tick (s : gm_S) (h : Nat) (k : gm_S → Option gm_O) : Option gm_O :=
  if gm_u s < 1000000 ∧ gm_n s ≤ 5000 ∧ gm_m s < 64 ∧ h < 32767 then k (gm_tk s) else none
def gm_push (s : gm_S) (c : gm_Cell) : gm_S := (s.1 + 1, (fun j => if j = s.1 then c else s.2.1 j), s.2.2.1, s.2.2.2.1, s.2.2.2.2.1, s.2.2.2.2.2)
def gm_new (s : gm_S) (c : gm_Cell) (add : Nat) : Option gm_O :=
  if gm_n s < 5000 then some (0, 8 * gm_n s + add, 0, gm_push s c) else none
def gm_vtb : Lean.RArray Nat → Bool
  | .leaf n => decide (n < 3)
  | .branch h l r => (h == 3 || h == 4) && gm_vtb l && gm_vtb r
def gm_tyb (t : Lean.RArray Nat) : Bool := gm_vtb t && decide (gd_sz t ≤ 7)
def gm_tag (t : Lean.RArray Nat) : Nat := if gd_hd t < 2 then 1 + gd_hd t else gd_hd t
def gm_sh (k : Nat) : Nat := if k < 3 then k else if k < 5 then 3 else 4
def gm_lv (f t : Lean.RArray Nat) : Nat := gd_mx (gd_dp f) (gd_dp t)
def gm_ind (a b : Nat) : Nat := if a ≤ b then 1 else 0
/-- a cast cell around the value v -/
def gm_cc (s : gm_S) (v : Nat) (f t : Lean.RArray Nat) (p : Int) : gm_Cell :=
  (if gd_hd f = 3 then 4 else 6, 0, v, 0, f, t, p, 1 + gm_q1 (gm_h s (v / 8)), gm_ind 2 (gm_lv f t) + gm_q2 (gm_h s (v / 8)), gm_ind 3 (gm_lv f t) + gm_q3 (gm_h s (v / 8)), gm_rk (gm_h s (v / 8)))
def gm_wr (s : gm_S) (v : Nat) (f t : Lean.RArray Nat) (p : Int) (add : Nat) : Option gm_O :=
  if gd_en f = gd_en t then some (0, v + add, 0, s)
  else if (gd_hd f = 3 ∨ gd_hd f = 4) ∧ gd_hd t = gd_hd f then gm_new s (gm_cc s v f t p) add else none
/-- what a cast looks at: the cell is there, its shape is the type's, a tag stands on what is of type ANY alone -/
def gm_wk (s : gm_S) (v : Nat) (f : Lean.RArray Nat) : Prop :=
  v / 8 < gm_n s ∧ (gd_hd f = 2 → v % 8 = gm_sh (gm_ck (gm_h s (v / 8)))) ∧ (gd_hd f ≠ 2 → v % 8 = 0 ∧ gm_sh (gm_ck (gm_h s (v / 8))) = gm_tag f)
def gm_wkb (s : gm_S) (v : Nat) (f : Lean.RArray Nat) : Bool :=
  decide (v / 8 < gm_n s) && (if gd_hd f = 2 then v % 8 == gm_sh (gm_ck (gm_h s (v / 8))) else (v % 8 == 0 && gm_sh (gm_ck (gm_h s (v / 8))) == gm_tag f))
def gm_cast (s : gm_S) (v : Nat) (f t : Lean.RArray Nat) (p : Int) : Option gm_O :=
  if (gm_wkb s v f && gm_tyb f && gm_tyb t) = true then
    (if gd_en f = gd_en t then some (0, v, 0, s)
    else if gd_hd t = 2 then gm_wr s v f (gd_G f) p (gm_tag f)
    else if gd_hd f = 2 then (if v % 8 = gm_tag t then gm_wr s (v - gm_tag t) (gd_G t) t p 0 else some (4, v, p, s))
    else gm_wr s v f t p 0)
  else none
/-- the cast of a frame: none where the types are alike -/
def gm_fc (s : gm_S) (h v : Nat) (f t : Lean.RArray Nat) (p : Int) : Option gm_O :=
  if gd_en f = gd_en t then some (0, v, 0, s) else gm_tick s h (fun s => gm_cast s v f t p)
/-- the program: kind, value, operand, type, target; its length -/
abbrev gm_P : Type := (Nat → Nat) × (Nat → Int32) × (Nat → Nat → Nat) × (Nat → Lean.RArray Nat) × (Nat → Nat → Lean.RArray Nat) × Nat
def gm_kd (P : gm_P) : Nat → Nat := P.1
def gm_vl (P : gm_P) : Nat → Int32 := P.2.1
def gm_op (P : gm_P) : Nat → Nat → Nat := P.2.2.1
def gm_ty (P : gm_P) : Nat → Lean.RArray Nat := P.2.2.2.1
def gm_tg (P : gm_P) : Nat → Nat → Lean.RArray Nat := P.2.2.2.2.1
def gm_cn (P : gm_P) : Nat := P.2.2.2.2.2
def gm_var (s : gm_S) : Nat → Nat → Option Nat
  | 0, w => if 0 < w ∧ w < gm_m s then some (gm_e s w).1 else none
  | n + 1, w => if 0 < w ∧ w < gm_m s then gm_var s n (gm_e s w).2 else none
def gm_opr (P : gm_P) (f : Nat → Nat → Nat → gm_S → Option gm_O) (h i k w : Nat) (s : gm_S) : Option gm_O :=
  gm_bd (f (h + 2) (gm_op P i k) w s) (fun v s => gm_bd (gm_fc s (h + 2) v (gm_ty P (gm_op P i k)) (gm_tg P i k) (3 * i + k + 1)) (fun v s => gm_tick s (h + 1) (fun s => some (0, v, 0, s))))
def gm_take (side : Nat) : Nat → Nat → Nat → gm_S → Option gm_O
  | 0, h, v, s => gm_tick s h (fun s =>
      if v / 8 < gm_n s ∧ gm_ck (gm_h s (v / 8)) = 5 then some (0, if side = 0 then gm_ca (gm_h s (v / 8)) else gm_cb (gm_h s (v / 8)), 0, s) else none)
  | n + 1, h, v, s => gm_tick s h (fun s =>
      if v / 8 < gm_n s ∧ gm_ck (gm_h s (v / 8)) = 6 then
        gm_bd (gm_take side n (h + 1) (gm_ca (gm_h s (v / 8))) s) (fun u s' =>
          gm_fc s' (h + 1) u (if side = 0 then gd_lf (gm_cf (gm_h s (v / 8))) else gd_rt (gm_cf (gm_h s (v / 8)))) (if side = 0 then gd_lf (gm_ct (gm_h s (v / 8))) else gd_rt (gm_ct (gm_h s (v / 8)))) (gm_cp (gm_h s (v / 8))))
      else none)
def gm_scope (s : gm_S) (a b : Nat) : gm_S :=
  (s.1, s.2.1, s.2.2.1 + 1, (fun j => if j = s.2.2.1 then (a, b) else s.2.2.2.1 j), s.2.2.2.2.1, s.2.2.2.2.2)
def gm_call (f : Nat → Nat → Nat → gm_S → Option gm_O) : Nat → Nat → Nat → Nat → gm_S → Option gm_O
  | 0, h, g, a, s => gm_tick s h (fun s =>
      if g / 8 < gm_n s ∧ gm_ck (gm_h s (g / 8)) = 3 then f h (gm_ca (gm_h s (g / 8)) + 1) (gm_m s) (gm_scope s a (gm_cb (gm_h s (g / 8)))) else none)
  | n + 1, h, g, a, s => gm_tick s h (fun s =>
      if g / 8 < gm_n s ∧ gm_ck (gm_h s (g / 8)) = 4 then
        gm_bd (gm_cast s a (gd_lf (gm_ct (gm_h s (g / 8)))) (gd_lf (gm_cf (gm_h s (g / 8)))) (- gm_cp (gm_h s (g / 8)))) (fun a' s' =>
          gm_bd (gm_call f n (h + 1) (gm_ca (gm_h s (g / 8))) a' s') (fun u s'' =>
            gm_fc s'' (h + 1) u (gd_rt (gm_cf (gm_h s (g / 8)))) (gd_rt (gm_ct (gm_h s (g / 8)))) (gm_cp (gm_h s (g / 8)))))
      else none)
def gm_num (s : gm_S) (v : Nat) (k : Int32 → Option gm_O) : Option gm_O :=
  if v / 8 < gm_n s ∧ gm_ck (gm_h s (v / 8)) < 3 then k (gm_ci (gm_h s (v / 8))) else none
/-- behind the first operand -/
def gm_rest (P : gm_P) (f : Nat → Nat → Nat → gm_S → Option gm_O) (h i w v : Nat) (s : gm_S) : Option gm_O :=
  if gm_kd P i = 9 ∨ gm_kd P i = 10 then gm_take (gm_kd P i - 9) (gm_q1 (gm_h s (v / 8))) h v s
  else if gm_kd P i = 5 then gm_num s v (fun x => gm_opr P f h i (if x = 0 then 2 else 1) w s)
  else if gm_kd P i = 11 then some (0, v, 0, s)
  else gm_bd (gm_opr P f h i 1 w s) (fun v' s =>
    if gm_kd P i = 4 then (if gm_q1 (gm_h s (v / 8)) < 5000 then gm_call f (gm_q1 (gm_h s (v / 8))) h v v' s else none)
    else if gm_kd P i = 6 then gm_num s v (fun x => gm_num s v' (fun y => gm_new s (1, x + y, 0, 0, .leaf 0, .leaf 0, 0, 0, 0, 0, 0) 0))
    else if gm_kd P i = 7 then gm_num s v (fun x => gm_num s v' (fun y => gm_new s (2, if x < y then 1 else 0, 0, 0, .leaf 1, .leaf 1, 0, 0, 0, 0, 0) 0))
    else if gm_kd P i = 8 then (if v / 8 < gm_n s ∧ v' / 8 < gm_n s then gm_new s (5, 0, v, v', gm_ty P i, gm_ty P i, 0, 0, 0, 0, 1 + gd_mx (gm_rk (gm_h s (v / 8))) (gm_rk (gm_h s (v' / 8)))) 0 else none)
    else none)
def gm_ev (P : gm_P) : Nat → Nat → Nat → Nat → gm_S → Option gm_O
  | 0, _, _, _, _ => none
  | d + 1, h, i, w, s => if i < gm_cn P then gm_tick s h (fun s =>
      if 40 ≤ gm_T s then some (5, 0, 0, s) else
        (fun s : gm_S =>
          if gm_kd P i = 0 then gm_new s (1, gm_vl P i, 0, 0, .leaf 0, .leaf 0, 0, 0, 0, 0, 0) 0
          else if gm_kd P i = 1 then gm_new s (2, gm_vl P i, 0, 0, .leaf 1, .leaf 1, 0, 0, 0, 0, 0) 0
          else if gm_kd P i = 2 then (match gm_var s (gm_vl P i).toNatClampNeg w with | none => none | some v => some (0, v, 0, s))
          else if gm_kd P i = 3 then gm_new s (3, 0, i, w, gm_ty P i, gm_ty P i, 0, 0, 0, 0, 0) 0
          else gm_bd (gm_opr P (gm_ev P d) h i 0 w s) (fun v s => gm_rest P (gm_ev P d) h i w v s))
        (gm_st s)) else none
end
section
/-! ===== 08: the checks never fall: typing and bounds ===== -/
def gm_ok (o : Option gm_O) (Q : Nat → gm_S → Prop) : Prop :=
  match o with
  | none => False
  | some (0, v, _, s) => Q v s
  | some (_ + 1, _, _, _) => True
theorem gm_ok_bd {o : Option gm_O} {k : Nat → gm_S → Option gm_O} {Q' Q : Nat → gm_S → Prop} (h : gm_ok o Q') (hk : ∀ v s, Q' v s → gm_ok (k v s) Q) : gm_ok (gm_bd o k) Q := by
  match o, h with
  | some (0, v, _, s), h => exact hk v s h
  | some (_ + 1, _, _, _), _ => exact trivial
theorem gm_ok_mono {o : Option gm_O} {Q' Q : Nat → gm_S → Prop} (h : gm_ok o Q') (hk : ∀ v s, Q' v s → Q v s) : gm_ok o Q := by
  match o, h with
  | some (0, v, _, s), h => exact hk v s h
  | some (_ + 1, _, _, _), _ => exact trivial
theorem gm_ok_tick {s : gm_S} {h : Nat} {k : gm_S → Option gm_O} {Q : Nat → gm_S → Prop} (r : gm_u s < 1000000 ∧ gm_n s ≤ 5000 ∧ gm_m s < 64 ∧ h < 32767) (hk : gm_ok (k (gm_tk s)) Q) : gm_ok (gm_tick s h k) Q := by
  unfold gm_tick
  rw [if_pos r]
  exact hk
theorem gm_ok_new {s : gm_S} {c : gm_Cell} {add : Nat} {Q : Nat → gm_S → Prop} (r : gm_n s < 5000) (hk : Q (8 * gm_n s + add) (gm_push s c)) : gm_ok (gm_new s c add) Q := by
  unfold gm_new
  rw [if_pos r]
  exact hk
/-- s' goes on from s -/
def gm_le (s s' : gm_S) : Prop := gm_n s ≤ gm_n s' ∧ (∀ c, c < gm_n s → gm_h s' c = gm_h s c) ∧ gm_m s ≤ gm_m s' ∧ (∀ w, w < gm_m s → gm_e s' w = gm_e s w)
theorem gm_le_refl (s : gm_S) : gm_le s s := ⟨Nat.le_refl _, fun _ _ => rfl, Nat.le_refl _, fun _ _ => rfl⟩
theorem gm_le_trans {a b c : gm_S} (h : gm_le a b) (g : gm_le b c) : gm_le a c :=
  ⟨Nat.le_trans h.1 g.1, fun x hx => (g.2.1 x (Nat.lt_of_lt_of_le hx h.1)).trans (h.2.1 x hx), Nat.le_trans h.2.2.1 g.2.2.1, fun x hx => (g.2.2.2 x (Nat.lt_of_lt_of_le hx h.2.2.1)).trans (h.2.2.2 x hx)⟩
theorem gm_le_tk (s : gm_S) : gm_le s (gm_tk s) := gm_le_refl s
theorem gm_le_st (s : gm_S) : gm_le s (gm_st s) := gm_le_refl s
theorem gm_push_old (s : gm_S) (c : gm_Cell) {j : Nat} (h : j < gm_n s) : gm_h (gm_push s c) j = gm_h s j := if_neg (Nat.ne_of_lt h)
theorem gm_push_new (s : gm_S) (c : gm_Cell) : gm_h (gm_push s c) (gm_n s) = c := if_pos rfl
theorem gm_push_n (s : gm_S) (c : gm_Cell) : gm_n (gm_push s c) = gm_n s + 1 := rfl
theorem gm_le_push (s : gm_S) (c : gm_Cell) : gm_le s (gm_push s c) := ⟨Nat.le_succ _, fun _ h => gm_push_old s c h, Nat.le_refl _, fun _ _ => rfl⟩
theorem gm_le_scope (s : gm_S) (a b : Nat) : gm_le s (gm_scope s a b) := ⟨Nat.le_refl _, fun _ _ => rfl, Nat.le_succ _, fun _ h => if_neg (Nat.ne_of_lt h)⟩
/-- the value v is of type t -/
def gm_VT (s : gm_S) (v : Nat) (t : Lean.RArray Nat) : Prop :=
  v / 8 < gm_n s ∧ (gd_hd t = 2 → v % 8 = gm_tag (gm_ct (gm_h s (v / 8))) ∧ gd_G (gm_ct (gm_h s (v / 8))) = gm_ct (gm_h s (v / 8)) ∧ gd_hd (gm_ct (gm_h s (v / 8))) ≠ 2) ∧ (gd_hd t ≠ 2 → v % 8 = 0 ∧ gm_ct (gm_h s (v / 8)) = t)
def gm_WT (s : gm_S) : Nat → List (Lean.RArray Nat) → Prop
  | _, [] => True
  | w, t :: l => 0 < w ∧ w < gm_m s ∧ gm_VT s (gm_e s w).1 t ∧ gm_WT s (gm_e s w).2 l
theorem gm_VT_mono {s s' : gm_S} (h : gm_le s s') {v : Nat} {t : Lean.RArray Nat} (H : gm_VT s v t) : gm_VT s' v t := by
  unfold gm_VT at H ⊢
  rw [h.2.1 _ H.1]
  exact ⟨Nat.lt_of_lt_of_le H.1 h.1, H.2⟩
theorem gm_WT_mono {s s' : gm_S} (h : gm_le s s') : ∀ (l : List (Lean.RArray Nat)) (w : Nat), gm_WT s w l → gm_WT s' w l
  | [], _, _ => trivial
  | t :: l, w, H => by
    simp only [gm_WT] at H ⊢
    rw [h.2.2.2 _ H.2.1]
    exact ⟨H.1, Nat.lt_of_lt_of_le H.2.1 h.2.2.1, gm_VT_mono h H.2.2.1, gm_WT_mono h l _ H.2.2.2⟩
/-- a cell that is no cast: its chains are empty -/
def gm_Q0 (c : gm_Cell) : Prop := gm_q1 c = 0 ∧ gm_q2 c = 0 ∧ gm_q3 c = 0
/-- what is known of the program -/
def gm_SF (P : gm_P) (cnt : Nat) (G : Nat → List (Lean.RArray Nat)) : Prop :=
  ∀ i, i < cnt → gd_TY (gm_ty P i) ∧
    (gm_kd P i = 0 → gm_ty P i = .leaf 0) ∧ (gm_kd P i = 1 → gm_ty P i = .leaf 1) ∧
    (gm_kd P i = 2 → (G i)[(gm_vl P i).toNatClampNeg]? = some (gm_ty P i)) ∧
    (gm_kd P i = 3 → i + 1 < cnt ∧ ∃ t, gm_ty P i = .branch 3 t (gm_ty P (i + 1)) ∧ G (i + 1) = t :: G i) ∧
    (4 ≤ gm_kd P i → gm_kd P i ≤ 11 ∧ (∀ k, (k = 0 ∨ k = 1 ∧ gm_kd P i < 9 ∨ k = 2 ∧ gm_kd P i = 5) → gm_op P i k < cnt ∧ G (gm_op P i k) = G i ∧ gd_TY (gm_tg P i k) ∧ gd_cb (gm_ty P (gm_op P i k)) (gm_tg P i k) = true)) ∧
    (gm_kd P i = 4 → ∃ a b, gm_tg P i 0 = .branch 3 a b ∧ gm_tg P i 1 = a ∧ gm_ty P i = b ∧ (gm_ty P (gm_op P i 0) = .branch 3 a b ∨ gm_ty P (gm_op P i 0) = .leaf 2 ∧ a = .leaf 2 ∧ b = .leaf 2)) ∧
    (gm_kd P i = 5 → gm_tg P i 0 = .leaf 1 ∧ gm_tg P i 1 = gm_ty P i ∧ gm_tg P i 2 = gm_ty P i) ∧
    (gm_kd P i = 6 → gm_tg P i 0 = .leaf 0 ∧ gm_tg P i 1 = .leaf 0 ∧ gm_ty P i = .leaf 0) ∧
    (gm_kd P i = 7 → gm_tg P i 0 = .leaf 0 ∧ gm_tg P i 1 = .leaf 0 ∧ gm_ty P i = .leaf 1) ∧
    (gm_kd P i = 8 → gm_tg P i 0 = gm_ty P (gm_op P i 0) ∧ gm_tg P i 1 = gm_ty P (gm_op P i 1) ∧ gm_ty P i = .branch 4 (gm_ty P (gm_op P i 0)) (gm_ty P (gm_op P i 1))) ∧
    (gm_kd P i = 9 ∨ gm_kd P i = 10 → ∃ a b, gm_tg P i 0 = .branch 4 a b ∧ gm_ty P i = (if gm_kd P i = 9 then a else b) ∧ (gm_ty P (gm_op P i 0) = .branch 4 a b ∨ gm_ty P (gm_op P i 0) = .leaf 2 ∧ a = .leaf 2 ∧ b = .leaf 2)) ∧
    (gm_kd P i = 11 → gm_tg P i 0 = gm_ty P i)
/-- a good cell -/
def gm_CO (P : gm_P) (cnt : Nat) (G : Nat → List (Lean.RArray Nat)) (s : gm_S) (c : gm_Cell) : Prop :=
  (gm_ck c = 1 ∧ gm_ct c = .leaf 0 ∧ gm_Q0 c) ∨ (gm_ck c = 2 ∧ gm_ct c = .leaf 1 ∧ gm_Q0 c) ∨
  (gm_ck c = 3 ∧ gm_ca c < cnt ∧ gm_kd P (gm_ca c) = 3 ∧ gm_ct c = gm_ty P (gm_ca c) ∧ gm_WT s (gm_cb c) (G (gm_ca c)) ∧ gm_Q0 c) ∨
  (gm_ck c = 5 ∧ gm_Q0 c ∧ ∃ a b, gm_ct c = .branch 4 a b ∧ gd_TY a ∧ gd_TY b ∧ gm_VT s (gm_ca c) a ∧ gm_VT s (gm_cb c) b ∧ gm_rk (gm_h s (gm_ca c / 8)) < gm_rk c ∧ gm_rk (gm_h s (gm_cb c / 8)) < gm_rk c) ∨
  (∃ h a b a' b', (gm_ck c = 4 ∧ h = 3 ∨ gm_ck c = 6 ∧ h = 4) ∧ gm_cf c = .branch h a b ∧ gm_ct c = .branch h a' b' ∧ gd_TY (gm_cf c) ∧ gd_TY (gm_ct c) ∧ gd_cb a a' = true ∧ gd_cb b b' = true ∧ gm_VT s (gm_ca c) (gm_cf c) ∧
    gm_q1 c = 1 + gm_q1 (gm_h s (gm_ca c / 8)) ∧ gm_q2 c = gm_ind 2 (gm_lv (gm_cf c) (gm_ct c)) + gm_q2 (gm_h s (gm_ca c / 8)) ∧ gm_q3 c = gm_ind 3 (gm_lv (gm_cf c) (gm_ct c)) + gm_q3 (gm_h s (gm_ca c / 8)) ∧ gm_rk c = gm_rk (gm_h s (gm_ca c / 8)))
theorem gm_CO_mono {P : gm_P} {cnt : Nat} {G : Nat → List (Lean.RArray Nat)} {s s' : gm_S} (h : gm_le s s') {c : gm_Cell} (H : gm_CO P cnt G s c) : gm_CO P cnt G s' c := by
  unfold gm_CO at H ⊢
  rcases H with H | H | H | H | H
  · exact Or.inl H
  · exact Or.inr (Or.inl H)
  · exact Or.inr (Or.inr (Or.inl ⟨H.1, H.2.1, H.2.2.1, H.2.2.2.1, gm_WT_mono h _ _ H.2.2.2.2.1, H.2.2.2.2.2⟩))
  · obtain ⟨k, q, a, b, e1, ta, tb, va, vb, r1, r2⟩ := H
    refine Or.inr (Or.inr (Or.inr (Or.inl ⟨k, q, a, b, e1, ta, tb, gm_VT_mono h va, gm_VT_mono h vb, ?_, ?_⟩)))
    · rw [h.2.1 _ va.1]; exact r1
    · rw [h.2.1 _ vb.1]; exact r2
  · obtain ⟨k, a, b, a', b', hk, e1, e2, t1, t2, c1, c2, va, r⟩ := H
    refine Or.inr (Or.inr (Or.inr (Or.inr ⟨k, a, b, a', b', hk, e1, e2, t1, t2, c1, c2, gm_VT_mono h va, ?_⟩)))
    rw [h.2.1 _ va.1]
    exact r
def gm_IN (P : gm_P) (cnt : Nat) (G : Nat → List (Lean.RArray Nat)) (s : gm_S) : Prop := ∀ c, c < gm_n s → gm_CO P cnt G s (gm_h s c)
theorem gm_IN_push {P : gm_P} {cnt : Nat} {G : Nat → List (Lean.RArray Nat)} {s : gm_S} (H : gm_IN P cnt G s) {c : gm_Cell} (hc : gm_CO P cnt G s c) : gm_IN P cnt G (gm_push s c) := by
  intro j hj
  have hj' : j < gm_n s + 1 := hj
  by_cases e : j = gm_n s
  · subst e
    rw [gm_push_new]
    exact gm_CO_mono (gm_le_push s c) hc
  · have lt : j < gm_n s := by omega
    rw [gm_push_old s c lt]
    exact gm_CO_mono (gm_le_push s c) (H j lt)
theorem gm_IN_le {P : gm_P} {cnt : Nat} {G : Nat → List (Lean.RArray Nat)} {s s' : gm_S} (H : gm_IN P cnt G s) (h : gm_le s s') (e : gm_n s' = gm_n s) : gm_IN P cnt G s' := by
  intro j hj
  rw [e] at hj
  rw [h.2.1 j hj]
  exact gm_CO_mono h (H j hj)
theorem gm_vtb_i : ∀ t : Lean.RArray Nat, gm_vtb t = true ↔ gd_vt t := by
  intro t
  induction t with
  | leaf n => simp [gm_vtb, gd_vt]
  | branch h l r ihl ihr => simp [gm_vtb, gd_vt, ihl, ihr, and_assoc]
theorem gm_tyb_i (t : Lean.RArray Nat) : gm_tyb t = true ↔ gd_TY t := by
  unfold gm_tyb gd_TY
  rw [Bool.and_eq_true, gm_vtb_i, decide_eq_true_iff]
theorem gm_wkb_i (s : gm_S) (v : Nat) (f : Lean.RArray Nat) : gm_wkb s v f = true ↔ gm_wk s v f := by
  unfold gm_wkb gm_wk
  by_cases h : gd_hd f = 2
  · simp [h]
  · simp [h]
theorem gm_leaf_of {t : Lean.RArray Nat} (h : gd_vt t) (h3 : gd_hd t < 3) : t = .leaf (gd_hd t) := by
  cases t with
  | leaf n => rfl
  | branch k l r => simp only [gd_vt] at h; simp only [gd_hd] at h3; omega
theorem gm_br_of {t : Lean.RArray Nat} (h3 : 3 ≤ gd_hd t) (h : gd_vt t) : ∃ l r, t = .branch (gd_hd t) l r ∧ (gd_hd t = 3 ∨ gd_hd t = 4) := by
  cases t with
  | leaf n => simp only [gd_vt] at h; simp only [gd_hd] at h3; omega
  | branch k l r => simp only [gd_vt] at h; exact ⟨l, r, rfl, h.1⟩
theorem gm_G_hd {t : Lean.RArray Nat} : gd_hd (gd_G t) = gd_hd t := by
  unfold gd_G
  by_cases a : gd_hd t = 3
  · rw [if_pos a, a]; rfl
  · rw [if_neg a]
    by_cases b : gd_hd t = 4
    · rw [if_pos b, b]; rfl
    · rw [if_neg b]; rfl
theorem gm_G_TY {t : Lean.RArray Nat} (h : gd_vt t) : gd_TY (gd_G t) := by
  unfold gd_G gd_TY
  have lt := gd_hd_lt h
  by_cases a : gd_hd t = 3
  · rw [if_pos a]; simp [gd_vt, gd_sz]
  · rw [if_neg a]
    by_cases b : gd_hd t = 4
    · rw [if_pos b]; simp [gd_vt, gd_sz]
    · rw [if_neg b]; simp only [gd_vt, gd_sz]; omega
theorem gm_G_G (t : Lean.RArray Nat) : gd_G (gd_G t) = gd_G t := by
  have e : gd_hd (gd_G t) = gd_hd t := gm_G_hd
  show (if gd_hd (gd_G t) = 3 then _ else if gd_hd (gd_G t) = 4 then _ else Lean.RArray.leaf (gd_hd (gd_G t))) = _
  rw [e]
  rfl
theorem gm_G_leaf {t : Lean.RArray Nat} (h : gd_vt t) (h3 : gd_hd t < 3) : gd_G t = t := by
  unfold gd_G
  rw [if_neg (by omega), if_neg (by omega)]
  exact (gm_leaf_of h h3).symm
theorem gm_dp_br {t : Lean.RArray Nat} (h : 3 ≤ gd_hd t) (hv : gd_vt t) : 1 ≤ gd_dp t := by
  obtain ⟨l, r, e, _⟩ := gm_br_of h hv
  rw [e]
  simp only [gd_dp]
  omega
theorem gm_G_dp {t : Lean.RArray Nat} (hv : gd_vt t) : gd_dp (gd_G t) ≤ gd_dp t := by
  by_cases h : gd_hd t < 3
  · rw [gm_G_leaf hv h]; exact Nat.le_refl _
  · have := gm_dp_br (by omega) hv
    obtain ⟨l, r, e, k⟩ := gm_br_of (show 3 ≤ gd_hd t by omega) hv
    have e1 : gd_dp (gd_G t) = 1 := by
      unfold gd_G
      rcases k with k | k
      · rw [if_pos k]; rfl
      · rw [if_neg (by omega), if_pos k]; rfl
    omega
theorem gm_cb_G {t : Lean.RArray Nat} (hv : gd_vt t) : gd_cb t (gd_G t) = true := by
  by_cases h : gd_hd t < 3
  · rw [gm_G_leaf hv h]; exact gd_cb_refl _
  · obtain ⟨l, r, e, k⟩ := gm_br_of (show 3 ≤ gd_hd t by omega) hv
    unfold gd_G
    rcases k with k | k
    · rw [if_pos k]; rw [e, k]; simp [gd_cb, gd_cb_any']
    · rw [if_neg (by omega), if_pos k]; rw [e, k]; simp [gd_cb, gd_cb_any']
theorem gm_cb_hd {f t : Lean.RArray Nat} (h : gd_cb f t = true) (hf : gd_hd f ≠ 2) (ht : gd_hd t ≠ 2) : gd_hd t = gd_hd f := by
  cases f with
  | leaf n =>
    cases t with
    | leaf m => simp only [gd_cb, Bool.or_eq_true, beq_iff_eq] at h; simp only [gd_hd] at *; omega
    | branch k l r => simp only [gd_cb, beq_iff_eq] at h; exact absurd h hf
  | branch k l r =>
    cases t with
    | leaf m => simp only [gd_cb, beq_iff_eq] at h; exact absurd h ht
    | branch k' l' r' => exact (gd_cb_br h).1.symm
theorem gm_tag_lt {t : Lean.RArray Nat} (h : gd_vt t) : gm_tag t < 5 := by
  have := gd_hd_lt h
  unfold gm_tag
  split <;> omega
theorem gm_tag_inj {f t : Lean.RArray Nat} (hf : gd_vt f) (ht : gd_vt t) (f2 : gd_hd f ≠ 2) (t2 : gd_hd t ≠ 2) (e : gm_tag f = gm_tag t) : gd_hd f = gd_hd t := by
  have a := gd_hd_lt hf
  have b := gd_hd_lt ht
  unfold gm_tag at e
  split at e <;> split at e <;> omega
theorem gm_CO_sh {P : gm_P} {cnt : Nat} {G : Nat → List (Lean.RArray Nat)} {s : gm_S} {c : gm_Cell} (hP : gm_SF P cnt G) (H : gm_CO P cnt G s c) : gm_sh (gm_ck c) = gm_tag (gm_ct c) ∧ gd_hd (gm_ct c) ≠ 2 ∧ gd_vt (gm_ct c) := by
  unfold gm_CO at H
  rcases H with H | H | H | H | H
  · rw [H.1, H.2.1]; exact ⟨rfl, by decide, by simp [gd_vt]⟩
  · rw [H.1, H.2.1]; exact ⟨rfl, by decide, by simp [gd_vt]⟩
  · obtain ⟨k, i, l, e, _⟩ := H
    have sf := hP _ i
    obtain ⟨_, t, e2, _⟩ := sf.2.2.2.2.1 l
    have v := sf.1.1
    rw [k, e]
    rw [e2] at v ⊢
    exact ⟨rfl, by simp [gd_hd], v⟩
  · obtain ⟨k, _, a, b, e, ta, tb, _⟩ := H
    rw [k, e]
    exact ⟨rfl, by simp [gd_hd], by simp [gd_vt, ta.1, tb.1]⟩
  · obtain ⟨h, a, b, a', b', hk, _, e2, _, t2, _⟩ := H
    have v := t2.1
    rw [e2] at v ⊢
    rcases hk with ⟨k, z⟩ | ⟨k, z⟩
    · subst z; rw [k]; exact ⟨rfl, by simp [gd_hd], v⟩
    · subst z; rw [k]; exact ⟨rfl, by simp [gd_hd], v⟩
theorem gm_wk_of {P : gm_P} {cnt : Nat} {G : Nat → List (Lean.RArray Nat)} {s : gm_S} (hP : gm_SF P cnt G) (H : gm_IN P cnt G s) {v : Nat} {f : Lean.RArray Nat} (hv : gm_VT s v f) : gm_wk s v f := by
  have c := gm_CO_sh hP (H _ hv.1)
  refine ⟨hv.1, fun h => ?_, fun h => ?_⟩
  · rw [c.1]; exact (hv.2.1 h).1
  · rw [c.1, (hv.2.2 h).2]; exact ⟨(hv.2.2 h).1, rfl⟩
/-- what a cast does to the state -/
def gm_CR (s s' : gm_S) (L : Nat) : Prop := s' = s ∨ (1 ≤ L ∧ ∃ v f t p, v / 8 < gm_n s ∧ gm_lv f t ≤ L ∧ s' = gm_push s (gm_cc s v f t p))
theorem gm_CR_mono {s s' : gm_S} {L L' : Nat} (h : gm_CR s s' L) (l : L ≤ L') : gm_CR s s' L' := by
  rcases h with h | ⟨a, v, f, t, p, b, c, d⟩
  · exact Or.inl h
  · exact Or.inr ⟨by omega, v, f, t, p, b, by omega, d⟩
theorem gm_ok_wr {P : gm_P} {cnt : Nat} {G : Nat → List (Lean.RArray Nat)} {s : gm_S} (H : gm_IN P cnt G s) {v : Nat} {f t : Lean.RArray Nat} {p : Int} {add : Nat} (hv : gm_VT s v f) (hf : gd_TY f) (ht : gd_TY t) (ht2 : gd_hd t = gd_hd f) (hc : gd_cb f t = true) (room : gm_n s < 5000) :
    gm_ok (gm_wr s v f t p add) (fun v' s' => ∃ w, v' = w + add ∧ gm_IN P cnt G s' ∧ gm_VT s' w t ∧ gm_le s s' ∧ gm_CR s s' (gm_lv f t) ∧ (f = t → s' = s) ∧ gm_rk (gm_h s' (w / 8)) = gm_rk (gm_h s (v / 8))) := by
  unfold gm_wr
  by_cases e : gd_en f = gd_en t
  · rw [if_pos e]
    have e' := gd_en_inj hf.1 ht.1 e
    exact ⟨v, rfl, H, e' ▸ hv, gm_le_refl s, Or.inl rfl, fun _ => rfl, rfl⟩
  · rw [if_neg e]
    have h3 : 3 ≤ gd_hd f := by
      refine Nat.le_of_not_lt (fun z => e ?_)
      rw [gm_leaf_of hf.1 z, gm_leaf_of ht.1 (by omega), ht2]
    obtain ⟨l, r, ef, hk⟩ := gm_br_of h3 hf.1
    obtain ⟨l', r', et, _⟩ := gm_br_of (show 3 ≤ gd_hd t by omega) ht.1
    rw [if_pos ⟨hk, ht2⟩]
    refine gm_ok_new room ?_
    have cbr : gd_cb l l' = true ∧ gd_cb r r' = true := by
      rw [ef, et] at hc
      exact (gd_cb_br hc).2
    have co : gm_CO P cnt G s (gm_cc s v f t p) := by
      refine Or.inr (Or.inr (Or.inr (Or.inr ⟨gd_hd f, l, r, l', r', ?_, ef, ?_, hf, ht, cbr.1, cbr.2, hv, rfl, rfl, rfl, rfl⟩)))
      · rcases hk with k | k
        · left; exact ⟨by show (if gd_hd f = 3 then 4 else 6) = 4; rw [if_pos k], k⟩
        · right; exact ⟨by show (if gd_hd f = 3 then 4 else 6) = 6; rw [if_neg (by omega)], k⟩
      · rw [← ht2]; exact et
    refine ⟨8 * gm_n s, rfl, gm_IN_push H co, ?_, gm_le_push _ _, Or.inr ⟨?_, v, f, t, p, hv.1, Nat.le_refl _, rfl⟩, fun z => absurd (by rw [z]) e, ?_⟩
    · have e8 : 8 * gm_n s / 8 = gm_n s := by omega
      unfold gm_VT
      rw [e8, gm_push_new]
      refine ⟨by rw [gm_push_n]; omega, fun z => ?_, fun _ => ⟨by omega, rfl⟩⟩
      omega
    · have := gm_dp_br h3 hf.1
      exact Nat.le_trans this (gd_mx_l _ _)
    · rw [show 8 * gm_n s / 8 = gm_n s by omega, gm_push_new]
      rfl
theorem gm_mod_add {w a : Nat} (h : w % 8 = 0) (ha : a < 8) : (w + a) / 8 = w / 8 ∧ (w + a) % 8 = a := by omega
theorem gm_ok_cast {P : gm_P} {cnt : Nat} {G : Nat → List (Lean.RArray Nat)} {s : gm_S} (hP : gm_SF P cnt G) (H : gm_IN P cnt G s) {v : Nat} {f t : Lean.RArray Nat} {p : Int} (hv : gm_VT s v f) (hf : gd_TY f) (ht : gd_TY t) (hc : gd_cb f t = true) (room : gm_n s < 5000) :
    gm_ok (gm_cast s v f t p) (fun v' s' => gm_IN P cnt G s' ∧ gm_VT s' v' t ∧ gm_le s s' ∧ gm_CR s s' (gm_lv f t) ∧ (gd_hd f = 2 → gd_G t = t → s' = s) ∧ gm_rk (gm_h s' (v' / 8)) = gm_rk (gm_h s (v / 8))) := by
  unfold gm_cast
  have wk := gm_wk_of hP H hv
  rw [if_pos (by rw [Bool.and_eq_true, Bool.and_eq_true, gm_wkb_i, gm_tyb_i, gm_tyb_i]; exact ⟨⟨wk, hf⟩, ht⟩)]
  by_cases e : gd_en f = gd_en t
  · rw [if_pos e]
    have e' := gd_en_inj hf.1 ht.1 e
    exact ⟨H, e' ▸ hv, gm_le_refl s, Or.inl rfl, fun _ _ => rfl, rfl⟩
  rw [if_neg e]
  by_cases t2 : gd_hd t = 2
  · rw [if_pos t2]
    have f2 : gd_hd f ≠ 2 := fun z => e (by rw [gm_leaf_of hf.1 (by omega), gm_leaf_of ht.1 (by omega), z, t2])
    refine gm_ok_mono (gm_ok_wr H hv hf (gm_G_TY hf.1) gm_G_hd (gm_cb_G hf.1) room) ?_
    rintro v' s' ⟨w, ev, hI, hw, hle, hcr, _, hrk⟩
    have g2 : gd_hd (gd_G f) ≠ 2 := by rw [gm_G_hd]; exact f2
    have w2 := hw.2.2 g2
    have ma := gm_mod_add w2.1 (show gm_tag f < 8 from Nat.lt_trans (gm_tag_lt hf.1) (by decide))
    refine ⟨hI, ?_, hle, gm_CR_mono hcr ?_, fun z => absurd z f2, by rw [ev, ma.1]; exact hrk⟩
    · unfold gm_VT
      rw [ev, ma.1, ma.2, w2.2]
      refine ⟨hw.1, fun _ => ⟨?_, gm_G_G f, g2⟩, fun z => absurd t2 z⟩
      unfold gm_tag
      rw [gm_G_hd]
    · exact gd_mx_le (gd_mx_l _ _) (Nat.le_trans (gm_G_dp hf.1) (gd_mx_l _ _))
  rw [if_neg t2]
  by_cases f2 : gd_hd f = 2
  · rw [if_pos f2]
    by_cases tg : v % 8 = gm_tag t
    · rw [if_pos tg]
      have h1 := hv.2.1 f2
      have c := gm_CO_sh hP (H _ hv.1)
      have e1 : gm_tag (gm_ct (gm_h s (v / 8))) = gm_tag t := h1.1.symm.trans tg
      have e2 := gm_tag_inj c.2.2 ht.1 c.2.1 t2 e1
      have e3 : gm_ct (gm_h s (v / 8)) = gd_G t := by
        rw [← h1.2.1]
        unfold gd_G
        rw [e2]
      have hd : (v - gm_tag t) / 8 = v / 8 ∧ (v - gm_tag t) % 8 = 0 := by omega
      have hw : gm_VT s (v - gm_tag t) (gd_G t) := by
        unfold gm_VT
        rw [hd.1, hd.2]
        exact ⟨hv.1, fun z => absurd (gm_G_hd.symm.trans z) t2, fun _ => ⟨rfl, e3⟩⟩
      refine gm_ok_mono (gm_ok_wr H hw (gm_G_TY ht.1) ht gm_G_hd.symm (by rw [gd_cb_sym]; exact gm_cb_G ht.1) room) ?_
      rintro v' s' ⟨w, ev, hI, hw', hle, hcr, hz, hrk⟩
      rw [Nat.add_zero] at ev
      subst ev
      exact ⟨hI, hw', hle, gm_CR_mono hcr (gd_mx_le (Nat.le_trans (gm_G_dp ht.1) (gd_mx_r _ _)) (gd_mx_r _ _)), fun _ z => hz z, by rw [hrk, hd.1]⟩
    · rw [if_neg tg]
      exact trivial
  · rw [if_neg f2]
    refine gm_ok_mono (gm_ok_wr H hv hf ht (gm_cb_hd hc f2 t2) hc room) ?_
    rintro v' s' ⟨w, ev, hI, hw', hle, hcr, hz, hrk⟩
    rw [Nat.add_zero] at ev
    subst ev
    exact ⟨hI, hw', hle, hcr, fun z => absurd z f2, hrk⟩
def gm_gB : Nat → Nat
  | 0 => 1
  | m + 1 => gm_gB m + 1 + m
def gm_hB : Nat → Nat
  | 0 => 0
  | m + 1 => gm_hB m + gm_gB m
theorem gm_gMax : ∀ m, m < 41 → (40 - m) * gm_gB m ≤ 4928 := by decide +kernel
theorem gm_hMax : ∀ m, m < 41 → (40 - m) * gm_hB m ≤ 45250 := by decide +kernel
theorem gm_sg {s m : Nat} (h : s + m ≤ 40) : s * gm_gB m ≤ 4928 :=
  Nat.le_trans (Nat.mul_le_mul_right _ (by omega)) (gm_gMax m (by omega))
theorem gm_sh40 {s m : Nat} (h : s + m ≤ 40) : s * gm_hB m ≤ 45250 :=
  Nat.le_trans (Nat.mul_le_mul_right _ (by omega)) (gm_hMax m (by omega))
theorem gm_gB1 (m : Nat) : 1 ≤ gm_gB m := by
  induction m with
  | zero => exact Nat.le_refl 1
  | succ m ih => simp only [gm_gB]; omega
/-- the accounts: S casts by operands, M two a call and one a take, B pairs, C casts by level, N other cells; what is still to come: p2, p1 casts, r frames, z turns, o cells, y scopes, a of the account -/
def gm_K (β : Nat) (s : gm_S) (p2 p1 r z o y a : Nat) : Prop :=
  ∃ S M B C1 C2 C3 N, S + M + β * B + a ≤ gm_T s ∧ gm_T s ≤ 40 ∧ gm_n s = C1 + N ∧ N + o ≤ gm_T s ∧ C3 ≤ S ∧ C2 + p2 ≤ S * (1 + M) ∧ C1 + p1 ≤ S * gm_gB M ∧ 2 * r ≤ S * gm_hB M ∧ gm_u s + z ≤ 3 * gm_T s + 9937 * M ∧ (2 * gm_m s + y ≤ M + 2 ∧ 1 ≤ gm_m s) ∧
    (∀ c, c < gm_n s → gm_q1 (gm_h s c) ≤ C1 ∧ gm_q2 (gm_h s c) ≤ C2 ∧ gm_q3 (gm_h s c) ≤ C3 ∧ gm_rk (gm_h s c) ≤ B)
theorem gm_J_w {β : Nat} {s : gm_S} {p2 p1 r z o y a p2' p1' r' z' o' y' a' : Nat} (J : gm_K β s p2 p1 r z o y a) (h2 : p2' ≤ p2) (h1 : p1' ≤ p1) (hr : r' ≤ r) (hz : z' ≤ z) (ho : o' ≤ o) (hy : y' ≤ y) (ha : a' ≤ a) : gm_K β s p2' p1' r' z' o' y' a' := by
  obtain ⟨S, M, B, C1, C2, C3, N, j1, j2, j3, j4, j5, j6, j7, j8, j9, j10, j11⟩ := J
  exact ⟨S, M, B, C1, C2, C3, N, by omega, j2, j3, by omega, j5, by omega, by omega, by omega, by omega, by omega, j11⟩
theorem gm_J_room {β : Nat} {s : gm_S} {p2 p1 r z o y a : Nat} (J : gm_K β s p2 p1 r z o y a) : gm_u s + z ≤ 397600 ∧ gm_n s + p1 ≤ 4968 ∧ (gm_m s ≤ 21 ∧ 1 ≤ gm_m s) ∧ r ≤ 22625 ∧ o ≤ 40 ∧ a ≤ 40 ∧ gm_T s ≤ 40 := by
  obtain ⟨S, M, B, C1, C2, C3, N, j1, j2, j3, j4, j5, j6, j7, j8, j9, j10, j11⟩ := J
  have h1 := gm_sg (s := S) (m := M) (by omega)
  have h2 := gm_sh40 (s := S) (m := M) (by omega)
  omega
theorem gm_J_tk {β : Nat} {s : gm_S} {p2 p1 r z o y a : Nat} (J : gm_K β s p2 p1 r (z + 1) o y a) : gm_K β (gm_tk s) p2 p1 r z o y a := by
  obtain ⟨S, M, B, C1, C2, C3, N, j1, j2, j3, j4, j5, j6, j7, j8, j9, j10, j11⟩ := J
  refine ⟨S, M, B, C1, C2, C3, N, j1, j2, j3, j4, j5, j6, j7, j8, ?_, j10, j11⟩
  show gm_u s + 1 + z ≤ 3 * gm_T s + 9937 * M
  omega
theorem gm_J_st {β : Nat} {s : gm_S} {p2 p1 r z o y a : Nat} (J : gm_K β s p2 p1 r z o y a) (h : gm_T s < 40) : gm_K β (gm_st s) p2 p1 r (z + 3) (o + 1) y (a + 1) := by
  obtain ⟨S, M, B, C1, C2, C3, N, j1, j2, j3, j4, j5, j6, j7, j8, j9, j10, j11⟩ := J
  refine ⟨S, M, B, C1, C2, C3, N, ?_, ?_, j3, ?_, j5, j6, j7, j8, ?_, j10, j11⟩
  · show S + M + β * B + (a + 1) ≤ gm_T s + 1
    omega
  · show gm_T s + 1 ≤ 40
    omega
  · show N + (o + 1) ≤ gm_T s + 1
    omega
  · show gm_u s + (z + 3) ≤ 3 * (gm_T s + 1) + 9937 * M
    omega
theorem gm_J_qs {s : gm_S} {c : gm_Cell} {C1 C2 C3 B C1' C2' C3' B' : Nat} (j : ∀ c, c < gm_n s → gm_q1 (gm_h s c) ≤ C1 ∧ gm_q2 (gm_h s c) ≤ C2 ∧ gm_q3 (gm_h s c) ≤ C3 ∧ gm_rk (gm_h s c) ≤ B) (l1 : C1 ≤ C1') (l2 : C2 ≤ C2') (l3 : C3 ≤ C3') (l4 : B ≤ B') (hc : gm_q1 c ≤ C1' ∧ gm_q2 c ≤ C2' ∧ gm_q3 c ≤ C3' ∧ gm_rk c ≤ B') :
    ∀ x, x < gm_n (gm_push s c) → gm_q1 (gm_h (gm_push s c) x) ≤ C1' ∧ gm_q2 (gm_h (gm_push s c) x) ≤ C2' ∧ gm_q3 (gm_h (gm_push s c) x) ≤ C3' ∧ gm_rk (gm_h (gm_push s c) x) ≤ B' := by
  intro x hx
  rw [gm_push_n] at hx
  by_cases e : x = gm_n s
  · subst e
    rw [gm_push_new]
    exact hc
  · rw [gm_push_old s c (by omega)]
    have := j x (by omega)
    omega
theorem gm_J_new {β : Nat} {s : gm_S} {p2 p1 r z o y a : Nat} {c : gm_Cell} (J : gm_K β s p2 p1 r z (o + 1) y a) (q : gm_Q0 c) (k : gm_rk c = 0) : gm_K β (gm_push s c) p2 p1 r z o y a := by
  obtain ⟨S, M, B, C1, C2, C3, N, j1, j2, j3, j4, j5, j6, j7, j8, j9, j10, j11⟩ := J
  obtain ⟨q1, q2, q3⟩ := q
  refine ⟨S, M, B, C1, C2, C3, N + 1, j1, j2, ?_, ?_, j5, j6, j7, j8, j9, j10, gm_J_qs j11 (Nat.le_refl _) (Nat.le_refl _) (Nat.le_refl _) (Nat.le_refl _) (by omega)⟩
  · rw [gm_push_n]; omega
  · show N + 1 + o ≤ gm_T s
    omega
theorem gm_J_pair {s : gm_S} {p2 p1 r z o y a : Nat} {c : gm_Cell} {x x' : Nat} (J : gm_K 2 s p2 p1 r z (o + 1) y (a + 2)) (q : gm_Q0 c) (hx : x < gm_n s) (hx' : x' < gm_n s) (k : gm_rk c = 1 + gd_mx (gm_rk (gm_h s x)) (gm_rk (gm_h s x'))) : gm_K 2 (gm_push s c) p2 p1 r z o y a := by
  obtain ⟨S, M, B, C1, C2, C3, N, j1, j2, j3, j4, j5, j6, j7, j8, j9, j10, j11⟩ := J
  obtain ⟨q1, q2, q3⟩ := q
  have b1 := (j11 x hx).2.2.2
  have b2 := (j11 x' hx').2.2.2
  have b3 : gd_mx (gm_rk (gm_h s x)) (gm_rk (gm_h s x')) ≤ B := gd_mx_le b1 b2
  refine ⟨S, M, B + 1, C1, C2, C3, N + 1, ?_, j2, ?_, ?_, j5, j6, j7, j8, j9, j10, gm_J_qs j11 (Nat.le_refl _) (Nat.le_refl _) (Nat.le_refl _) (Nat.le_succ _) (by omega)⟩
  · show S + M + 2 * (B + 1) + a ≤ gm_T s
    omega
  · rw [gm_push_n]; omega
  · show N + 1 + o ≤ gm_T s
    omega
theorem gm_ind_le (a b : Nat) : gm_ind a b ≤ 1 := by unfold gm_ind; split <;> omega
theorem gm_ind_mono {a b c : Nat} (h : b ≤ c) : gm_ind a b ≤ gm_ind a c := by
  unfold gm_ind
  by_cases x : a ≤ b
  · rw [if_pos x, if_pos (by omega)]; exact Nat.le_refl _
  · rw [if_neg x]; exact Nat.zero_le _
/-- a cast by an operand -/
theorem gm_J_S {β : Nat} {s s' : gm_S} {p2 p1 r z o y a L : Nat} (J : gm_K β s p2 p1 r z o y (a + 1)) (h : gm_CR s s' L) : gm_K β s' p2 p1 r z o y a := by
  rcases h with h | ⟨hL, v, f, t, p, hv, hl, h⟩
  · rw [h]
    exact gm_J_w J (Nat.le_refl _) (Nat.le_refl _) (Nat.le_refl _) (Nat.le_refl _) (Nat.le_refl _) (Nat.le_refl _) (Nat.le_succ _)
  · rw [h]
    obtain ⟨S, M, B, C1, C2, C3, N, j1, j2, j3, j4, j5, j6, j7, j8, j9, j10, j11⟩ := J
    have g1 := gm_gB1 M
    have jj := j11 _ hv
    have i2 := gm_ind_le 2 (gm_lv f t)
    have i3 := gm_ind_le 3 (gm_lv f t)
    refine ⟨S + 1, M, B, C1 + 1, C2 + 1, C3 + 1, N, ?_, j2, ?_, j4, by omega, ?_, ?_, ?_, j9, j10, gm_J_qs j11 (Nat.le_succ _) (Nat.le_succ _) (Nat.le_succ _) (Nat.le_refl _) ⟨?_, ?_, ?_, ?_⟩⟩
    · show S + 1 + M + β * B + a ≤ gm_T s
      omega
    · rw [gm_push_n]; omega
    · rw [Nat.add_mul]; omega
    · rw [Nat.add_mul]; omega
    · rw [Nat.add_mul]; omega
    · show 1 + gm_q1 (gm_h s (v / 8)) ≤ C1 + 1
      omega
    · show gm_ind 2 (gm_lv f t) + gm_q2 (gm_h s (v / 8)) ≤ C2 + 1
      omega
    · show gm_ind 3 (gm_lv f t) + gm_q3 (gm_h s (v / 8)) ≤ C3 + 1
      omega
    · show gm_rk (gm_h s (v / 8)) ≤ B
      omega
/-- a cast that a call or a take had put by -/
theorem gm_J_P {β : Nat} {s s' : gm_S} {p2 p1 r z o y a L : Nat} (J : gm_K β s (p2 + gm_ind 2 L) (p1 + gm_ind 1 L) r z o y a) (h2 : L ≤ 2) (h : gm_CR s s' L) : gm_K β s' p2 p1 r z o y a := by
  rcases h with h | ⟨hL, v, f, t, p, hv, hl, h⟩
  · rw [h]
    exact gm_J_w J (by omega) (by omega) (Nat.le_refl _) (Nat.le_refl _) (Nat.le_refl _) (Nat.le_refl _) (Nat.le_refl _)
  · rw [h]
    obtain ⟨S, M, B, C1, C2, C3, N, j1, j2, j3, j4, j5, j6, j7, j8, j9, j10, j11⟩ := J
    have jj := j11 _ hv
    have e1 : gm_ind 1 L = 1 := by unfold gm_ind; rw [if_pos hL]
    have i2 := gm_ind_mono (a := 2) hl
    have i3 : gm_ind 3 (gm_lv f t) = 0 := by unfold gm_ind; rw [if_neg (by omega)]
    refine ⟨S, M, B, C1 + 1, C2 + gm_ind 2 L, C3, N, j1, j2, ?_, j4, j5, by omega, by omega, j8, j9, j10, gm_J_qs j11 (Nat.le_succ _) (Nat.le_add_right _ _) (Nat.le_refl _) (Nat.le_refl _) ⟨?_, ?_, ?_, ?_⟩⟩
    · rw [gm_push_n]; omega
    · show 1 + gm_q1 (gm_h s (v / 8)) ≤ C1 + 1
      omega
    · show gm_ind 2 (gm_lv f t) + gm_q2 (gm_h s (v / 8)) ≤ C2 + gm_ind 2 L
      omega
    · show gm_ind 3 (gm_lv f t) + gm_q3 (gm_h s (v / 8)) ≤ C3
      omega
    · show gm_rk (gm_h s (v / 8)) ≤ B
      omega
/-- a call begins at the cell g -/
theorem gm_J_call {β : Nat} {s : gm_S} {p2 p1 r z o y a g : Nat} (J : gm_K β s p2 p1 r z o y (a + 2)) (hg : g < gm_n s) : gm_K β s (p2 + 2 * gm_q3 (gm_h s g)) (p1 + 2 * gm_q2 (gm_h s g)) (r + gm_q1 (gm_h s g)) (z + 2 * gm_q1 (gm_h s g) + 1) o (y + 2) a := by
  have room := gm_J_room J
  obtain ⟨S, M, B, C1, C2, C3, N, j1, j2, j3, j4, j5, j6, j7, j8, j9, j10, j11⟩ := J
  obtain ⟨k1, k2, k3, k4⟩ := j11 g hg
  have e1 : S * (1 + (M + 2)) = S * (1 + M) + 2 * S := by rw [show 1 + (M + 2) = (1 + M) + 2 by omega, Nat.mul_add, Nat.mul_comm S 2]
  have e2 : S * gm_gB (M + 2) = S * gm_gB M + 2 * (S * (1 + M)) + S := by
    simp only [gm_gB]
    rw [show gm_gB M + 1 + M + 1 + (M + 1) = gm_gB M + 2 * (1 + M) + 1 by omega, Nat.mul_add, Nat.mul_add, Nat.mul_one, Nat.mul_left_comm]
  have e3 : S * gm_hB (M + 2) = S * gm_hB M + 2 * (S * gm_gB M) + S * (1 + M) := by
    simp only [gm_hB, gm_gB]
    rw [show gm_hB M + gm_gB M + (gm_gB M + 1 + M) = gm_hB M + 2 * gm_gB M + (1 + M) by omega, Nat.mul_add, Nat.mul_add, Nat.mul_left_comm]
  refine ⟨S, M + 2, B, C1, C2, C3, N, by omega, j2, j3, j4, j5, ?_, ?_, ?_, by omega, by omega, j11⟩
  · rw [e1]; omega
  · rw [e2]; omega
  · rw [e3]; omega
/-- a take begins at the cell g -/
theorem gm_J_take {β : Nat} {s : gm_S} {p2 p1 r z o y a g : Nat} (J : gm_K β s p2 p1 r z o y (a + 1)) (hg : g < gm_n s) : gm_K β s (p2 + gm_q3 (gm_h s g)) (p1 + gm_q2 (gm_h s g)) r (z + 2 * gm_q1 (gm_h s g) + 1) o y a := by
  have room := gm_J_room J
  obtain ⟨S, M, B, C1, C2, C3, N, j1, j2, j3, j4, j5, j6, j7, j8, j9, j10, j11⟩ := J
  obtain ⟨k1, k2, k3, k4⟩ := j11 g hg
  have e1 : S * (1 + (M + 1)) = S * (1 + M) + S := by rw [show 1 + (M + 1) = (1 + M) + 1 by omega, Nat.mul_add, Nat.mul_one]
  have e2 : S * gm_gB (M + 1) = S * gm_gB M + S * (1 + M) := by
    simp only [gm_gB]
    rw [show gm_gB M + 1 + M = gm_gB M + (1 + M) by omega, Nat.mul_add]
  have e3 : S * gm_hB (M + 1) = S * gm_hB M + S * gm_gB M := by
    simp only [gm_hB]
    rw [Nat.mul_add]
  refine ⟨S, M + 1, B, C1, C2, C3, N, by omega, j2, j3, j4, j5, ?_, ?_, ?_, by omega, by omega, j11⟩
  · rw [e1]; omega
  · rw [e2]; omega
  · rw [e3]; omega
theorem gm_J_scope {β : Nat} {s : gm_S} {p2 p1 r z o y a b b' : Nat} (J : gm_K β s p2 p1 r z o (y + 2) a) : gm_K β (gm_scope s b b') p2 p1 r z o y a := by
  obtain ⟨S, M, B, C1, C2, C3, N, j1, j2, j3, j4, j5, j6, j7, j8, j9, j10, j11⟩ := J
  refine ⟨S, M, B, C1, C2, C3, N, j1, j2, j3, j4, j5, j6, j7, j8, j9, ?_, j11⟩
  show 2 * (gm_m s + 1) + y ≤ M + 2 ∧ 1 ≤ gm_m s + 1
  omega
theorem gm_J_q {β : Nat} {s : gm_S} {p2 p1 r z o y a g : Nat} (J : gm_K β s p2 p1 r z o y a) (hg : g < gm_n s) : gm_q1 (gm_h s g) ≤ 4968 := by
  have room := gm_J_room J
  obtain ⟨S, M, B, C1, C2, C3, N, j1, j2, j3, j4, j5, j6, j7, j8, j9, j10, j11⟩ := J
  have := j11 g hg
  omega
theorem gm_IN_tk {P : gm_P} {cnt : Nat} {G : Nat → List (Lean.RArray Nat)} {s : gm_S} (H : gm_IN P cnt G s) : gm_IN P cnt G (gm_tk s) := gm_IN_le H (gm_le_tk s) rfl
theorem gm_IN_st {P : gm_P} {cnt : Nat} {G : Nat → List (Lean.RArray Nat)} {s : gm_S} (H : gm_IN P cnt G s) : gm_IN P cnt G (gm_st s) := gm_IN_le H (gm_le_st s) rfl
theorem gm_CR_T {s s' : gm_S} {L : Nat} (h : gm_CR s s' L) : gm_T s' = gm_T s := by
  rcases h with h | ⟨_, v, f, t, p, _, _, h⟩
  · rw [h]
  · rw [h]; rfl
theorem gm_ok_fc {β : Nat} {P : gm_P} {cnt : Nat} {G : Nat → List (Lean.RArray Nat)} {s : gm_S} (hP : gm_SF P cnt G) (H : gm_IN P cnt G s) {v h : Nat} {f t : Lean.RArray Nat} {p : Int} (hv : gm_VT s v f) (hf : gd_TY f) (ht : gd_TY t) (hc : gd_cb f t = true) (hh : h < 32767) {p2 p1 r z o y a : Nat} (J : gm_K β s p2 p1 r (z + 1) o y a) :
    gm_ok (gm_fc s h v f t p) (fun v' s' => gm_IN P cnt G s' ∧ gm_VT s' v' t ∧ gm_le s s' ∧ gm_T s' = gm_T s ∧ gm_rk (gm_h s' (v' / 8)) = gm_rk (gm_h s (v / 8)) ∧ ∃ s1, gm_K β s1 p2 p1 r z o y a ∧ gm_CR s1 s' (gm_lv f t) ∧ (f = t ∨ gd_hd f = 2 ∧ gd_G t = t → s' = s1)) := by
  have room := gm_J_room J
  unfold gm_fc
  by_cases e : gd_en f = gd_en t
  · rw [if_pos e]
    have e' := gd_en_inj hf.1 ht.1 e
    exact ⟨H, e' ▸ hv, gm_le_refl s, rfl, rfl, s, gm_J_w J (Nat.le_refl _) (Nat.le_refl _) (Nat.le_refl _) (Nat.le_succ _) (Nat.le_refl _) (Nat.le_refl _) (Nat.le_refl _), Or.inl rfl, fun _ => rfl⟩
  · rw [if_neg e]
    refine gm_ok_tick ⟨by omega, by omega, by omega, hh⟩ ?_
    have H' : gm_IN P cnt G (gm_tk s) := gm_IN_tk H
    refine gm_ok_mono (gm_ok_cast hP H' (s := gm_tk s) hv hf ht hc (show gm_n s < 5000 by omega)) ?_
    rintro v' s' ⟨a1, a2, a3, a4, a5, a6⟩
    refine ⟨a1, a2, a3, ?_, a6, gm_tk s, gm_J_tk J, a4, ?_⟩
    · rw [gm_CR_T a4]; rfl
    · rintro (z | z)
      · exact absurd (by rw [z]) e
      · exact a5 z.1 z.2
theorem gm_lv_l {h : Nat} {a b a' b' : Lean.RArray Nat} : gm_lv a a' + 1 ≤ gm_lv (.branch h a b) (.branch h a' b') := by
  unfold gm_lv
  simp only [gd_dp]
  have h1 := gd_mx_l (gd_dp a) (gd_dp b)
  have h2 := gd_mx_l (gd_dp a') (gd_dp b')
  have h3 := gd_mx_l (1 + gd_mx (gd_dp a) (gd_dp b)) (1 + gd_mx (gd_dp a') (gd_dp b'))
  have h4 := gd_mx_r (1 + gd_mx (gd_dp a) (gd_dp b)) (1 + gd_mx (gd_dp a') (gd_dp b'))
  have h5 := gd_mx_le (show gd_dp a ≤ gd_mx (1 + gd_mx (gd_dp a) (gd_dp b)) (1 + gd_mx (gd_dp a') (gd_dp b')) - 1 by omega) (show gd_dp a' ≤ gd_mx (1 + gd_mx (gd_dp a) (gd_dp b)) (1 + gd_mx (gd_dp a') (gd_dp b')) - 1 by omega)
  omega
theorem gm_lv_r {h : Nat} {a b a' b' : Lean.RArray Nat} : gm_lv b b' + 1 ≤ gm_lv (.branch h a b) (.branch h a' b') := by
  unfold gm_lv
  simp only [gd_dp]
  have h1 := gd_mx_r (gd_dp a) (gd_dp b)
  have h2 := gd_mx_r (gd_dp a') (gd_dp b')
  have h3 := gd_mx_l (1 + gd_mx (gd_dp a) (gd_dp b)) (1 + gd_mx (gd_dp a') (gd_dp b'))
  have h4 := gd_mx_r (1 + gd_mx (gd_dp a) (gd_dp b)) (1 + gd_mx (gd_dp a') (gd_dp b'))
  have h5 := gd_mx_le (show gd_dp b ≤ gd_mx (1 + gd_mx (gd_dp a) (gd_dp b)) (1 + gd_mx (gd_dp a') (gd_dp b')) - 1 by omega) (show gd_dp b' ≤ gd_mx (1 + gd_mx (gd_dp a) (gd_dp b)) (1 + gd_mx (gd_dp a') (gd_dp b')) - 1 by omega)
  omega
theorem gm_lv_sym (a b : Lean.RArray Nat) : gm_lv a b = gm_lv b a := by
  unfold gm_lv gd_mx
  split <;> split <;> omega
theorem gm_ind_dn {k L' L : Nat} (h : L' + 1 ≤ L) : gm_ind k L' ≤ gm_ind (k + 1) L := by
  unfold gm_ind
  by_cases x : k ≤ L'
  · rw [if_pos x, if_pos (by omega)]; exact Nat.le_refl _
  · rw [if_neg x]; exact Nat.zero_le _
theorem gm_lv3 {f t : Lean.RArray Nat} (hf : gd_TY f) (ht : gd_TY t) : gm_lv f t ≤ 3 := gd_mx_le (gd_dp3 hf) (gd_dp3 ht)
/-- a cast that was put by, at a part of the types of a cast cell -/
theorem gm_J_P' {β : Nat} {s s' : gm_S} {p2 p1 r z o y a L L' : Nat} (J : gm_K β s (p2 + gm_ind 3 L) (p1 + gm_ind 2 L) r z o y a) (hL : L ≤ 3) (hl : L' + 1 ≤ L) (h : gm_CR s s' L') : gm_K β s' p2 p1 r z o y a := by
  have i1 := gm_ind_dn (k := 2) hl
  have i2 := gm_ind_dn (k := 1) hl
  exact gm_J_P (gm_J_w J (Nat.add_le_add_left i1 _) (Nat.add_le_add_left i2 _) (Nat.le_refl _) (Nat.le_refl _) (Nat.le_refl _) (Nat.le_refl _) (Nat.le_refl _)) (by omega) h
theorem gm_ok_take {β : Nat} {P : gm_P} {cnt : Nat} {G : Nat → List (Lean.RArray Nat)} (hP : gm_SF P cnt G) {side r o y a : Nat} : ∀ (n h v : Nat) (s : gm_S) (p2 p1 z : Nat) (A B : Lean.RArray Nat), gm_IN P cnt G s → gm_VT s v (.branch 4 A B) → gm_q1 (gm_h s (v / 8)) = n → h + n < 32767 →
    gm_K β s (p2 + gm_q3 (gm_h s (v / 8))) (p1 + gm_q2 (gm_h s (v / 8))) r (z + 2 * n + 1) o y a →
    gm_ok (gm_take side n h v s) (fun u s' => gm_IN P cnt G s' ∧ gm_VT s' u (if side = 0 then A else B) ∧ gm_le s s' ∧ gm_T s' = gm_T s ∧ gm_rk (gm_h s' (u / 8)) < gm_rk (gm_h s (v / 8)) ∧ gm_K β s' p2 p1 r z o y a) := by
  intro n
  induction n with
  | zero =>
    intro h v s p2 p1 z A B H hv hq hh J
    have room := gm_J_room J
    simp only [gm_take]
    refine gm_ok_tick ⟨by omega, by omega, by omega, by omega⟩ ?_
    have co := H _ hv.1
    have hct := (hv.2.2 (by simp [gd_hd])).2
    have J1 : gm_K β (gm_tk s) p2 p1 r z o y a := gm_J_tk (gm_J_w J (Nat.le_add_right _ _) (Nat.le_add_right _ _) (Nat.le_refl _) (by omega) (Nat.le_refl _) (Nat.le_refl _) (Nat.le_refl _))
    rcases co with c | c | c | c | c
    · rw [hct] at c; exact absurd c.2.1 (by simp)
    · rw [hct] at c; exact absurd c.2.1 (by simp)
    · obtain ⟨_, i, l, e, _⟩ := c
      obtain ⟨_, t, e2, _⟩ := (hP _ i).2.2.2.2.1 l
      rw [hct, e2] at e
      injection e with e _ _
      exact absurd e (by decide)
    · obtain ⟨k, _, a', b', e, _, _, va, vb, r1, r2⟩ := c
      rw [hct] at e
      injection e with _ e1 e2
      rw [if_pos ⟨hv.1, k⟩]
      by_cases hs : side = 0
      · rw [if_pos hs]
        show gm_IN P cnt G (gm_tk s) ∧ gm_VT (gm_tk s) _ (if side = 0 then A else B) ∧ _
        rw [if_pos hs, e1]
        exact ⟨gm_IN_tk H, va, gm_le_refl s, rfl, r1, J1⟩
      · rw [if_neg hs]
        show gm_IN P cnt G (gm_tk s) ∧ gm_VT (gm_tk s) _ (if side = 0 then A else B) ∧ _
        rw [if_neg hs, e2]
        exact ⟨gm_IN_tk H, vb, gm_le_refl s, rfl, r2, J1⟩
    · obtain ⟨_, _, _, _, _, _, _, _, _, _, _, _, _, q, _⟩ := c
      omega
  | succ n ih =>
    intro h v s p2 p1 z A B H hv hq hh J
    have room := gm_J_room J
    simp only [gm_take]
    refine gm_ok_tick ⟨by omega, by omega, by omega, by omega⟩ ?_
    have co := H _ hv.1
    have hct := (hv.2.2 (by simp [gd_hd])).2
    rcases co with c | c | c | c | c
    · have := c.2.2.1; omega
    · have := c.2.2.1; omega
    · have := c.2.2.2.2.2.1; omega
    · have := c.2.1.1; omega
    · obtain ⟨k, a0, b0, a', b', hk, ef, et, tf, tt, ca, cb, va, q1, q2, q3, rk⟩ := c
      rw [hct] at et
      injection et with ek e1 e2
      subst e1 e2 ek
      have k6 : gm_ck (gm_h s (v / 8)) = 6 := by
        rcases hk with hk | hk
        · exact absurd hk.2 (by decide)
        · exact hk.1
      rw [if_pos ⟨hv.1, k6⟩]
      rw [hct] at q2 q3
      rw [ef] at q2 q3 va
      have l3 : gm_lv (.branch 4 a0 b0) (.branch 4 A B) ≤ 3 := gm_lv3 (ef ▸ tf) (hct ▸ tt)
      have J1 : gm_K β (gm_tk s) ((p2 + gm_ind 3 (gm_lv (.branch 4 a0 b0) (.branch 4 A B))) + gm_q3 (gm_h s (gm_ca (gm_h s (v / 8)) / 8))) ((p1 + gm_ind 2 (gm_lv (.branch 4 a0 b0) (.branch 4 A B))) + gm_q2 (gm_h s (gm_ca (gm_h s (v / 8)) / 8))) r ((z + 1) + 2 * n + 1) o y a :=
        gm_J_tk (gm_J_w J (by omega) (by omega) (Nat.le_refl _) (by omega) (Nat.le_refl _) (Nat.le_refl _) (Nat.le_refl _))
      have I := ih (h + 1) (gm_ca (gm_h s (v / 8))) (gm_tk s) _ _ (z + 1) a0 b0 (gm_IN_tk H) va (by show gm_q1 (gm_h s _) = n; omega) (by omega) J1
      refine gm_ok_bd I ?_
      rintro u s' ⟨i1, i2, i3, i4, i5, i6⟩
      have tl : gd_TY (if side = 0 then a0 else b0) := by
        rw [ef] at tf
        split
        · exact gd_TY_l tf
        · exact gd_TY_r tf
      have tr : gd_TY (if side = 0 then A else B) := by
        rw [hct] at tt
        split
        · exact gd_TY_l tt
        · exact gd_TY_r tt
      have cc : gd_cb (if side = 0 then a0 else b0) (if side = 0 then A else B) = true := by
        split
        · exact ca
        · exact cb
      have lv : gm_lv (if side = 0 then a0 else b0) (if side = 0 then A else B) + 1 ≤ gm_lv (.branch 4 a0 b0) (.branch 4 A B) := by
        split
        · exact gm_lv_l
        · exact gm_lv_r
      have F := gm_ok_fc hP i1 (h := h + 1) (p := gm_cp (gm_h s (v / 8))) i2 tl tr cc (by omega) i6
      show gm_ok (gm_fc s' (h + 1) u (if side = 0 then gd_lf (gm_cf (gm_h s (v / 8))) else gd_rt (gm_cf (gm_h s (v / 8)))) (if side = 0 then gd_lf (gm_ct (gm_h s (v / 8))) else gd_rt (gm_ct (gm_h s (v / 8)))) (gm_cp (gm_h s (v / 8)))) _
      rw [ef, hct]
      refine gm_ok_mono F ?_
      rintro u' s'' ⟨f1, f2, f3, f4, f5, s1, f6, f7, _⟩
      refine ⟨f1, f2, gm_le_trans i3 f3, f4.trans i4, ?_, gm_J_P' f6 l3 lv f7⟩
      rw [f5, rk]
      exact i5
/-- what is known of the evaluator with less fuel -/
def gm_HF (P : gm_P) (cnt : Nat) (G : Nat → List (Lean.RArray Nat)) (d : Nat) (f : Nat → Nat → Nat → gm_S → Option gm_O) : Prop :=
  ∀ (h i w : Nat) (s : gm_S) (p2 p1 r z o y a : Nat), i < cnt → gm_IN P cnt G s → gm_WT s w (G i) → gm_K 2 s p2 p1 r z o y a → h ≤ 2 * o + r → 41 ≤ d + gm_T s →
    gm_ok (f h i w s) (fun v s' => gm_IN P cnt G s' ∧ gm_VT s' v (gm_ty P i) ∧ gm_le s s' ∧ gm_T s ≤ gm_T s' ∧ gm_K 2 s' p2 p1 r (z + 2) o y (a + 1))
theorem gm_ok_call {P : gm_P} {cnt : Nat} {G : Nat → List (Lean.RArray Nat)} (hP : gm_SF P cnt G) {d : Nat} {f : Nat → Nat → Nat → gm_S → Option gm_O} (hf : gm_HF P cnt G d f) {R o y a : Nat} : ∀ (n h g x : Nat) (s : gm_S) (p2 p1 z : Nat) (A B : Lean.RArray Nat), gm_IN P cnt G s → gm_VT s g (.branch 3 A B) → gm_VT s x A → gm_q1 (gm_h s (g / 8)) = n → h + n ≤ 2 * o + R → 41 ≤ d + gm_T s →
    gm_K 2 s (p2 + 2 * gm_q3 (gm_h s (g / 8))) (p1 + 2 * gm_q2 (gm_h s (g / 8))) R (z + 2 * n + 1) o (y + 2) a →
    gm_ok (gm_call f n h g x s) (fun u s' => gm_IN P cnt G s' ∧ gm_VT s' u B ∧ gm_le s s' ∧ gm_T s ≤ gm_T s' ∧ gm_K 2 s' p2 p1 R (z + 2) o y (a + 1)) := by
  intro n
  induction n with
  | zero =>
    intro h g x s p2 p1 z A B H hv hx hq hh hd J
    have room := gm_J_room J
    simp only [gm_call]
    refine gm_ok_tick ⟨by omega, by omega, by omega, by omega⟩ ?_
    have co := H _ hv.1
    have hct := (hv.2.2 (by simp [gd_hd])).2
    have J1 : gm_K 2 (gm_tk s) p2 p1 R z o (y + 2) a := gm_J_tk (gm_J_w J (Nat.le_add_right _ _) (Nat.le_add_right _ _) (Nat.le_refl _) (by omega) (Nat.le_refl _) (Nat.le_refl _) (Nat.le_refl _))
    rcases co with c | c | c | c | c
    · rw [hct] at c; exact absurd c.2.1 (by simp)
    · rw [hct] at c; exact absurd c.2.1 (by simp)
    · obtain ⟨k, i, l, e, wt, _⟩ := c
      obtain ⟨lt, t, e2, eG⟩ := (hP _ i).2.2.2.2.1 l
      rw [hct, e2] at e
      injection e with _ e3 e4
      subst e3 e4
      rw [if_pos ⟨hv.1, k⟩]
      have le1 : gm_le s (gm_scope (gm_tk s) x (gm_cb (gm_h s (g / 8)))) := gm_le_scope (gm_tk s) _ _
      have wt' : gm_WT (gm_scope (gm_tk s) x (gm_cb (gm_h s (g / 8)))) (gm_m s) (G (gm_ca (gm_h s (g / 8)) + 1)) := by
        rw [eG]
        have eE : gm_e (gm_scope (gm_tk s) x (gm_cb (gm_h s (g / 8)))) (gm_m s) = (x, gm_cb (gm_h s (g / 8))) := if_pos rfl
        simp only [gm_WT]
        rw [eE]
        refine ⟨?_, Nat.lt_succ_self _, gm_VT_mono le1 hx, gm_WT_mono le1 _ _ wt⟩
        exact room.2.2.1.2
      refine gm_ok_mono (hf h (gm_ca (gm_h s (g / 8)) + 1) (gm_m s) (gm_scope (gm_tk s) x (gm_cb (gm_h s (g / 8)))) p2 p1 R z o y a lt (gm_IN_le H le1 rfl) wt' (gm_J_scope J1) (by omega) hd) ?_
      rintro v s' ⟨i1, i2, i3, i4, i5⟩
      exact ⟨i1, i2, gm_le_trans le1 i3, i4, i5⟩
    · obtain ⟨k, _, a', b', e, _⟩ := c
      rw [hct] at e
      injection e with e _ _
      exact absurd e (by decide)
    · obtain ⟨_, _, _, _, _, _, _, _, _, _, _, _, _, q, _⟩ := c
      omega
  | succ n ih =>
    intro h g x s p2 p1 z A B H hv hx hq hh hd J
    have room := gm_J_room J
    simp only [gm_call]
    refine gm_ok_tick ⟨by omega, by omega, by omega, by omega⟩ ?_
    have co := H _ hv.1
    have hct := (hv.2.2 (by simp [gd_hd])).2
    rcases co with c | c | c | c | c
    · have := c.2.2.1; omega
    · have := c.2.2.1; omega
    · have := c.2.2.2.2.2.1; omega
    · have := c.2.1.1; omega
    · obtain ⟨k, a0, b0, a', b', hk, ef, et, tf, tt, ca, cb, va, q1, q2, q3, rk⟩ := c
      rw [hct] at et
      injection et with ek e1 e2
      subst e1 e2 ek
      have k4 : gm_ck (gm_h s (g / 8)) = 4 := by
        rcases hk with hk | hk
        · exact hk.1
        · exact absurd hk.2 (by decide)
      rw [if_pos ⟨hv.1, k4⟩]
      rw [hct] at q2 q3
      rw [ef] at q2 q3 va
      have tf' : gd_TY (.branch 3 a0 b0) := ef ▸ tf
      have tt' : gd_TY (.branch 3 A B) := hct ▸ tt
      have l3 : gm_lv (.branch 3 a0 b0) (.branch 3 A B) ≤ 3 := gm_lv3 tf' tt'
      have lvl : gm_lv A a0 + 1 ≤ gm_lv (.branch 3 a0 b0) (.branch 3 A B) := by rw [gm_lv_sym A a0]; exact gm_lv_l
      have J1 : gm_K 2 (gm_tk s) (((p2 + gm_ind 3 (gm_lv (.branch 3 a0 b0) (.branch 3 A B))) + 2 * gm_q3 (gm_h s (gm_ca (gm_h s (g / 8)) / 8))) + gm_ind 3 (gm_lv (.branch 3 a0 b0) (.branch 3 A B))) (((p1 + gm_ind 2 (gm_lv (.branch 3 a0 b0) (.branch 3 A B))) + 2 * gm_q2 (gm_h s (gm_ca (gm_h s (g / 8)) / 8))) + gm_ind 2 (gm_lv (.branch 3 a0 b0) (.branch 3 A B))) R ((z + 1) + 2 * n + 1) o (y + 2) a :=
        gm_J_tk (gm_J_w J (by omega) (by omega) (Nat.le_refl _) (by omega) (Nat.le_refl _) (Nat.le_refl _) (Nat.le_refl _))
      have F := gm_ok_cast hP (gm_IN_tk H) (p := - gm_cp (gm_h s (g / 8))) (show gm_VT (gm_tk s) x A from hx) (gd_TY_l tt') (gd_TY_l tf') (by rw [gd_cb_sym]; exact ca) (show gm_n s < 5000 by omega)
      show gm_ok (gm_bd (gm_cast (gm_tk s) x (gd_lf (gm_ct (gm_h s (g / 8)))) (gd_lf (gm_cf (gm_h s (g / 8)))) (- gm_cp (gm_h s (g / 8)))) (fun a' s' =>
          gm_bd (gm_call f n (h + 1) (gm_ca (gm_h s (g / 8))) a' s') (fun u s'' =>
            gm_fc s'' (h + 1) u (gd_rt (gm_cf (gm_h s (g / 8)))) (gd_rt (gm_ct (gm_h s (g / 8)))) (gm_cp (gm_h s (g / 8)))))) _
      rw [ef, hct]
      refine gm_ok_bd F ?_
      rintro x' s' ⟨c1, c2, c3, c4, _, _⟩
      have J2 := gm_J_P' J1 l3 lvl c4
      have eh : gm_h s' (gm_ca (gm_h s (g / 8)) / 8) = gm_h s (gm_ca (gm_h s (g / 8)) / 8) := c3.2.1 _ va.1
      have T' : gm_T s' = gm_T s := (gm_CR_T c4).trans rfl
      rw [← eh] at J2
      refine gm_ok_bd (ih (h + 1) _ x' s' _ _ (z + 1) a0 b0 c1 (gm_VT_mono c3 va) c2 (by rw [eh]; omega) (by omega) (by omega) J2) ?_
      rintro u s'' ⟨i1, i2, i3, i4, i5⟩
      have room' := gm_J_room i5
      have F2 := gm_ok_fc hP i1 (h := h + 1) (p := gm_cp (gm_h s (g / 8))) (z := z + 2) i2 (gd_TY_r tf') (gd_TY_r tt') cb (by omega) (gm_J_w i5 (Nat.le_refl _) (Nat.le_refl _) (Nat.le_refl _) (by omega) (Nat.le_refl _) (Nat.le_refl _) (Nat.le_refl _))
      refine gm_ok_mono F2 ?_
      rintro u' s3 ⟨f1, f2, f3, f4, _, s1, f6, f7, _⟩
      exact ⟨f1, f2, gm_le_trans c3 (gm_le_trans i3 f3), by omega, gm_J_P' f6 l3 gm_lv_r f7⟩
theorem gm_ok_opr {P : gm_P} {cnt : Nat} {G : Nat → List (Lean.RArray Nat)} (hP : gm_SF P cnt G) {d : Nat} {f : Nat → Nat → Nat → gm_S → Option gm_O} (hf : gm_HF P cnt G d f) {h i k w : Nat} {s : gm_S} {p2 p1 r z o y a : Nat} (hk : gm_op P i k < cnt ∧ G (gm_op P i k) = G i ∧ gd_TY (gm_tg P i k) ∧ gd_cb (gm_ty P (gm_op P i k)) (gm_tg P i k) = true) (H : gm_IN P cnt G s) (hw : gm_WT s w (G i)) (J : gm_K 2 s p2 p1 r z (o + 1) y a) (hh : h ≤ 2 * o + r) (hd : 41 ≤ d + gm_T s) :
    gm_ok (gm_opr P f h i k w s) (fun v s' => gm_IN P cnt G s' ∧ gm_VT s' v (gm_tg P i k) ∧ gm_le s s' ∧ gm_T s ≤ gm_T s' ∧ gm_K 2 s' p2 p1 r z (o + 1) y a ∧ (gm_ty P (gm_op P i k) = gm_tg P i k ∨ gd_hd (gm_ty P (gm_op P i k)) = 2 ∧ gd_G (gm_tg P i k) = gm_tg P i k → gm_K 2 s' p2 p1 r z (o + 1) y (a + 1))) := by
  obtain ⟨k1, k2, k3, k4⟩ := hk
  unfold gm_opr
  refine gm_ok_bd (hf (h + 2) (gm_op P i k) w s p2 p1 r z (o + 1) y a k1 H (by rw [k2]; exact hw) J (by omega) hd) ?_
  rintro v s1 ⟨a1, a2, a3, a4, a5⟩
  have room := gm_J_room a5
  refine gm_ok_bd (gm_ok_fc hP a1 (h := h + 2) (z := z + 1) a2 (hP _ k1).1 k3 k4 (by omega) (gm_J_w a5 (Nat.le_refl _) (Nat.le_refl _) (Nat.le_refl _) (by omega) (Nat.le_refl _) (Nat.le_refl _) (Nat.le_refl _))) ?_
  rintro v' s2 ⟨b1, b2, b3, b4, _, s3, b5, b6, b7⟩
  have J2 := gm_J_S b5 b6
  have room2 := gm_J_room J2
  refine gm_ok_tick ⟨by omega, by omega, by omega, by omega⟩ ?_
  refine ⟨gm_IN_tk b1, b2, gm_le_trans a3 b3, ?_, gm_J_tk J2, fun n => ?_⟩
  · show gm_T s ≤ gm_T s2
    omega
  · have e := b7 n
    subst e
    exact gm_J_tk b5
theorem gm_num_ok {P : gm_P} {cnt : Nat} {G : Nat → List (Lean.RArray Nat)} (hP : gm_SF P cnt G) {s : gm_S} (H : gm_IN P cnt G s) {v b : Nat} (hb : b < 2) (hv : gm_VT s v (.leaf b)) : v / 8 < gm_n s ∧ gm_ck (gm_h s (v / 8)) < 3 := by
  refine ⟨hv.1, ?_⟩
  have hct := (hv.2.2 (by simp only [gd_hd]; omega)).2
  rcases H _ hv.1 with c | c | c | c | c
  · rw [c.1]; decide
  · rw [c.1]; decide
  · obtain ⟨_, i, l, e, _⟩ := c
    obtain ⟨_, t, e2, _⟩ := (hP _ i).2.2.2.2.1 l
    rw [hct, e2] at e
    exact absurd e (by simp)
  · obtain ⟨_, _, _, _, e, _⟩ := c
    rw [hct] at e
    exact absurd e (by simp)
  · obtain ⟨_, _, _, _, _, _, _, e, _⟩ := c
    rw [hct] at e
    exact absurd e (by simp)
theorem gm_VT_new {s : gm_S} {c : gm_Cell} {t : Lean.RArray Nat} (e : gm_ct c = t) (h2 : gd_hd t ≠ 2) : gm_VT (gm_push s c) (8 * gm_n s + 0) t := by
  have e8 : (8 * gm_n s + 0) / 8 = gm_n s := by omega
  unfold gm_VT
  rw [e8, gm_push_new]
  exact ⟨by rw [gm_push_n]; omega, fun z => absurd z h2, fun _ => ⟨by omega, e⟩⟩
theorem gm_ok_num {s : gm_S} {v : Nat} {k : Int32 → Option gm_O} {Q : Nat → gm_S → Prop} (h : v / 8 < gm_n s ∧ gm_ck (gm_h s (v / 8)) < 3) (hk : gm_ok (k (gm_ci (gm_h s (v / 8)))) Q) : gm_ok (gm_num s v k) Q := by
  unfold gm_num
  rw [if_pos h]
  exact hk
theorem gm_cb_leaf {t : Lean.RArray Nat} {n : Nat} (hn : n < 2) (h : gd_cb t (.leaf n) = true) : t = .leaf n ∨ gd_hd t = 2 ∧ gd_G (.leaf n) = .leaf n := by
  have g : gd_G (.leaf n) = .leaf n := gm_G_leaf (by simp only [gd_vt]; omega) (by simp only [gd_hd]; omega)
  cases t with
  | leaf m =>
    simp only [gd_cb, Bool.or_eq_true, beq_iff_eq] at h
    rcases h with (h | h) | h
    · right; exact ⟨h, g⟩
    · omega
    · left; rw [h]
  | branch k l r =>
    simp only [gd_cb, beq_iff_eq] at h
    omega
theorem gm_ok_rest {P : gm_P} {cnt : Nat} {G : Nat → List (Lean.RArray Nat)} (hP : gm_SF P cnt G) {d : Nat} {f : Nat → Nat → Nat → gm_S → Option gm_O} (hf : gm_HF P cnt G d f) {h i w v : Nat} {s : gm_S} {p2 p1 r z o y a : Nat} (hi : i < cnt) (hk : 4 ≤ gm_kd P i) (H : gm_IN P cnt G s) (hw : gm_WT s w (G i)) (hv : gm_VT s v (gm_tg P i 0)) (hh : h ≤ 2 * o + r) (hd : 41 ≤ d + gm_T s) (J : gm_K 2 s p2 p1 r (z + 2) (o + 1) y (a + 1))
    (JN : gm_ty P (gm_op P i 0) = gm_tg P i 0 ∨ gd_hd (gm_ty P (gm_op P i 0)) = 2 ∧ gd_G (gm_tg P i 0) = gm_tg P i 0 → gm_K 2 s p2 p1 r (z + 2) (o + 1) y (a + 2)) :
    gm_ok (gm_rest P f h i w v s) (fun v' s' => gm_IN P cnt G s' ∧ gm_VT s' v' (gm_ty P i) ∧ gm_le s s' ∧ gm_T s ≤ gm_T s' ∧ gm_K 2 s' p2 p1 r (z + 2) o y (a + 1)) := by
  obtain ⟨sT, s0, s1, s2, s3, s4, k4, k5, k6, k7, k8, k9, k11⟩ := hP i hi
  obtain ⟨kle, kop⟩ := s4 hk
  have room := gm_J_room J
  unfold gm_rest
  by_cases c9 : gm_kd P i = 9 ∨ gm_kd P i = 10
  · rw [if_pos c9]
    obtain ⟨A, B, e1, e2, e3⟩ := k9 c9
    have J2 : gm_K 2 s p2 p1 r (z + 2) (o + 1) y (a + 2) := JN (by
      rw [e1]
      rcases e3 with e3 | ⟨e3, eA, eB⟩
      · left; exact e3
      · right; rw [e3, eA, eB]; exact ⟨rfl, rfl⟩)
    rw [e1] at hv
    have q := gm_J_q J hv.1
    refine gm_ok_mono (gm_ok_take hP _ h v s p2 p1 (z + 2) A B H hv rfl (by omega) (gm_J_take J2 hv.1)) ?_
    rintro u s' ⟨a1, a2, a3, a4, _, a5⟩
    refine ⟨a1, ?_, a3, by omega, gm_J_w a5 (Nat.le_refl _) (Nat.le_refl _) (Nat.le_refl _) (Nat.le_refl _) (Nat.le_succ _) (Nat.le_refl _) (Nat.le_refl _)⟩
    rw [e2]
    rcases c9 with c | c
    · rw [c] at a2 ⊢; exact a2
    · rw [c] at a2 ⊢; exact a2
  rw [if_neg c9]
  by_cases c5 : gm_kd P i = 5
  · rw [if_pos c5]
    obtain ⟨e0, e1, e2⟩ := k5 c5
    rw [e0] at hv
    refine gm_ok_num (gm_num_ok hP H (by decide) hv) ?_
    have main : ∀ k, (k = 1 ∨ k = 2) → gm_ok (gm_opr P f h i k w s) (fun v' s' => gm_IN P cnt G s' ∧ gm_VT s' v' (gm_ty P i) ∧ gm_le s s' ∧ gm_T s ≤ gm_T s' ∧ gm_K 2 s' p2 p1 r (z + 2) o y (a + 1)) := by
      intro k hk12
      refine gm_ok_mono (gm_ok_opr hP hf (kop k (by omega)) H hw J hh hd) ?_
      rintro v' s' ⟨a1, a2, a3, a4, a5, _⟩
      refine ⟨a1, ?_, a3, a4, gm_J_w a5 (Nat.le_refl _) (Nat.le_refl _) (Nat.le_refl _) (Nat.le_refl _) (Nat.le_succ _) (Nat.le_refl _) (Nat.le_refl _)⟩
      rcases hk12 with z | z
      · subst z; rw [← e1]; exact a2
      · subst z; rw [← e2]; exact a2
    split
    · exact main 2 (Or.inr rfl)
    · exact main 1 (Or.inl rfl)
  rw [if_neg c5]
  by_cases c11 : gm_kd P i = 11
  · rw [if_pos c11]
    rw [k11 c11] at hv
    exact ⟨H, hv, gm_le_refl s, Nat.le_refl _, gm_J_w J (Nat.le_refl _) (Nat.le_refl _) (Nat.le_refl _) (Nat.le_refl _) (Nat.le_succ _) (Nat.le_refl _) (Nat.le_refl _)⟩
  rw [if_neg c11]
  have J2 : gm_K 2 s p2 p1 r (z + 2) (o + 1) y (a + 2) := JN (by
    have cb0 := (kop 0 (Or.inl rfl)).2.2.2
    have h4 : gm_kd P i = 4 ∨ gm_kd P i = 6 ∨ gm_kd P i = 7 ∨ gm_kd P i = 8 := by omega
    rcases h4 with c | c | c | c
    · obtain ⟨A, B, e1, _, _, e3⟩ := k4 c
      rw [e1]
      rcases e3 with e3 | ⟨e3, eA, eB⟩
      · left; exact e3
      · right; rw [e3, eA, eB]; exact ⟨rfl, rfl⟩
    · rw [(k6 c).1] at cb0 ⊢
      exact gm_cb_leaf (by decide) cb0
    · rw [(k7 c).1] at cb0 ⊢
      exact gm_cb_leaf (by decide) cb0
    · left; exact (k8 c).1.symm)
  have kop1 := kop 1 (by omega)
  refine gm_ok_bd (gm_ok_opr hP hf kop1 H hw J2 hh hd) ?_
  rintro v' s' ⟨a1, a2, a3, a4, a5, a6⟩
  have hv' := gm_VT_mono a3 hv
  have room' := gm_J_room a5
  by_cases c4 : gm_kd P i = 4
  · rw [if_pos c4]
    obtain ⟨A, B, e1, e2, e3, _⟩ := k4 c4
    rw [e1] at hv'
    rw [e2] at a2
    have q5 := gm_J_q a5 hv'.1
    rw [if_pos (by omega)]
    have J3 := gm_J_call (gm_J_w a5 (Nat.le_refl _) (Nat.le_refl _) (Nat.le_refl _) (Nat.le_refl _) (Nat.le_succ _) (Nat.le_refl _) (Nat.le_refl _) : gm_K 2 s' p2 p1 r (z + 2) o y (a + 2)) hv'.1
    refine gm_ok_mono (gm_ok_call hP hf _ h v v' s' p2 p1 (z + 2) A B a1 hv' a2 rfl (by omega) (by omega) J3) ?_
    rintro u s'' ⟨b1, b2, b3, b4, b5⟩
    refine ⟨b1, e3 ▸ b2, gm_le_trans a3 b3, by omega, gm_J_w b5 (Nat.le_refl _) (Nat.le_refl _) (Nat.le_add_right _ _) (by omega) (Nat.le_refl _) (Nat.le_refl _) (Nat.le_refl _)⟩
  rw [if_neg c4]
  have fin : ∀ (c : gm_Cell) (t : Lean.RArray Nat), gm_ct c = t → gm_ty P i = t → gd_hd t ≠ 2 → gm_CO P cnt G s' c → gm_K 2 (gm_push s' c) p2 p1 r (z + 2) o y (a + 1) → gm_ok (gm_new s' c 0) (fun v' s'' => gm_IN P cnt G s'' ∧ gm_VT s'' v' (gm_ty P i) ∧ gm_le s s'' ∧ gm_T s ≤ gm_T s'' ∧ gm_K 2 s'' p2 p1 r (z + 2) o y (a + 1)) := by
    intro c t ect ety h2 co J4
    refine gm_ok_new (by omega) ?_
    exact ⟨gm_IN_push a1 co, gm_VT_new (ect.trans ety.symm) (by rw [ety]; exact h2), gm_le_trans a3 (gm_le_push _ _), a4, J4⟩
  have J5 : gm_K 2 s' p2 p1 r (z + 2) (o + 1) y (a + 1) := gm_J_w a5 (Nat.le_refl _) (Nat.le_refl _) (Nat.le_refl _) (Nat.le_refl _) (Nat.le_refl _) (Nat.le_refl _) (Nat.le_succ _)
  by_cases c6 : gm_kd P i = 6
  · rw [if_pos c6]
    obtain ⟨e0, e1, e2⟩ := k6 c6
    rw [e0] at hv'
    rw [e1] at a2
    refine gm_ok_num (gm_num_ok hP a1 (by decide) hv') (gm_ok_num (gm_num_ok hP a1 (by decide) a2) ?_)
    exact fin _ (.leaf 0) rfl e2 (by simp [gd_hd]) (Or.inl ⟨rfl, rfl, rfl, rfl, rfl⟩) (gm_J_new J5 ⟨rfl, rfl, rfl⟩ rfl)
  rw [if_neg c6]
  by_cases c7 : gm_kd P i = 7
  · rw [if_pos c7]
    obtain ⟨e0, e1, e2⟩ := k7 c7
    rw [e0] at hv'
    rw [e1] at a2
    refine gm_ok_num (gm_num_ok hP a1 (by decide) hv') (gm_ok_num (gm_num_ok hP a1 (by decide) a2) ?_)
    exact fin _ (.leaf 1) rfl e2 (by simp [gd_hd]) (Or.inr (Or.inl ⟨rfl, rfl, rfl, rfl, rfl⟩)) (gm_J_new J5 ⟨rfl, rfl, rfl⟩ rfl)
  rw [if_neg c7]
  have c8 : gm_kd P i = 8 := by omega
  rw [if_pos c8]
  obtain ⟨e0, e1, e2⟩ := k8 c8
  have J6 := a6 (Or.inl e1.symm)
  rw [e0] at hv'
  rw [e1] at a2
  rw [if_pos ⟨hv'.1, a2.1⟩]
  refine fin _ (gm_ty P i) rfl rfl (by rw [e2]; simp [gd_hd]) (Or.inr (Or.inr (Or.inr (Or.inl ⟨rfl, ⟨rfl, rfl, rfl⟩, _, _, e2, gd_TY_l (e2 ▸ sT), gd_TY_r (e2 ▸ sT), hv', a2, ?_, ?_⟩)))) (gm_J_pair J6 ⟨rfl, rfl, rfl⟩ hv'.1 a2.1 rfl)
  · have := gd_mx_l (gm_rk (gm_h s' (v / 8))) (gm_rk (gm_h s' (v' / 8)))
    show gm_rk (gm_h s' (v / 8)) < 1 + gd_mx (gm_rk (gm_h s' (v / 8))) (gm_rk (gm_h s' (v' / 8)))
    omega
  · have := gd_mx_r (gm_rk (gm_h s' (v / 8))) (gm_rk (gm_h s' (v' / 8)))
    show gm_rk (gm_h s' (v' / 8)) < 1 + gd_mx (gm_rk (gm_h s' (v / 8))) (gm_rk (gm_h s' (v' / 8)))
    omega
theorem gm_var_ok {s : gm_S} : ∀ (l : List (Lean.RArray Nat)) (n w : Nat) (t : Lean.RArray Nat), gm_WT s w l → l[n]? = some t → ∃ v, gm_var s n w = some v ∧ gm_VT s v t := by
  intro l
  induction l with
  | nil => intro n w t _ e; simp at e
  | cons x l ih =>
    intro n w t hw e
    simp only [gm_WT] at hw
    cases n with
    | zero =>
      simp at e
      subst e
      exact ⟨(gm_e s w).1, by simp only [gm_var]; rw [if_pos ⟨hw.1, hw.2.1⟩], hw.2.2.1⟩
    | succ n =>
      simp at e
      obtain ⟨v, h1, h2⟩ := ih n _ t hw.2.2.2 e
      exact ⟨v, by simp only [gm_var]; rw [if_pos ⟨hw.1, hw.2.1⟩]; exact h1, h2⟩
theorem gm_ok_ev {P : gm_P} {cnt : Nat} {G : Nat → List (Lean.RArray Nat)} (hP : gm_SF P cnt G) (hcn : gm_cn P = cnt) : ∀ d, gm_HF P cnt G d (gm_ev P d) := by
  intro d
  induction d with
  | zero =>
    intro h i w s p2 p1 r z o y a hi H hw J hh hd
    have room := gm_J_room J
    omega
  | succ d ih =>
    intro h i w s p2 p1 r z o y a hi H hw J hh hd
    have room := gm_J_room J
    simp only [gm_ev]
    rw [if_pos (by rw [hcn]; exact hi)]
    refine gm_ok_tick ⟨by omega, by omega, by omega, by omega⟩ ?_
    by_cases hT : 40 ≤ gm_T (gm_tk s)
    · rw [if_pos hT]
      exact trivial
    rw [if_neg hT]
    have hT' : gm_T s < 40 := Nat.lt_of_not_le hT
    have J1 : gm_K 2 (gm_st (gm_tk s)) p2 p1 r (z + 2) (o + 1) y (a + 1) := gm_J_tk (gm_J_st J hT')
    have H1 : gm_IN P cnt G (gm_st (gm_tk s)) := gm_IN_st (gm_IN_tk H)
    have hw1 : gm_WT (gm_st (gm_tk s)) w (G i) := gm_WT_mono (gm_le_st _) _ _ (gm_WT_mono (gm_le_tk _) _ _ hw)
    have lT : gm_T s ≤ gm_T (gm_st (gm_tk s)) := Nat.le_succ _
    have eT : gm_T (gm_st (gm_tk s)) = gm_T s + 1 := rfl
    have le1 : gm_le s (gm_st (gm_tk s)) := gm_le_refl s
    have room1 := gm_J_room J1
    obtain ⟨sT, s0, s1, s2, s3, s4, _⟩ := hP i hi
    have fin : ∀ (c : gm_Cell), gm_ct c = gm_ty P i → gd_hd (gm_ty P i) ≠ 2 → gm_CO P cnt G (gm_st (gm_tk s)) c → gm_Q0 c → gm_rk c = 0 → gm_ok (gm_new (gm_st (gm_tk s)) c 0) (fun v' s'' => gm_IN P cnt G s'' ∧ gm_VT s'' v' (gm_ty P i) ∧ gm_le s s'' ∧ gm_T s ≤ gm_T s'' ∧ gm_K 2 s'' p2 p1 r (z + 2) o y (a + 1)) := by
      intro c ect h2 co q k
      refine gm_ok_new (by omega) ?_
      exact ⟨gm_IN_push H1 co, gm_VT_new ect h2, gm_le_trans le1 (gm_le_push _ _), lT, gm_J_new J1 q k⟩
    by_cases c0 : gm_kd P i = 0
    · rw [if_pos c0]
      exact fin _ (s0 c0).symm (by rw [s0 c0]; simp [gd_hd]) (Or.inl ⟨rfl, rfl, rfl, rfl, rfl⟩) ⟨rfl, rfl, rfl⟩ rfl
    rw [if_neg c0]
    by_cases c1 : gm_kd P i = 1
    · rw [if_pos c1]
      exact fin _ (s1 c1).symm (by rw [s1 c1]; simp [gd_hd]) (Or.inr (Or.inl ⟨rfl, rfl, rfl, rfl, rfl⟩)) ⟨rfl, rfl, rfl⟩ rfl
    rw [if_neg c1]
    by_cases c2 : gm_kd P i = 2
    · rw [if_pos c2]
      obtain ⟨v, e1, e2⟩ := gm_var_ok _ _ w _ hw1 (s2 c2)
      rw [e1]
      exact ⟨H1, e2, le1, lT, gm_J_w J1 (Nat.le_refl _) (Nat.le_refl _) (Nat.le_refl _) (Nat.le_refl _) (Nat.le_succ _) (Nat.le_refl _) (Nat.le_refl _)⟩
    rw [if_neg c2]
    by_cases c3 : gm_kd P i = 3
    · rw [if_pos c3]
      obtain ⟨_, t, e1, _⟩ := s3 c3
      exact fin _ rfl (by rw [e1]; simp [gd_hd]) (Or.inr (Or.inr (Or.inl ⟨rfl, hi, c3, rfl, hw1, rfl, rfl, rfl⟩))) ⟨rfl, rfl, rfl⟩ rfl
    rw [if_neg c3]
    have k4 : 4 ≤ gm_kd P i := by omega
    have kop := (s4 k4).2 0 (Or.inl rfl)
    refine gm_ok_bd (gm_ok_opr hP ih kop H1 hw1 J1 hh (by omega)) ?_
    rintro v s' ⟨a1, a2, a3, a4, a5, a6⟩
    refine gm_ok_mono (gm_ok_rest hP ih hi k4 a1 (gm_WT_mono a3 _ _ hw1) a2 hh (by omega) a5 a6) ?_
    rintro v' s'' ⟨b1, b2, b3, b4, b5⟩
    exact ⟨b1, b2, gm_le_trans le1 (gm_le_trans a3 b3), by omega, b5⟩
/-! the run and the takes of look -/
def gm_s0 : gm_S := (0, (fun _ => (0, 0, 0, 0, .leaf 0, .leaf 0, 0, 0, 0, 0, 0)), 1, (fun _ => (0, 0)), 0, 0)
def gm_run (P : gm_P) : Option gm_O := gm_ev P 41 0 0 0 gm_s0
/-- what is known of a run's value -/
def gm_L (P : gm_P) (cnt : Nat) (G : Nat → List (Lean.RArray Nat)) (s : gm_S) (v : Nat) : Prop :=
  gm_IN P cnt G s ∧ (∃ t, gd_TY t ∧ gm_VT s v t) ∧ gm_K 0 s 0 0 0 0 0 0 (gm_rk (gm_h s (v / 8)))
theorem gm_run_ok {P : gm_P} {cnt : Nat} {G : Nat → List (Lean.RArray Nat)} (hP : gm_SF P cnt G) (hcn : gm_cn P = cnt) (hc : 0 < cnt) (hG : G 0 = []) : gm_ok (gm_run P) (fun v s => gm_L P cnt G s v ∧ gm_u s < 1000000 ∧ gm_n s < 5000 ∧ gm_m s < 64) := by
  have J : gm_K 2 gm_s0 0 0 0 0 0 0 0 := by
    refine ⟨0, 0, 0, 0, 0, 0, 0, by decide, by decide, rfl, by decide, by decide, by decide, by decide, by decide, by decide, by decide, ?_⟩
    intro c hc'
    exact absurd hc' (Nat.not_lt_zero _)
  refine gm_ok_mono (gm_ok_ev hP hcn 41 0 0 0 gm_s0 0 0 0 0 0 0 0 hc (fun c hc' => absurd hc' (Nat.not_lt_zero _)) (by rw [hG]; exact trivial) J (by decide) (by decide)) ?_
  rintro v s ⟨a1, a2, a3, a4, a5⟩
  have room := gm_J_room a5
  refine ⟨⟨a1, ⟨_, (hP 0 hc).1, a2⟩, ?_⟩, by omega, by omega, by omega⟩
  obtain ⟨S, M, B, C1, C2, C3, N, j1, j2, j3, j4, j5, j6, j7, j8, j9, j10, j11⟩ := a5
  have k := (j11 _ a2.1).2.2.2
  exact ⟨S, M, B, C1, C2, C3, N, by omega, j2, j3, by omega, j5, by omega, by omega, by omega, by omega, by omega, j11⟩
theorem gm_rk_pos {P : gm_P} {cnt : Nat} {G : Nat → List (Lean.RArray Nat)} (hP : gm_SF P cnt G) {s : gm_S} (H : gm_IN P cnt G s) : ∀ n c, c < gm_n s → gm_q1 (gm_h s c) = n → gd_hd (gm_ct (gm_h s c)) = 4 → 0 < gm_rk (gm_h s c) := by
  intro n
  induction n with
  | zero =>
    intro c hc hq h4
    rcases H c hc with x | x | x | x | x
    · rw [x.2.1] at h4; exact absurd h4 (by simp [gd_hd])
    · rw [x.2.1] at h4; exact absurd h4 (by simp [gd_hd])
    · obtain ⟨_, i, l, e, _⟩ := x
      obtain ⟨_, t, e2, _⟩ := (hP _ i).2.2.2.2.1 l
      rw [e, e2] at h4
      exact absurd h4 (by simp [gd_hd])
    · obtain ⟨_, _, _, _, _, _, _, _, _, r, _⟩ := x
      omega
    · obtain ⟨_, _, _, _, _, _, _, _, _, _, _, _, _, q, _⟩ := x
      omega
  | succ n ih =>
    intro c hc hq h4
    rcases H c hc with x | x | x | x | x
    · have := x.2.2.1; omega
    · have := x.2.2.1; omega
    · have := x.2.2.2.2.2.1; omega
    · have := x.2.1.1; omega
    · obtain ⟨k, a0, b0, a', b', hk, ef, et, tf, tt, ca, cb, va, q1, q2, q3, rk⟩ := x
      rw [et] at h4
      simp only [gd_hd] at h4
      subst h4
      rw [rk]
      refine ih _ va.1 (by omega) ?_
      rw [(va.2.2 (by rw [ef]; simp [gd_hd])).2, ef]
      rfl
/-- a look's turns are counted from 0 -/
def gm_u0 (s : gm_S) : gm_S := (s.1, s.2.1, s.2.2.1, s.2.2.2.1, s.2.2.2.2.1, 0)
theorem gm_take_c {side : Nat} : ∀ (n h v v' : Nat) (s : gm_S), v / 8 = v' / 8 → gm_take side n h v s = gm_take side n h v' s := by
  intro n h v v' s e
  cases n with
  | zero => simp only [gm_take]; rw [e]
  | succ n => simp only [gm_take]; rw [e]
theorem gm_shape4 {P : gm_P} {cnt : Nat} {G : Nat → List (Lean.RArray Nat)} (hP : gm_SF P cnt G) {s : gm_S} {c : gm_Cell} (H : gm_CO P cnt G s c) (h : gm_sh (gm_ck c) = 4) : ∃ A B, gm_ct c = .branch 4 A B := by
  obtain ⟨a, b, d⟩ := gm_CO_sh hP H
  have lt := gd_hd_lt d
  have h4 : gd_hd (gm_ct c) = 4 := by
    rw [h] at a
    unfold gm_tag at a
    split at a <;> omega
  obtain ⟨l, r, e, _⟩ := gm_br_of (by omega) d
  rw [h4] at e
  exact ⟨l, r, e⟩
theorem gm_look_take {P : gm_P} {cnt : Nat} {G : Nat → List (Lean.RArray Nat)} (hP : gm_SF P cnt G) {s : gm_S} {v side : Nat} (L : gm_L P cnt G s v) (h : gm_sh (gm_ck (gm_h s (v / 8))) = 4) :
    gm_ok (gm_take side (gm_q1 (gm_h s (v / 8))) 0 v (gm_u0 s)) (fun u s' => gm_L P cnt G s' u ∧ gm_le s s' ∧ gm_u s' < 1000000 ∧ gm_n s' < 5000 ∧ gm_m s' < 64) := by
  obtain ⟨H, ⟨t, ht, hv⟩, K⟩ := L
  obtain ⟨A, B, e⟩ := gm_shape4 hP (H _ hv.1) h
  have TAB : gd_vt (gm_ct (gm_h s (v / 8))) := (gm_CO_sh hP (H _ hv.1)).2.2
  have rp := gm_rk_pos hP H _ _ hv.1 rfl (by rw [e]; rfl)
  have H0 : gm_IN P cnt G (gm_u0 s) := gm_IN_le H (gm_le_refl s) rfl
  have e8 : 8 * (v / 8) / 8 = v / 8 := by omega
  have hv0 : gm_VT (gm_u0 s) (8 * (v / 8)) (.branch 4 A B) := by
    unfold gm_VT
    rw [e8]
    exact ⟨hv.1, fun z => absurd z (by simp [gd_hd]), fun _ => ⟨by omega, e⟩⟩
  have K1 : gm_K 0 (gm_u0 s) 0 0 0 0 0 0 ((gm_rk (gm_h s (v / 8)) - 1) + 1) := by
    rw [show gm_rk (gm_h s (v / 8)) - 1 + 1 = gm_rk (gm_h s (v / 8)) by omega]
    obtain ⟨S, M, B, C1, C2, C3, N, j1, j2, j3, j4, j5, j6, j7, j8, j9, j10, j11⟩ := K
    refine ⟨S, M, B, C1, C2, C3, N, j1, j2, j3, j4, j5, j6, j7, j8, ?_, j10, j11⟩
    show 0 + 0 ≤ 3 * gm_T s + 9937 * M
    omega
  have K2 := gm_J_take K1 (show v / 8 < gm_n (gm_u0 s) from hv.1)
  have q := gm_J_q K (show v / 8 < gm_n s from hv.1)
  rw [gm_take_c _ 0 v (8 * (v / 8)) _ e8.symm]
  have tAB : gd_TY (if side = 0 then A else B) := by
    have c := H _ hv.1
    rcases c with x | x | x | x | x
    · rw [x.2.1] at e; exact absurd e (by simp)
    · rw [x.2.1] at e; exact absurd e (by simp)
    · obtain ⟨_, i, l, e1, _⟩ := x
      obtain ⟨_, t, e2, _⟩ := (hP _ i).2.2.2.2.1 l
      rw [e1, e2] at e
      injection e with e _ _
      exact absurd e (by decide)
    · obtain ⟨_, _, A', B', e1, ta, tb, _⟩ := x
      rw [e] at e1
      injection e1 with _ e1 e2
      subst e1 e2
      split
      · exact ta
      · exact tb
    · obtain ⟨_, _, _, _, _, _, _, _, _, tt, _⟩ := x
      rw [e] at tt
      split
      · exact gd_TY_l tt
      · exact gd_TY_r tt
  refine gm_ok_mono (gm_ok_take hP _ 0 (8 * (v / 8)) (gm_u0 s) 0 0 0 A B H0 hv0 (by rw [e8]; rfl) (by omega) (by rw [e8]; exact K2)) ?_
  rintro u s' ⟨a1, a2, a3, a4, a5, a6⟩
  have room := gm_J_room a6
  refine ⟨⟨a1, ⟨_, tAB, a2⟩, ?_⟩, a3, by omega, by omega, by omega⟩
  rw [e8] at a5
  have a5' : gm_rk (gm_h s' (u / 8)) < gm_rk (gm_h s (v / 8)) := a5
  exact gm_J_w a6 (Nat.le_refl _) (Nat.le_refl _) (Nat.le_refl _) (Nat.le_refl _) (Nat.le_refl _) (Nat.le_refl _) (by omega)
end
section
/-! ===== 09: the program that a sound draft is ===== -/
/-- the type that operand k of token i is cast to -/
def gs_tg (k j : Nat) (ti t0 own : Lean.RArray Nat) : Lean.RArray Nat :=
  if k = 4 then (if j = 0 then (if gd_hd own = 2 then .branch 3 (.leaf 2) (.leaf 2) else own) else (if gd_hd t0 = 2 then .leaf 2 else gd_lf t0))
  else if k = 9 ∨ k = 10 then (if gd_hd own = 2 then .branch 4 (.leaf 2) (.leaf 2) else own)
  else if k = 5 then (if j = 0 then .leaf 1 else ti)
  else if k = 6 ∨ k = 7 then .leaf 0
  else if k = 11 then ti
  else own
def gs_P (kd : Nat → Nat) (vl : Nat → Int32) (nm : Nat → Lean.RArray Nat) (cnt : Nat) : gm_P :=
  (kd, vl, gs_op (gs_en kd cnt), (fun i => (gs_rho kd (fun j => (vl j).toNatClampNeg) nm cnt i).2),
    (fun i k => gs_tg (kd i) k (gs_rho kd (fun j => (vl j).toNatClampNeg) nm cnt i).2 (gs_rho kd (fun j => (vl j).toNatClampNeg) nm cnt (gs_op (gs_en kd cnt) i 0)).2 (gs_rho kd (fun j => (vl j).toNatClampNeg) nm cnt (gs_op (gs_en kd cnt) i k)).2), cnt)
def gs_G (kd : Nat → Nat) (vl : Nat → Int32) (nm : Nat → Lean.RArray Nat) (cnt i : Nat) : List (Lean.RArray Nat) := (gs_col kd (fun j => (vl j).toNatClampNeg) (gs_en kd cnt) i i).map nm
theorem gs_ar_k {k : Nat} (h4 : 4 ≤ k) {j : Nat} (h : j = 0 ∨ j = 1 ∧ k < 9 ∨ j = 2 ∧ k = 5) : j < gs_ar k := by
  unfold gs_ar
  rw [if_neg (by omega)]
  by_cases c : k = 5
  · rw [if_pos c]; omega
  · rw [if_neg c]
    by_cases d : k = 4 ∨ 5 < k ∧ k < 9
    · rw [if_pos d]; omega
    · rw [if_neg d]; omega
theorem gs_hd3 {t : Lean.RArray Nat} (h : gd_vt t) (h3 : gd_hd t = 3) : t = .branch 3 (gd_lf t) (gd_rt t) := by
  obtain ⟨l, r, e, _⟩ := gm_br_of (by omega) h
  rw [h3] at e
  rw [e]
  rfl
theorem gs_hd4 {t : Lean.RArray Nat} (h : gd_vt t) (h3 : gd_hd t = 4) : t = .branch 4 (gd_lf t) (gd_rt t) := by
  obtain ⟨l, r, e, _⟩ := gm_br_of (by omega) h
  rw [h3] at e
  rw [e]
  rfl
theorem gs_if2 {p : Prop} {_ : Decidable p} (h : (if p then (0 : Nat) else 2) = 0) : p := by
  by_cases c : p
  · exact c
  · rw [if_neg c] at h; exact absurd h (by decide)
theorem gs_typ4 {nm : Nat → Lean.RArray Nat} {v : Nat} {l : List Nat} {t0 t1 t2 : Lean.RArray Nat} : gs_typ nm 4 v l t0 t1 t2 = (if gd_hd t0 = 2 then (0, .leaf 2) else if gd_hd t0 = 3 then (if gd_cb t1 (gd_lf t0) = true then 0 else 2, gd_rt t0) else (2, .leaf 0)) := rfl
theorem gs_tg40 {ti t0 own : Lean.RArray Nat} : gs_tg 4 0 ti t0 own = (if gd_hd own = 2 then .branch 3 (.leaf 2) (.leaf 2) else own) := rfl
theorem gs_tg41 {ti t0 own : Lean.RArray Nat} : gs_tg 4 1 ti t0 own = (if gd_hd t0 = 2 then .leaf 2 else gd_lf t0) := rfl
theorem gs_typ9 {nm : Nat → Lean.RArray Nat} {k v : Nat} {l : List Nat} {t0 t1 t2 : Lean.RArray Nat} (q : k = 9 ∨ k = 10) : gs_typ nm k v l t0 t1 t2 = (if gd_hd t0 = 2 then (0, .leaf 2) else if gd_hd t0 = 4 then (0, if k = 9 then gd_lf t0 else gd_rt t0) else (2, .leaf 0)) := by
  rcases q with q | q
  · subst q; rfl
  · subst q; rfl
theorem gs_tg9 {k : Nat} {ti t0 own : Lean.RArray Nat} (q : k = 9 ∨ k = 10) : gs_tg k 0 ti t0 own = (if gd_hd own = 2 then .branch 4 (.leaf 2) (.leaf 2) else own) := by
  rcases q with q | q
  · subst q; rfl
  · subst q; rfl
theorem gs_SF {kd : Nat → Nat} {vl : Nat → Int32} {nm : Nat → Lean.RArray Nat} {cnt : Nat} (W : gs_WF kd cnt) (hn : ∀ n, gd_TY (nm n)) (h12 : ∀ i, i < cnt → kd i < 12) (ok : ∀ i, i < cnt → (gs_rho kd (fun j => (vl j).toNatClampNeg) nm cnt i).1 = 0) : gm_SF (gs_P kd vl nm cnt) cnt (gs_G kd vl nm cnt) := by
  intro i hi
  have k12 := h12 i hi
  have tyi := gs_rTY (vn := fun j => (vl j).toNatClampNeg) W hn hi
  have c0 := ok i hi
  obtain ⟨snd, e⟩ := gs_code4 W hi (show (gs_rho kd (fun j => (vl j).toNatClampNeg) nm cnt i).1 ≠ 4 by rw [c0]; decide)
  have opt : ∀ k, k < gs_ar (kd i) → gs_op (gs_en kd cnt) i k < cnt ∧ gd_TY (gs_rho kd (fun j => (vl j).toNatClampNeg) nm cnt (gs_op (gs_en kd cnt) i k)).2 ∧ gs_tk (gs_en kd cnt) (gs_rho kd (fun j => (vl j).toNatClampNeg) nm cnt) i (gs_ar (kd i)) k = (gs_rho kd (fun j => (vl j).toNatClampNeg) nm cnt (gs_op (gs_en kd cnt) i k)).2 := by
    intro k hk
    have l := gs_op_lt W hi hk
    exact ⟨l.2, gs_rTY W hn l.2, by unfold gs_tk; rw [if_pos hk]⟩
  have cop : ∀ k, k < gs_ar (kd i) → gs_G kd vl nm cnt (gs_op (gs_en kd cnt) i k) = (if kd i = 3 then nm (vl i).toNatClampNeg :: gs_G kd vl nm cnt i else gs_G kd vl nm cnt i) := by
    intro k hk
    unfold gs_G
    rw [gs_col_op W hi hk]
    split <;> rfl
  have L0 := gs_TY0 0 (by decide)
  have L1 := gs_TY0 1 (by decide)
  have L2 := gs_TY0 2 (by decide)
  have g3 : gd_TY (.branch 3 (.leaf 2) (.leaf 2)) := ⟨⟨Or.inl rfl, L2.1, L2.1⟩, by decide⟩
  have g4 : gd_TY (.branch 4 (.leaf 2) (.leaf 2)) := ⟨⟨Or.inr rfl, L2.1, L2.1⟩, by decide⟩
  show gd_TY (gs_rho kd (fun j => (vl j).toNatClampNeg) nm cnt i).2 ∧ _
  refine ⟨tyi, ?_, ?_, ?_, ?_, ?_, ?_, ?_, ?_, ?_, ?_, ?_, ?_⟩
  · intro (k : kd i = 0)
    show (gs_rho kd (fun j => (vl j).toNatClampNeg) nm cnt i).2 = _
    rw [e, k]
    rfl
  · intro (k : kd i = 1)
    show (gs_rho kd (fun j => (vl j).toNatClampNeg) nm cnt i).2 = _
    rw [e, k]
    rfl
  · intro (k : kd i = 2)
    show (gs_G kd vl nm cnt i)[(vl i).toNatClampNeg]? = some (gs_rho kd (fun j => (vl j).toNatClampNeg) nm cnt i).2
    rw [e] at c0 ⊢
    rw [k] at c0 ⊢
    unfold gs_G
    rw [List.getElem?_map]
    change (gs_var nm _).1 = 0 at c0
    change _ = some (gs_var nm _).2
    generalize (gs_col kd (fun j => (vl j).toNatClampNeg) (gs_en kd cnt) i i)[(vl i).toNatClampNeg]? = o at c0 ⊢
    cases o with
    | none => exact absurd c0 (by simp [gs_var])
    | some n => rfl
  · intro (k : kd i = 3)
    have h0 : 0 < gs_ar (kd i) := by rw [k]; decide
    obtain ⟨l, t0, et0⟩ := opt 0 h0
    refine ⟨l, nm (vl i).toNatClampNeg, ?_, ?_⟩
    · show (gs_rho kd (fun j => (vl j).toNatClampNeg) nm cnt i).2 = .branch 3 _ (gs_rho kd (fun j => (vl j).toNatClampNeg) nm cnt (i + 1)).2
      rw [et0] at e
      rw [e] at c0 ⊢
      rw [k] at c0 ⊢
      change (gs_cmp 3 (nm (vl i).toNatClampNeg) (gs_rho kd (fun j => (vl j).toNatClampNeg) nm cnt (i + 1)).2).1 = 0 at c0
      show (gs_cmp 3 (nm (vl i).toNatClampNeg) (gs_rho kd (fun j => (vl j).toNatClampNeg) nm cnt (i + 1)).2).2 = _
      unfold gs_cmp at c0 ⊢
      split at c0
      · rename_i q; rw [if_pos q]
      · exact absurd c0 (by decide)
    · have := cop 0 h0
      rw [if_pos k] at this
      exact this
  · intro (k4 : 4 ≤ kd i)
    refine ⟨by show kd i ≤ 11; omega, ?_⟩
    intro k (hk : k = 0 ∨ k = 1 ∧ kd i < 9 ∨ k = 2 ∧ kd i = 5)
    have hk' := gs_ar_k k4 hk
    obtain ⟨l, tk, etk⟩ := opt k hk'
    have c := cop k hk'
    rw [if_neg (by omega)] at c
    have h0 : 0 < gs_ar (kd i) := gs_ar_k k4 (Or.inl rfl)
    obtain ⟨l0, t0, et0⟩ := opt 0 h0
    refine ⟨l, c, ?_⟩
    show gd_TY (gs_tg (kd i) k (gs_rho kd (fun j => (vl j).toNatClampNeg) nm cnt i).2 (gs_rho kd (fun j => (vl j).toNatClampNeg) nm cnt (gs_op (gs_en kd cnt) i 0)).2 (gs_rho kd (fun j => (vl j).toNatClampNeg) nm cnt (gs_op (gs_en kd cnt) i k)).2) ∧ gd_cb (gs_rho kd (fun j => (vl j).toNatClampNeg) nm cnt (gs_op (gs_en kd cnt) i k)).2 (gs_tg (kd i) k (gs_rho kd (fun j => (vl j).toNatClampNeg) nm cnt i).2 (gs_rho kd (fun j => (vl j).toNatClampNeg) nm cnt (gs_op (gs_en kd cnt) i 0)).2 (gs_rho kd (fun j => (vl j).toNatClampNeg) nm cnt (gs_op (gs_en kd cnt) i k)).2) = true
    rw [et0] at e
    have e1 : 1 < gs_ar (kd i) → gs_tk (gs_en kd cnt) (gs_rho kd (fun j => (vl j).toNatClampNeg) nm cnt) i (gs_ar (kd i)) 1 = (gs_rho kd (fun j => (vl j).toNatClampNeg) nm cnt (gs_op (gs_en kd cnt) i 1)).2 := fun z => (opt 1 z).2.2
    have e2 : 2 < gs_ar (kd i) → gs_tk (gs_en kd cnt) (gs_rho kd (fun j => (vl j).toNatClampNeg) nm cnt) i (gs_ar (kd i)) 2 = (gs_rho kd (fun j => (vl j).toNatClampNeg) nm cnt (gs_op (gs_en kd cnt) i 2)).2 := fun z => (opt 2 z).2.2
    have e' := e
    rw [e] at c0
    clear e
    have hcase : kd i = 4 ∨ kd i = 5 ∨ kd i = 6 ∨ kd i = 7 ∨ kd i = 8 ∨ kd i = 9 ∨ kd i = 10 ∨ kd i = 11 := by omega
    unfold gs_tg
    rcases hcase with q | q | q | q | q | q | q | q
    · rw [if_pos q]
      rw [e1 (by rw [q]; decide)] at c0
      rw [q] at c0 hk
      by_cases z : k = 0
      · subst z
        rw [if_pos rfl]
        by_cases y : gd_hd (gs_rho kd (fun j => (vl j).toNatClampNeg) nm cnt (gs_op (gs_en kd cnt) i 0)).2 = 2
        · rw [if_pos y]
          rw [gm_leaf_of t0.1 (by omega), y]
          exact ⟨g3, gd_cb_any _⟩
        · rw [if_neg y]; exact ⟨t0, gd_cb_refl _⟩
      · rw [if_neg z]
        have z1 : k = 1 := by omega
        subst z1
        by_cases y : gd_hd (gs_rho kd (fun j => (vl j).toNatClampNeg) nm cnt (gs_op (gs_en kd cnt) i 0)).2 = 2
        · rw [if_pos y]; exact ⟨L2, gd_cb_any' _⟩
        · rw [if_neg y]
          refine ⟨gs_lf_TY t0, ?_⟩
          change (if gd_hd (gs_rho kd (fun j => (vl j).toNatClampNeg) nm cnt (gs_op (gs_en kd cnt) i 0)).2 = 2 then (0, Lean.RArray.leaf 2) else if gd_hd (gs_rho kd (fun j => (vl j).toNatClampNeg) nm cnt (gs_op (gs_en kd cnt) i 0)).2 = 3 then (if gd_cb (gs_rho kd (fun j => (vl j).toNatClampNeg) nm cnt (gs_op (gs_en kd cnt) i 1)).2 (gd_lf (gs_rho kd (fun j => (vl j).toNatClampNeg) nm cnt (gs_op (gs_en kd cnt) i 0)).2) = true then 0 else 2, gd_rt (gs_rho kd (fun j => (vl j).toNatClampNeg) nm cnt (gs_op (gs_en kd cnt) i 0)).2) else (2, Lean.RArray.leaf 0)).1 = 0 at c0
          rw [if_neg y] at c0
          split at c0
          · exact gs_if2 c0
          · exact absurd c0 (by decide)
    · rw [if_neg (by omega), if_neg (by omega), if_pos q]
      rw [e1 (by rw [q]; decide), e2 (by rw [q]; decide)] at c0
      rw [q] at c0 hk
      have c1 := gs_if2 (show (if gd_cb (gs_rho kd (fun j => (vl j).toNatClampNeg) nm cnt (gs_op (gs_en kd cnt) i 0)).2 (.leaf 1) = true ∧ gd_cb (gs_rho kd (fun j => (vl j).toNatClampNeg) nm cnt (gs_op (gs_en kd cnt) i 2)).2 (gs_rho kd (fun j => (vl j).toNatClampNeg) nm cnt (gs_op (gs_en kd cnt) i 1)).2 = true then (0 : Nat) else 2) = 0 from c0)
      by_cases z : k = 0
      · subst z
        rw [if_pos rfl]
        exact ⟨L1, c1.1⟩
      · rw [if_neg z]
        refine ⟨tyi, ?_⟩
        rw [e', e1 (by rw [q]; decide), e2 (by rw [q]; decide), q]
        show gd_cb _ (gs_rho kd (fun j => (vl j).toNatClampNeg) nm cnt (gs_op (gs_en kd cnt) i 1)).2 = true
        have z1 : k = 1 ∨ k = 2 := by omega
        rcases z1 with z1 | z1
        · subst z1; exact gd_cb_refl _
        · subst z1; exact c1.2
    · rw [if_neg (by omega), if_neg (by omega), if_neg (by omega), if_pos (Or.inl q)]
      rw [e1 (by rw [q]; decide)] at c0
      rw [q] at c0 hk
      have c1 := gs_if2 (show (if gd_cb (gs_rho kd (fun j => (vl j).toNatClampNeg) nm cnt (gs_op (gs_en kd cnt) i 0)).2 (.leaf 0) = true ∧ gd_cb (gs_rho kd (fun j => (vl j).toNatClampNeg) nm cnt (gs_op (gs_en kd cnt) i 1)).2 (.leaf 0) = true then (0 : Nat) else 2) = 0 from c0)
      have z1 : k = 0 ∨ k = 1 := by omega
      rcases z1 with z1 | z1
      · subst z1; exact ⟨L0, c1.1⟩
      · subst z1; exact ⟨L0, c1.2⟩
    · rw [if_neg (by omega), if_neg (by omega), if_neg (by omega), if_pos (Or.inr q)]
      rw [e1 (by rw [q]; decide)] at c0
      rw [q] at c0 hk
      have c1 := gs_if2 (show (if gd_cb (gs_rho kd (fun j => (vl j).toNatClampNeg) nm cnt (gs_op (gs_en kd cnt) i 0)).2 (.leaf 0) = true ∧ gd_cb (gs_rho kd (fun j => (vl j).toNatClampNeg) nm cnt (gs_op (gs_en kd cnt) i 1)).2 (.leaf 0) = true then (0 : Nat) else 2) = 0 from c0)
      have z1 : k = 0 ∨ k = 1 := by omega
      rcases z1 with z1 | z1
      · subst z1; exact ⟨L0, c1.1⟩
      · subst z1; exact ⟨L0, c1.2⟩
    · rw [if_neg (by omega), if_neg (by omega), if_neg (by omega), if_neg (by omega), if_neg (by omega)]
      exact ⟨tk, gd_cb_refl _⟩
    · rw [if_neg (by omega), if_pos (Or.inl q)]
      by_cases y : gd_hd (gs_rho kd (fun j => (vl j).toNatClampNeg) nm cnt (gs_op (gs_en kd cnt) i k)).2 = 2
      · rw [if_pos y, gm_leaf_of tk.1 (by omega), y]
        exact ⟨g4, gd_cb_any _⟩
      · rw [if_neg y]; exact ⟨tk, gd_cb_refl _⟩
    · rw [if_neg (by omega), if_pos (Or.inr q)]
      by_cases y : gd_hd (gs_rho kd (fun j => (vl j).toNatClampNeg) nm cnt (gs_op (gs_en kd cnt) i k)).2 = 2
      · rw [if_pos y, gm_leaf_of tk.1 (by omega), y]
        exact ⟨g4, gd_cb_any _⟩
      · rw [if_neg y]; exact ⟨tk, gd_cb_refl _⟩
    · rw [if_neg (by omega), if_neg (by omega), if_neg (by omega), if_neg (by omega), if_pos q]
      rw [q] at c0 hk
      have z1 : k = 0 := by omega
      subst z1
      refine ⟨tyi, ?_⟩
      rw [e', q]
      exact gs_if2 c0
  · intro (q : kd i = 4)
    have h0 : 0 < gs_ar (kd i) := gs_ar_k (by omega) (Or.inl rfl)
    obtain ⟨l0, t0, et0⟩ := opt 0 h0
    rw [et0] at e
    show ∃ a b, gs_tg (kd i) 0 _ _ _ = .branch 3 a b ∧ gs_tg (kd i) 1 _ _ _ = a ∧ (gs_rho kd (fun j => (vl j).toNatClampNeg) nm cnt i).2 = b ∧ ((gs_rho kd (fun j => (vl j).toNatClampNeg) nm cnt (gs_op (gs_en kd cnt) i 0)).2 = .branch 3 a b ∨ (gs_rho kd (fun j => (vl j).toNatClampNeg) nm cnt (gs_op (gs_en kd cnt) i 0)).2 = .leaf 2 ∧ a = .leaf 2 ∧ b = .leaf 2)
    rw [e] at c0
    rw [e, q] 
    rw [q] at c0
    rw [gs_typ4] at c0 ⊢
    rw [gs_tg40, gs_tg41]
    by_cases y : gd_hd (gs_rho kd (fun j => (vl j).toNatClampNeg) nm cnt (gs_op (gs_en kd cnt) i 0)).2 = 2
    · rw [if_pos y, if_pos y, if_pos y]
      exact ⟨_, _, rfl, rfl, rfl, Or.inr ⟨by rw [gm_leaf_of t0.1 (by omega), y], rfl, rfl⟩⟩
    · rw [if_neg y] at c0
      rw [if_neg y, if_neg y, if_neg y]
      by_cases y3 : gd_hd (gs_rho kd (fun j => (vl j).toNatClampNeg) nm cnt (gs_op (gs_en kd cnt) i 0)).2 = 3
      · rw [if_pos y3]
        exact ⟨_, _, gs_hd3 t0.1 y3, rfl, rfl, Or.inl (gs_hd3 t0.1 y3)⟩
      · rw [if_neg y3] at c0
        exact absurd c0 (by decide)
  · intro (q : kd i = 5)
    obtain ⟨l1, t1, et1⟩ := opt 1 (by rw [q]; decide)
    show gs_tg (kd i) 0 _ _ _ = _ ∧ gs_tg (kd i) 1 (gs_rho kd (fun j => (vl j).toNatClampNeg) nm cnt i).2 _ _ = (gs_rho kd (fun j => (vl j).toNatClampNeg) nm cnt i).2 ∧ gs_tg (kd i) 2 (gs_rho kd (fun j => (vl j).toNatClampNeg) nm cnt i).2 _ _ = (gs_rho kd (fun j => (vl j).toNatClampNeg) nm cnt i).2
    rw [q]
    exact ⟨rfl, rfl, rfl⟩
  · intro (q : kd i = 6)
    show gs_tg (kd i) 0 _ _ _ = _ ∧ gs_tg (kd i) 1 _ _ _ = _ ∧ (gs_rho kd (fun j => (vl j).toNatClampNeg) nm cnt i).2 = _
    rw [e, q]
    exact ⟨rfl, rfl, rfl⟩
  · intro (q : kd i = 7)
    show gs_tg (kd i) 0 _ _ _ = _ ∧ gs_tg (kd i) 1 _ _ _ = _ ∧ (gs_rho kd (fun j => (vl j).toNatClampNeg) nm cnt i).2 = _
    rw [e, q]
    exact ⟨rfl, rfl, rfl⟩
  · intro (q : kd i = 8)
    obtain ⟨l0, t0, et0⟩ := opt 0 (by rw [q]; decide)
    obtain ⟨l1, t1, et1⟩ := opt 1 (by rw [q]; decide)
    rw [et0, et1] at e
    show gs_tg (kd i) 0 _ _ (gs_rho kd (fun j => (vl j).toNatClampNeg) nm cnt (gs_op (gs_en kd cnt) i 0)).2 = (gs_rho kd (fun j => (vl j).toNatClampNeg) nm cnt (gs_op (gs_en kd cnt) i 0)).2 ∧ gs_tg (kd i) 1 _ _ (gs_rho kd (fun j => (vl j).toNatClampNeg) nm cnt (gs_op (gs_en kd cnt) i 1)).2 = (gs_rho kd (fun j => (vl j).toNatClampNeg) nm cnt (gs_op (gs_en kd cnt) i 1)).2 ∧ (gs_rho kd (fun j => (vl j).toNatClampNeg) nm cnt i).2 = .branch 4 (gs_rho kd (fun j => (vl j).toNatClampNeg) nm cnt (gs_op (gs_en kd cnt) i 0)).2 (gs_rho kd (fun j => (vl j).toNatClampNeg) nm cnt (gs_op (gs_en kd cnt) i 1)).2
    rw [e] at c0
    rw [e, q]
    rw [q] at c0
    refine ⟨rfl, rfl, ?_⟩
    change (gs_cmp 4 (gs_rho kd (fun j => (vl j).toNatClampNeg) nm cnt (gs_op (gs_en kd cnt) i 0)).2 (gs_rho kd (fun j => (vl j).toNatClampNeg) nm cnt (gs_op (gs_en kd cnt) i 1)).2).1 = 0 at c0
    show (gs_cmp 4 (gs_rho kd (fun j => (vl j).toNatClampNeg) nm cnt (gs_op (gs_en kd cnt) i 0)).2 (gs_rho kd (fun j => (vl j).toNatClampNeg) nm cnt (gs_op (gs_en kd cnt) i 1)).2).2 = _
    unfold gs_cmp at c0 ⊢
    split at c0
    · rename_i z; rw [if_pos z]
    · exact absurd c0 (by decide)
  · intro (q : kd i = 9 ∨ kd i = 10)
    have h0 : 0 < gs_ar (kd i) := gs_ar_k (by omega) (Or.inl rfl)
    obtain ⟨l0, t0, et0⟩ := opt 0 h0
    rw [et0] at e
    show ∃ a b, gs_tg (kd i) 0 _ _ _ = .branch 4 a b ∧ (gs_rho kd (fun j => (vl j).toNatClampNeg) nm cnt i).2 = (if kd i = 9 then a else b) ∧ ((gs_rho kd (fun j => (vl j).toNatClampNeg) nm cnt (gs_op (gs_en kd cnt) i 0)).2 = .branch 4 a b ∨ (gs_rho kd (fun j => (vl j).toNatClampNeg) nm cnt (gs_op (gs_en kd cnt) i 0)).2 = .leaf 2 ∧ a = .leaf 2 ∧ b = .leaf 2)
    rw [e] at c0
    rw [e]
    rw [gs_typ9 q] at c0 ⊢
    rw [gs_tg9 q]
    by_cases y : gd_hd (gs_rho kd (fun j => (vl j).toNatClampNeg) nm cnt (gs_op (gs_en kd cnt) i 0)).2 = 2
    · rw [if_pos y, if_pos y]
      refine ⟨_, _, rfl, ?_, Or.inr ⟨by rw [gm_leaf_of t0.1 (by omega), y], rfl, rfl⟩⟩
      split <;> rfl
    · rw [if_neg y] at c0
      rw [if_neg y, if_neg y]
      by_cases y3 : gd_hd (gs_rho kd (fun j => (vl j).toNatClampNeg) nm cnt (gs_op (gs_en kd cnt) i 0)).2 = 4
      · rw [if_pos y3]
        exact ⟨_, _, gs_hd4 t0.1 y3, rfl, Or.inl (gs_hd4 t0.1 y3)⟩
      · rw [if_neg y3] at c0
        exact absurd c0 (by decide)
  · intro (q : kd i = 11)
    show gs_tg (kd i) 0 (gs_rho kd (fun j => (vl j).toNatClampNeg) nm cnt i).2 _ _ = (gs_rho kd (fun j => (vl j).toNatClampNeg) nm cnt i).2
    rw [q]
    rfl
end
section
/-! ===== 10: what it means that the evaluator has an answer ===== -/
theorem gm_bd_e {o : Option gm_O} {k : Nat → gm_S → Option gm_O} {out : gm_O} {C : Prop} (h : gm_bd o k = some out) (h1 : ∀ v p s, o = some (0, v, p, s) → k v s = some out → C) (h2 : o = some out → out.1 ≠ 0 → C) : C := by
  match o, h with
  | some (0, v, p, s), h => exact h1 v p s rfl h
  | some (c + 1, v, p, s), h =>
    have e : some (c + 1, v, p, s) = some out := h
    injection e with e
    subst e
    exact h2 rfl (Nat.succ_ne_zero c)
theorem gm_tick_e {s : gm_S} {h : Nat} {k : gm_S → Option gm_O} {out : gm_O} (H : gm_tick s h k = some out) : (gm_u s < 1000000 ∧ gm_n s ≤ 5000 ∧ gm_m s < 64 ∧ h < 32767) ∧ k (gm_tk s) = some out := by
  unfold gm_tick at H
  by_cases c : gm_u s < 1000000 ∧ gm_n s ≤ 5000 ∧ gm_m s < 64 ∧ h < 32767
  · rw [if_pos c] at H; exact ⟨c, H⟩
  · rw [if_neg c] at H; exact absurd H (by simp)
theorem gm_new_e {s : gm_S} {c : gm_Cell} {add : Nat} {out : gm_O} (H : gm_new s c add = some out) : gm_n s < 5000 ∧ out = (0, 8 * gm_n s + add, 0, gm_push s c) := by
  unfold gm_new at H
  by_cases d : gm_n s < 5000
  · rw [if_pos d] at H
    injection H with H
    exact ⟨d, H.symm⟩
  · rw [if_neg d] at H; exact absurd H (by simp)
/-- an if that has an answer -/
theorem gm_if_e {p : Prop} {_ : Decidable p} {a : Option gm_O} {out : gm_O} (H : (if p then a else none) = some out) : p ∧ a = some out := by
  by_cases c : p
  · rw [if_pos c] at H; exact ⟨c, H⟩
  · rw [if_neg c] at H; exact absurd H (by simp)
theorem gm_cast_e {s : gm_S} {v : Nat} {f t : Lean.RArray Nat} {p : Int} {out : gm_O} (H : gm_cast s v f t p = some out) : gm_wk s v f ∧ gd_TY f ∧ gd_TY t ∧
    (if gd_en f = gd_en t then some (0, v, 0, s)
    else if gd_hd t = 2 then gm_wr s v f (gd_G f) p (gm_tag f)
    else if gd_hd f = 2 then (if v % 8 = gm_tag t then gm_wr s (v - gm_tag t) (gd_G t) t p 0 else some (4, v, p, s))
    else gm_wr s v f t p 0) = some out := by
  unfold gm_cast at H
  obtain ⟨c, H⟩ := gm_if_e H
  rw [Bool.and_eq_true, Bool.and_eq_true, gm_wkb_i, gm_tyb_i, gm_tyb_i] at c
  exact ⟨c.1.1, c.1.2, c.2, H⟩
theorem gm_num_e {s : gm_S} {v : Nat} {k : Int32 → Option gm_O} {out : gm_O} (H : gm_num s v k = some out) : (v / 8 < gm_n s ∧ gm_ck (gm_h s (v / 8)) < 3) ∧ k (gm_ci (gm_h s (v / 8))) = some out := gm_if_e H
/-- X's value of Y's -/
def gm_xv (v : Nat) : Nat := 2 * (v / 8) + (if v % 8 = 0 then 0 else 1)
theorem gm_xv_div (v : Nat) : gm_xv v / 2 = v / 8 := by
  unfold gm_xv
  split <;> omega
theorem gm_xv_mod (v : Nat) : gm_xv v % 2 = if v % 8 = 0 then 0 else 1 := by
  unfold gm_xv
  split <;> omega
theorem gm_xv_8 (n : Nat) : gm_xv (8 * n) = 2 * n := by
  unfold gm_xv
  rw [if_pos (by omega)]
  omega
theorem gm_xv_tag {n a : Nat} (h0 : 0 < a) (h : a < 8) : gm_xv (8 * n + a) = 2 * n + 1 := by
  unfold gm_xv
  rw [if_neg (by omega)]
  omega
/-- labels are small, and not 0 -/
def gm_PB (p : Int) : Prop := p ≠ 0 ∧ -200 < p ∧ p < 200
theorem gm_PB_neg {p : Int} (h : gm_PB p) : gm_PB (-p) := by
  unfold gm_PB at *
  omega
theorem gm_PB_op {i k : Nat} (hi : i < 36) (hk : k < 3) : gm_PB (3 * i + k + 1) := by
  unfold gm_PB
  omega
def gm_lb (p : Int) : Int32 := Int32.ofInt p
theorem gm_lb_toInt {p : Int} (h : gm_PB p) : (gm_lb p).toInt = p := by
  unfold gm_PB at h
  unfold gm_lb
  rw [Int32.toInt_ofInt_of_le (by omega) (by omega)]
theorem gm_lb_ne {p : Int} (h : gm_PB p) : ¬ gm_lb p = 0 := by
  intro z
  have a := gm_lb_toInt h
  rw [z] at a
  exact h.1 a.symm
theorem gm_lb_neg (p : Int) : - gm_lb p = gm_lb (-p) := by
  unfold gm_lb
  rw [Int32.ofInt_neg]
theorem gm_lb_nat (n : Nat) : gm_lb (n : Int) = nI n := rfl
end
section
/-! ===== 11: X's cells and casts ===== -/
/-- a cell of X and a cell of the machine -/
def gx_C (c : gm_Cell) (sh lb o1 o2 o3 : Int32) : Prop :=
  sh = nI (gm_sh (gm_ck c)) ∧ gm_ck c < 7 ∧ (gm_ck c < 3 → o1 = gm_ci c) ∧ (gm_ck c = 3 → lb = 0 ∧ o1 = nI (gm_ca c) ∧ o2 = nI (gm_cb c)) ∧ (gm_ck c = 5 → lb = 0 ∧ o1 = nI (gm_xv (gm_ca c)) ∧ o2 = nI (gm_xv (gm_cb c))) ∧
  (gm_ck c = 4 ∨ gm_ck c = 6 → lb = gm_lb (gm_cp c) ∧ gm_PB (gm_cp c) ∧ o1 = nI (gm_xv (gm_ca c)) ∧ o2 = nI (gd_en (gm_cf c)) ∧ o3 = nI (gd_en (gm_ct c)) ∧ gd_TY (gm_cf c) ∧ gd_TY (gm_ct c) ∧ ∃ h a b a' b', gm_cf c = .branch h a b ∧ gm_ct c = .branch h a' b')
def gx_H0 (s : gm_S) (cc : Int32) (cSh cLb c1 c2 c3 : Nat → Int32) : Prop := cc = nI (gm_n s) ∧ gm_n s ≤ 5000 ∧ ∀ c, c < gm_n s → gx_C (gm_h s c) (cSh c) (cLb c) (c1 c) (c2 c) (c3 c)
theorem gx_H0_push {s : gm_S} {cc : Int32} {cSh cLb c1 c2 c3 cSh' cLb' c1' c2' c3' : Nat → Int32} {c : gm_Cell} (h : gx_H0 s cc cSh cLb c1 c2 c3) (hn : gm_n s < 5000) (hc : gx_C c (cSh' (gm_n s)) (cLb' (gm_n s)) (c1' (gm_n s)) (c2' (gm_n s)) (c3' (gm_n s))) (g : ∀ j, j ≠ gm_n s → cSh' j = cSh j ∧ cLb' j = cLb j ∧ c1' j = c1 j ∧ c2' j = c2 j ∧ c3' j = c3 j) : gx_H0 (gm_push s c) (nI (gm_n s + 1)) cSh' cLb' c1' c2' c3' := by
  refine ⟨rfl, by rw [gm_push_n]; omega, ?_⟩
  intro j hj
  rw [gm_push_n] at hj
  by_cases e : j = gm_n s
  · subst e
    rw [gm_push_new]
    exact hc
  · obtain ⟨a, b, d, e1, f⟩ := g j e
    rw [gm_push_old s c (by omega), a, b, d, e1, f]
    exact h.2.2 j (by omega)
theorem gx_shr {v : Nat} (h : v / 8 < 5001) : nI (gm_xv v) >>> ((1 : Int32) &&& 31) = nI (v / 8) := by
  have := gm_xv_div v
  rw [pk_shrN (by omega) ((1 : Int32) &&& 31) 1 (by decide)]
  exact congrArg nI (by omega)
theorem gx_shl {n : Nat} (h : n < 9000) : nI n <<< ((1 : Int32) &&& 31) = nI (2 * n) := by
  rw [pk_shlN ((1 : Int32) &&& 31) 1 (by decide) (by omega)]
  exact congrArg nI (by omega)
theorem gx_enI {f t : Lean.RArray Nat} (hf : gd_TY f) (ht : gd_TY t) : nI (gd_en f) = nI (gd_en t) ↔ gd_en f = gd_en t := nI_eq (gx_en hf) (gx_en ht)
section
variable {x_typeDraft x_typeCount x_count x_wrongAt x_keptPlace x_cellCount x_scopeCount x_frameCount x_mode x_atToken x_scope x_current x_callee x_side x_ending x_faultLabel x_stepsTaken x_runVerdict x_runBlame x_result : Int32} {x_named x_kinds x_values x_ends x_types x_operands x_targets x_cellShape x_cellLabel x_cellOne x_cellTwo x_cellThree x_scopeValue x_scopeOuter x_frameKind x_frameOne x_frameTwo x_frameThree : Nat → Int32}
theorem gx_newCell {post : Int32 → SX → Prop} {n : Nat} (hn : n < 8192) {p0 p1 p2 : Int32} (P : post (nI (2 * n)) (x_typeDraft, x_typeCount, x_count, x_wrongAt, x_keptPlace, nI (n + 1), x_scopeCount, x_frameCount, x_mode, x_atToken, x_scope, x_current, x_callee, x_side, x_ending, x_faultLabel, x_stepsTaken, x_runVerdict, x_runBlame, x_result, x_named, x_kinds, x_values, x_ends, x_types, x_operands, x_targets, upd x_cellShape n p0, upd x_cellLabel n 0, upd x_cellOne n p1, upd x_cellTwo n p2, x_cellThree, x_scopeValue, x_scopeOuter, x_frameKind, x_frameOne, x_frameTwo, x_frameThree, 32768, 32768, 32768, 32768)) : wpX_newCell post (x_typeDraft, x_typeCount, x_count, x_wrongAt, x_keptPlace, nI n, x_scopeCount, x_frameCount, x_mode, x_atToken, x_scope, x_current, x_callee, x_side, x_ending, x_faultLabel, x_stepsTaken, x_runVerdict, x_runBlame, x_result, x_named, x_kinds, x_values, x_ends, x_types, x_operands, x_targets, x_cellShape, x_cellLabel, x_cellOne, x_cellTwo, x_cellThree, x_scopeValue, x_scopeOuter, x_frameKind, x_frameOne, x_frameTwo, x_frameThree, 32768, 32768, 32768, 32768) p0 p1 p2 := by
  have c : (nI n).toNatClampNeg = n := nI_clamp (by omega)
  have v : vp_in (nI n) 8192 := vp_in_nI hn (by decide)
  refine nm_r (nI_1 n) (And.intro v (nm_r (congrArg (fun k => upd x_cellShape k p0) c) (And.intro v (nm_r (congrArg (fun k => upd x_cellLabel k 0) c) (And.intro v (nm_r (congrArg (fun k => upd x_cellOne k p1) c) (And.intro v (nm_r (congrArg (fun k => upd x_cellTwo k p2) c) ?_))))))))
  rw [gx_shl (by omega)]
  exact P
theorem gx_wrapped {post : Int32 → SX → Prop} {s : gm_S} {v : Nat} {f t : Lean.RArray Nat} {p : Int} {add : Nat} {out : gm_O} (H : gm_wr s v f t p add = some out) (hH : gx_H0 s x_cellCount x_cellShape x_cellLabel x_cellOne x_cellTwo x_cellThree) (hv : v / 8 < gm_n s) (hm : v % 8 = 0) (hf : gd_TY f) (ht : gd_TY t) (hs : 3 ≤ gd_hd f → gm_sh (gm_ck (gm_h s (v / 8))) = gd_hd f) (hp : gm_PB p)
    (K : ∀ w s' cc cSh cLb c1 c2 c3, out = (0, w + add, 0, s') → w % 8 = 0 → gx_H0 s' cc cSh cLb c1 c2 c3 → post (nI (gm_xv w)) (x_typeDraft, x_typeCount, x_count, x_wrongAt, x_keptPlace, cc, x_scopeCount, x_frameCount, x_mode, x_atToken, x_scope, x_current, x_callee, x_side, x_ending, x_faultLabel, x_stepsTaken, x_runVerdict, x_runBlame, x_result, x_named, x_kinds, x_values, x_ends, x_types, x_operands, x_targets, cSh, cLb, c1, c2, c3, x_scopeValue, x_scopeOuter, x_frameKind, x_frameOne, x_frameTwo, x_frameThree, 32768, 32768, 32768, 32768)) :
    wpX_wrapped post (x_typeDraft, x_typeCount, x_count, x_wrongAt, x_keptPlace, x_cellCount, x_scopeCount, x_frameCount, x_mode, x_atToken, x_scope, x_current, x_callee, x_side, x_ending, x_faultLabel, x_stepsTaken, x_runVerdict, x_runBlame, x_result, x_named, x_kinds, x_values, x_ends, x_types, x_operands, x_targets, x_cellShape, x_cellLabel, x_cellOne, x_cellTwo, x_cellThree, x_scopeValue, x_scopeOuter, x_frameKind, x_frameOne, x_frameTwo, x_frameThree, 32768, 32768, 32768, 32768) (nI (gm_xv v)) (nI (gd_en f)) (nI (gd_en t)) (gm_lb p) := by
  unfold gm_wr at H
  by_cases e : gd_en f = gd_en t
  · rw [if_pos e] at H
    injection H with H
    exact br_t (congrArg nI e) (K v s _ _ _ _ _ _ H.symm hm hH)
  · rw [if_neg e] at H
    obtain ⟨hk, H⟩ := gm_if_e H
    obtain ⟨hn, H⟩ := gm_new_e H
    have hH0 := hH
    obtain ⟨rfl, h5, hc⟩ := hH
    refine br_f (fun z => e ((gx_enI hf ht).mp z)) ?_
    have cv := hc _ hv
    rw [gx_shr (by omega), nI_clamp (show v / 8 < 2 ^ 31 by omega)]
    refine And.intro (vp_in_nI (by omega) (by decide)) (gx_newCell (by omega) ?_)
    have e2 : nI (2 * gm_n s) >>> ((1 : Int32) &&& 31) = nI (gm_n s) := by
      have := gx_shr (v := 8 * gm_n s) (by omega)
      rw [gm_xv_8] at this
      rw [this]
      exact congrArg nI (by omega)
    dsimp only
    rw [e2, nI_clamp (show gm_n s < 2 ^ 31 by omega)]
    have vin : vp_in (nI (gm_n s)) 8192 := vp_in_nI (by omega) (by decide)
    refine And.intro vin (nm_e (And.intro vin (nm_e ?_)))
    rw [← gm_xv_8]
    have h3 : 3 ≤ gd_hd f := by omega
    obtain ⟨l, r, ef, hk3⟩ := gm_br_of h3 hf.1
    obtain ⟨l', r', et, _⟩ := gm_br_of (show 3 ≤ gd_hd t by omega) ht.1
    refine K (8 * gm_n s) (gm_push s (gm_cc s v f t p)) _ _ _ _ _ _ H (by omega) (gx_H0_push hH0 hn ?_ ?_)
    · rw [pk_us, pk_us, pk_us, pk_us, pk_us]
      have ck : gm_ck (gm_cc s v f t p) = if gd_hd f = 3 then 4 else 6 := rfl
      refine ⟨?_, ?_, ?_, ?_, ?_, ?_⟩
      · rw [cv.1, hs h3, ck]
        rcases hk3 with k | k
        · rw [k]; rfl
        · rw [k]; rfl
      · rw [ck]; split <;> omega
      · rw [ck]; intro z; split at z <;> omega
      · rw [ck]; intro z; split at z <;> omega
      · rw [ck]; intro z; split at z <;> omega
      · intro _
        refine ⟨rfl, hp, rfl, rfl, rfl, hf, ht, gd_hd f, l, r, l', r', ef, ?_⟩
        rw [← hk.2]
        exact et
    · intro j hj
      rw [pk_un hj, pk_un hj, pk_un hj, pk_un hj, pk_un hj, pk_un hj]
      exact ⟨rfl, rfl, rfl, rfl, rfl⟩
theorem gx_and2 {v : Nat} (h : v / 8 < 5001) : nI (gm_xv v) &&& (-2) = nI (gm_xv (8 * (v / 8))) := by
  have a := gm_xv_div v
  rw [gm_xv_8]
  have key : ∀ n : Nat, n < 2 ^ 31 → nI n &&& (-2) = nI (2 * (n / 2)) := by
    intro n hn
    apply Int32.toBitVec_inj.1
    show BitVec.ofNat 32 n &&& (-2 : Int32).toBitVec = BitVec.ofNat 32 (2 * (n / 2))
    apply BitVec.eq_of_getLsbD_eq
    intro i hi
    have mk : ∀ i, i < 32 → (-2 : Int32).toBitVec.getLsbD i = decide (i ≠ 0) := by decide +kernel
    rw [BitVec.getLsbD_and, BitVec.getLsbD_ofNat, BitVec.getLsbD_ofNat, mk i hi]
    cases i with
    | zero =>
      have e : (2 * (n / 2)).testBit 0 = false := by
        rw [Nat.testBit_zero]
        exact decide_eq_false (by omega)
      rw [e]
      simp
    | succ i =>
      have e : (2 * (n / 2)).testBit (i + 1) = n.testBit (i + 1) := by
        rw [Nat.testBit_succ, Nat.testBit_succ]
        congr 1
        omega
      rw [e]
      simp
  rw [key _ (by omega), a]
theorem gx_or1 {w : Nat} (h : w / 8 < 5001) (hm : w % 8 = 0) {a : Nat} (h0 : 0 < a) (h8 : a < 8) : nI (gm_xv w) ||| 1 = nI (gm_xv (w + a)) := by
  have e1 : gm_xv w = 2 * (w / 8) := by unfold gm_xv; rw [if_pos hm]; omega
  have e2 : gm_xv (w + a) = 2 * (w / 8) + 1 := by
    rw [show w + a = 8 * (w / 8) + a by omega]
    exact gm_xv_tag h0 h8
  rw [e1, e2, Int32.or_comm]
  have := gx_or (k := 1) (a := 1) (b := w / 8) (by decide)
  rw [show (2 : Nat) ^ 1 = 2 from rfl, show 1 + 2 * (w / 8) = 2 * (w / 8) + 1 by omega] at this
  exact this
theorem gx_2 {t : Lean.RArray Nat} (ht : gd_TY t) : nI (gd_en t) = 2 ↔ gd_hd t = 2 := by
  have e := nI_eq (a := gd_en t) (b := 2) (gx_en ht) (by decide)
  have e2 : gd_en t = 2 ↔ gd_hd t = 2 := by
    have hv := ht.1
    cases t with
    | leaf n => simp only [gd_en, gd_hd]
    | branch h l r => simp only [gd_vt] at hv; have hh := gd_h8 hv.1; simp only [gd_en, gd_hd]; omega
  exact e.trans e2
theorem gx_shp {t : Lean.RArray Nat} (ht : gd_vt t) (h2 : gd_hd t ≠ 2) : gd_shp t = gm_tag t := by
  have lt := gd_hd_lt ht
  unfold gd_shp gm_tag
  by_cases a : gd_hd t = 0
  · rw [if_pos a, if_pos (by omega)]; omega
  rw [if_neg a]
  by_cases b : gd_hd t = 1
  · rw [if_pos b, if_pos (by omega)]; omega
  rw [if_neg b]
  by_cases c : gd_hd t = 3
  · rw [if_pos c, if_neg (by omega)]; omega
  · rw [if_neg c, if_neg (by omega)]; omega
theorem gx_tag_pos {t : Lean.RArray Nat} (ht : gd_vt t) : 0 < gm_tag t ∧ gm_tag t < 8 := by
  have := gm_tag_lt ht
  have h : 0 < gm_tag t := by
    unfold gm_tag
    split <;> omega
  omega
theorem gx_hd_tag {t : Lean.RArray Nat} (h : 3 ≤ gd_hd t) : gm_tag t = gd_hd t := by
  unfold gm_tag
  rw [if_neg (by omega)]
theorem gx_castValue {post : Int32 → SX → Prop} {s : gm_S} {v : Nat} {f t : Lean.RArray Nat} {p : Int} {out : gm_O} (H : gm_cast s v f t p = some out) (hH : gx_H0 s x_cellCount x_cellShape x_cellLabel x_cellOne x_cellTwo x_cellThree) (hp : gm_PB p)
    (K : ∀ w s' cc cSh cLb c1 c2 c3, out = (0, w, 0, s') → gx_H0 s' cc cSh cLb c1 c2 c3 → post (nI (gm_xv w)) (x_typeDraft, x_typeCount, x_count, x_wrongAt, x_keptPlace, cc, x_scopeCount, x_frameCount, x_mode, x_atToken, x_scope, x_current, x_callee, x_side, x_ending, x_faultLabel, x_stepsTaken, x_runVerdict, x_runBlame, x_result, x_named, x_kinds, x_values, x_ends, x_types, x_operands, x_targets, cSh, cLb, c1, c2, c3, x_scopeValue, x_scopeOuter, x_frameKind, x_frameOne, x_frameTwo, x_frameThree, 32768, 32768, 32768, 32768))
    (B : out = (4, v, p, s) → post (nI (gm_xv v)) (x_typeDraft, x_typeCount, x_count, x_wrongAt, x_keptPlace, x_cellCount, x_scopeCount, x_frameCount, 4, x_atToken, x_scope, x_current, x_callee, x_side, 4, gm_lb p, x_stepsTaken, x_runVerdict, x_runBlame, x_result, x_named, x_kinds, x_values, x_ends, x_types, x_operands, x_targets, x_cellShape, x_cellLabel, x_cellOne, x_cellTwo, x_cellThree, x_scopeValue, x_scopeOuter, x_frameKind, x_frameOne, x_frameTwo, x_frameThree, 32768, 32768, 32768, 32768)) :
    wpX_castValue post (x_typeDraft, x_typeCount, x_count, x_wrongAt, x_keptPlace, x_cellCount, x_scopeCount, x_frameCount, x_mode, x_atToken, x_scope, x_current, x_callee, x_side, x_ending, x_faultLabel, x_stepsTaken, x_runVerdict, x_runBlame, x_result, x_named, x_kinds, x_values, x_ends, x_types, x_operands, x_targets, x_cellShape, x_cellLabel, x_cellOne, x_cellTwo, x_cellThree, x_scopeValue, x_scopeOuter, x_frameKind, x_frameOne, x_frameTwo, x_frameThree, 32768, 32768, 32768, 32768) (nI (gm_xv v)) (nI (gd_en f)) (nI (gd_en t)) (gm_lb p) := by
  obtain ⟨wk, hf, ht, H⟩ := gm_cast_e H
  obtain ⟨hv, w2, wn⟩ := wk
  have h5 := hH.2.1
  by_cases e : gd_en f = gd_en t
  · rw [if_pos e] at H
    injection H with H
    exact br_t (congrArg nI e) (K v s _ _ _ _ _ _ H.symm hH)
  rw [if_neg e] at H
  refine br_f (fun z => e ((gx_enI hf ht).mp z)) ?_
  by_cases t2 : gd_hd t = 2
  · rw [if_pos t2] at H
    refine br_t ((gx_2 ht).mpr t2) ?_
    have f2 : gd_hd f ≠ 2 := fun z => e (by rw [gm_leaf_of hf.1 (by omega), gm_leaf_of ht.1 (by omega), z, t2])
    have tp := gx_tag_pos hf.1
    refine gx_tagFor hf (gx_wrapped H hH hv (wn f2).1 hf (gm_G_TY hf.1) (fun z => by rw [(wn f2).2, gx_hd_tag z]) hp ?_)
    intro w s' cc cSh cLb c1 c2 c3 eo hm hH'
    have k := K (w + gm_tag f) s' cc cSh cLb c1 c2 c3 eo hH'
    have wl : w / 8 < 5001 := by
      unfold gm_wr at H
      by_cases e3 : gd_en f = gd_en (gd_G f)
      · rw [if_pos e3] at H
        injection H with H
        rw [eo] at H
        injection H with _ H
        injection H with H _
        omega
      · rw [if_neg e3] at H
        obtain ⟨_, H⟩ := gm_if_e H
        obtain ⟨hn, H⟩ := gm_new_e H
        rw [eo] at H
        injection H with _ H
        injection H with H _
        omega
    dsimp only
    rw [gx_or1 wl hm tp.1 tp.2]
    exact k
  rw [if_neg t2] at H
  refine br_f (fun z => t2 ((gx_2 ht).mp z)) ?_
  by_cases f2 : gd_hd f = 2
  · rw [if_pos f2] at H
    refine br_t ((gx_2 hf).mpr f2) ?_
    have cv := hH.2.2 _ hv
    rw [gx_shr (by omega), nI_clamp (show v / 8 < 2 ^ 31 by omega), cv.1]
    refine And.intro (vp_in_nI (by omega) (by decide)) (gx_shapeOf ht ?_)
    have lt5 : gm_tag t < 5 := gm_tag_lt ht.1
    have ls : gm_sh (gm_ck (gm_h s (v / 8))) < 8 := by have := w2 f2; omega
    refine pk_eq (gm_sh (gm_ck (gm_h s (v / 8)))) (gd_shp t) (fun z => ?_) (fun z => ?_) rfl rfl (by omega) (by rw [gx_shp ht.1 t2]; omega)
    · rw [gx_shp ht.1 t2] at z
      rw [if_pos (by rw [w2 f2, z])] at H
      refine gx_tagFor ht ?_
      rw [gx_and2 (by omega)]
      have ev : v - gm_tag t = 8 * (v / 8) := by
        have := w2 f2
        omega
      rw [ev] at H
      refine gx_wrapped H hH (by omega) (by omega) (gm_G_TY ht.1) ht ?_ hp ?_
      · intro z3
        rw [show 8 * (v / 8) / 8 = v / 8 by omega, z, gm_G_hd]
        rw [gm_G_hd] at z3
        exact gx_hd_tag z3
      · intro w s' cc cSh cLb c1 c2 c3 eo _ hH'
        exact K w s' cc cSh cLb c1 c2 c3 (by rw [eo]; rfl) hH'
    · rw [gx_shp ht.1 t2] at z
      rw [if_neg (by rw [w2 f2]; exact z)] at H
      injection H with H
      exact B H.symm
  · rw [if_neg f2] at H
    refine br_f (fun z => f2 ((gx_2 hf).mp z)) ?_
    refine gx_wrapped H hH hv (wn f2).1 hf ht (fun z => by rw [(wn f2).2, gx_hd_tag z]) hp ?_
    intro w s' cc cSh cLb c1 c2 c3 eo _ hH'
    exact K w s' cc cSh cLb c1 c2 c3 (by rw [eo]; rfl) hH'
end
end
section
/-! ===== 12: X's machine, turn by turn ===== -/
abbrev gx_D : Type := Int32 × Int32 × Int32 × Int32 × Int32 × Int32 × Int32 × Int32 × Int32 × Int32 × Int32 × Int32 × (Nat → Int32) × (Nat → Int32) × (Nat → Int32) × (Nat → Int32) × (Nat → Int32) × (Nat → Int32) × (Nat → Int32) × (Nat → Int32) × (Nat → Int32) × (Nat → Int32) × (Nat → Int32)
def gx_X (x_typeDraft x_typeCount x_count x_wrongAt x_keptPlace x_runVerdict x_runBlame x_result : Int32) (x_named x_kinds x_values x_ends x_types x_operands x_targets : Nat → Int32) (D : gx_D) : SX := match D with | (x_cellCount, x_scopeCount, x_frameCount, x_mode, x_atToken, x_scope, x_current, x_callee, x_side, x_ending, x_faultLabel, x_stepsTaken, x_cellShape, x_cellLabel, x_cellOne, x_cellTwo, x_cellThree, x_scopeValue, x_scopeOuter, x_frameKind, x_frameOne, x_frameTwo, x_frameThree) => (x_typeDraft, x_typeCount, x_count, x_wrongAt, x_keptPlace, x_cellCount, x_scopeCount, x_frameCount, x_mode, x_atToken, x_scope, x_current, x_callee, x_side, x_ending, x_faultLabel, x_stepsTaken, x_runVerdict, x_runBlame, x_result, x_named, x_kinds, x_values, x_ends, x_types, x_operands, x_targets, x_cellShape, x_cellLabel, x_cellOne, x_cellTwo, x_cellThree, x_scopeValue, x_scopeOuter, x_frameKind, x_frameOne, x_frameTwo, x_frameThree, 32768, 32768, 32768, 32768)
def gx_H (s : gm_S) (D : gx_D) : Prop := match D with | (x_cellCount, x_scopeCount, x_frameCount, x_mode, x_atToken, x_scope, x_current, x_callee, x_side, x_ending, x_faultLabel, x_stepsTaken, x_cellShape, x_cellLabel, x_cellOne, x_cellTwo, x_cellThree, x_scopeValue, x_scopeOuter, x_frameKind, x_frameOne, x_frameTwo, x_frameThree) => gx_H0 s x_cellCount x_cellShape x_cellLabel x_cellOne x_cellTwo x_cellThree ∧ x_scopeCount = nI (gm_m s) ∧ gm_m s ≤ 64 ∧ x_stepsTaken = nI (gm_T s) ∧ gm_T s ≤ 40 ∧ (∀ w, 0 < w → w < gm_m s → x_scopeValue w = nI (gm_xv (gm_e s w).1) ∧ x_scopeOuter w = nI (gm_e s w).2)
def gx_fc (D : gx_D) : Int32 := match D with | (x_cellCount, x_scopeCount, x_frameCount, x_mode, x_atToken, x_scope, x_current, x_callee, x_side, x_ending, x_faultLabel, x_stepsTaken, x_cellShape, x_cellLabel, x_cellOne, x_cellTwo, x_cellThree, x_scopeValue, x_scopeOuter, x_frameKind, x_frameOne, x_frameTwo, x_frameThree) => x_frameCount
def gx_mode (D : gx_D) : Int32 := match D with | (x_cellCount, x_scopeCount, x_frameCount, x_mode, x_atToken, x_scope, x_current, x_callee, x_side, x_ending, x_faultLabel, x_stepsTaken, x_cellShape, x_cellLabel, x_cellOne, x_cellTwo, x_cellThree, x_scopeValue, x_scopeOuter, x_frameKind, x_frameOne, x_frameTwo, x_frameThree) => x_mode
def gx_att (D : gx_D) : Int32 := match D with | (x_cellCount, x_scopeCount, x_frameCount, x_mode, x_atToken, x_scope, x_current, x_callee, x_side, x_ending, x_faultLabel, x_stepsTaken, x_cellShape, x_cellLabel, x_cellOne, x_cellTwo, x_cellThree, x_scopeValue, x_scopeOuter, x_frameKind, x_frameOne, x_frameTwo, x_frameThree) => x_atToken
def gx_scp (D : gx_D) : Int32 := match D with | (x_cellCount, x_scopeCount, x_frameCount, x_mode, x_atToken, x_scope, x_current, x_callee, x_side, x_ending, x_faultLabel, x_stepsTaken, x_cellShape, x_cellLabel, x_cellOne, x_cellTwo, x_cellThree, x_scopeValue, x_scopeOuter, x_frameKind, x_frameOne, x_frameTwo, x_frameThree) => x_scope
def gx_cur (D : gx_D) : Int32 := match D with | (x_cellCount, x_scopeCount, x_frameCount, x_mode, x_atToken, x_scope, x_current, x_callee, x_side, x_ending, x_faultLabel, x_stepsTaken, x_cellShape, x_cellLabel, x_cellOne, x_cellTwo, x_cellThree, x_scopeValue, x_scopeOuter, x_frameKind, x_frameOne, x_frameTwo, x_frameThree) => x_current
def gx_cal (D : gx_D) : Int32 := match D with | (x_cellCount, x_scopeCount, x_frameCount, x_mode, x_atToken, x_scope, x_current, x_callee, x_side, x_ending, x_faultLabel, x_stepsTaken, x_cellShape, x_cellLabel, x_cellOne, x_cellTwo, x_cellThree, x_scopeValue, x_scopeOuter, x_frameKind, x_frameOne, x_frameTwo, x_frameThree) => x_callee
def gx_sid (D : gx_D) : Int32 := match D with | (x_cellCount, x_scopeCount, x_frameCount, x_mode, x_atToken, x_scope, x_current, x_callee, x_side, x_ending, x_faultLabel, x_stepsTaken, x_cellShape, x_cellLabel, x_cellOne, x_cellTwo, x_cellThree, x_scopeValue, x_scopeOuter, x_frameKind, x_frameOne, x_frameTwo, x_frameThree) => x_side
def gx_end (D : gx_D) : Int32 := match D with | (x_cellCount, x_scopeCount, x_frameCount, x_mode, x_atToken, x_scope, x_current, x_callee, x_side, x_ending, x_faultLabel, x_stepsTaken, x_cellShape, x_cellLabel, x_cellOne, x_cellTwo, x_cellThree, x_scopeValue, x_scopeOuter, x_frameKind, x_frameOne, x_frameTwo, x_frameThree) => x_ending
def gx_flt (D : gx_D) : Int32 := match D with | (x_cellCount, x_scopeCount, x_frameCount, x_mode, x_atToken, x_scope, x_current, x_callee, x_side, x_ending, x_faultLabel, x_stepsTaken, x_cellShape, x_cellLabel, x_cellOne, x_cellTwo, x_cellThree, x_scopeValue, x_scopeOuter, x_frameKind, x_frameOne, x_frameTwo, x_frameThree) => x_faultLabel
def gx_stp (D : gx_D) : Int32 := match D with | (x_cellCount, x_scopeCount, x_frameCount, x_mode, x_atToken, x_scope, x_current, x_callee, x_side, x_ending, x_faultLabel, x_stepsTaken, x_cellShape, x_cellLabel, x_cellOne, x_cellTwo, x_cellThree, x_scopeValue, x_scopeOuter, x_frameKind, x_frameOne, x_frameTwo, x_frameThree) => x_stepsTaken
def gx_fr (D : gx_D) (j : Nat) : Int32 × Int32 × Int32 × Int32 := match D with | (x_cellCount, x_scopeCount, x_frameCount, x_mode, x_atToken, x_scope, x_current, x_callee, x_side, x_ending, x_faultLabel, x_stepsTaken, x_cellShape, x_cellLabel, x_cellOne, x_cellTwo, x_cellThree, x_scopeValue, x_scopeOuter, x_frameKind, x_frameOne, x_frameTwo, x_frameThree) => (x_frameKind j, x_frameOne j, x_frameTwo j, x_frameThree j)
/-- the frames below fc are alike -/
def gx_A (fc : Nat) (D D' : gx_D) : Prop := ∀ j, j < fc → gx_fr D' j = gx_fr D j
theorem gx_A_refl (fc : Nat) (D : gx_D) : gx_A fc D D := fun _ _ => rfl
theorem gx_A_trans {fc fc' : Nat} {D D' D'' : gx_D} (h : gx_A fc D D') (g : gx_A fc' D' D'') (l : fc ≤ fc') : gx_A fc D D'' := fun j hj => (g j (by omega)).trans (h j hj)
/-- the frames of an operand: at fc what waits for it, above it its cast, if there is one -/
def gx_O (fc fc' a : Nat) (w hd : Int32) (f t : Lean.RArray Nat) (D : gx_D) : Prop :=
  (gx_fr D fc).1 = nI a ∧ (gx_fr D fc).2.1 = w ∧ (gx_fr D fc).2.2.1 = hd ∧ (gd_en f = gd_en t → fc' = fc + 1) ∧ (gd_en f ≠ gd_en t → fc' = fc + 2 ∧ gx_fr D (fc + 1) = (-1, nI (gd_en f), nI (gd_en t), nI (a + 1)))
def gx_lp (post : SX → Prop) (x_typeDraft x_typeCount x_count x_wrongAt x_keptPlace x_runVerdict x_runBlame x_result : Int32) (x_named x_kinds x_values x_ends x_types x_operands x_targets : Nat → Int32) (N τ : Nat) (D : gx_D) : Prop := match D with | (x_cellCount, x_scopeCount, x_frameCount, x_mode, x_atToken, x_scope, x_current, x_callee, x_side, x_ending, x_faultLabel, x_stepsTaken, x_cellShape, x_cellLabel, x_cellOne, x_cellTwo, x_cellThree, x_scopeValue, x_scopeOuter, x_frameKind, x_frameOne, x_frameTwo, x_frameThree) => wX_workOut_7 post N (nI τ) x_typeDraft x_typeCount x_count x_wrongAt x_keptPlace x_cellCount x_scopeCount x_frameCount x_mode x_atToken x_scope x_current x_callee x_side x_ending x_faultLabel x_stepsTaken x_runVerdict x_runBlame x_result x_named x_kinds x_values x_ends x_types x_operands x_targets x_cellShape x_cellLabel x_cellOne x_cellTwo x_cellThree x_scopeValue x_scopeOuter x_frameKind x_frameOne x_frameTwo x_frameThree 32768 32768 32768 32768
def gx_go (post : SX → Prop) (x_typeDraft x_typeCount x_count x_wrongAt x_keptPlace x_runVerdict x_runBlame x_result : Int32) (x_named x_kinds x_values x_ends x_types x_operands x_targets : Nat → Int32) (s : gm_S) (D : gx_D) : Prop := ∀ N, 1000002 ≤ N + gm_u s → gx_lp post x_typeDraft x_typeCount x_count x_wrongAt x_keptPlace x_runVerdict x_runBlame x_result x_named x_kinds x_values x_ends x_types x_operands x_targets N (gm_u s) D
/-- a method's effect on the state -/
def gx_M (wp : (SX → Prop) → SX → Prop) (x_typeDraft x_typeCount x_count x_wrongAt x_keptPlace x_runVerdict x_runBlame x_result : Int32) (x_named x_kinds x_values x_ends x_types x_operands x_targets : Nat → Int32) (D : gx_D) (C : gx_D → Prop) : Prop := ∀ P : SX → Prop, (∀ D', C D' → P (gx_X x_typeDraft x_typeCount x_count x_wrongAt x_keptPlace x_runVerdict x_runBlame x_result x_named x_kinds x_values x_ends x_types x_operands x_targets D')) → wp P (gx_X x_typeDraft x_typeCount x_count x_wrongAt x_keptPlace x_runVerdict x_runBlame x_result x_named x_kinds x_values x_ends x_types x_operands x_targets D)
def gx_vn (P : gm_P) (i : Nat) : Prop := gm_kd P i = 2 → ∃ n, n < 10 ∧ gm_vl P i = nI n
/-- the arrays of a checked draft and the program -/
def gx_P (P : gm_P) (kinds values types operands targets : Nat → Int32) : Prop :=
  gm_cn P ≤ 36 ∧ ∀ i, i < gm_cn P → kinds i = nI (gm_kd P i) ∧ gm_kd P i < 12 ∧ values i = gm_vl P i ∧ types i = nI (gd_en (gm_ty P i)) ∧ gd_TY (gm_ty P i) ∧ gx_vn P i ∧
    (∀ k, k < gs_ar (gm_kd P i) → operands (3 * i + k) = nI (gm_op P i k) ∧ gm_op P i k < gm_cn P ∧ targets (3 * i + k) = nI (gd_en (gm_tg P i k)) ∧ gd_TY (gm_tg P i k))
section
variable {x_typeDraft x_typeCount x_count x_wrongAt x_keptPlace x_cellCount x_scopeCount x_frameCount x_mode x_atToken x_scope x_current x_callee x_side x_ending x_faultLabel x_stepsTaken x_runVerdict x_runBlame x_result : Int32} {x_named x_kinds x_values x_ends x_types x_operands x_targets x_cellShape x_cellLabel x_cellOne x_cellTwo x_cellThree x_scopeValue x_scopeOuter x_frameKind x_frameOne x_frameTwo x_frameThree : Nat → Int32}
variable {post : SX → Prop}
theorem gx_halt {D : gx_D} {N τ : Nat} (hN : 0 < N) (m4 : gx_mode D = 4) (P : post (gx_X x_typeDraft x_typeCount x_count x_wrongAt x_keptPlace x_runVerdict x_runBlame x_result x_named x_kinds x_values x_ends x_types x_operands x_targets D)) : gx_lp post x_typeDraft x_typeCount x_count x_wrongAt x_keptPlace x_runVerdict x_runBlame x_result x_named x_kinds x_values x_ends x_types x_operands x_targets N τ D := by
  obtain ⟨N, rfl⟩ : ∃ k, N = k + 1 := ⟨N - 1, by omega⟩
  obtain ⟨x_cellCount, x_scopeCount, x_frameCount, x_mode, x_atToken, x_scope, x_current, x_callee, x_side, x_ending, x_faultLabel, x_stepsTaken, x_cellShape, x_cellLabel, x_cellOne, x_cellTwo, x_cellThree, x_scopeValue, x_scopeOuter, x_frameKind, x_frameOne, x_frameTwo, x_frameThree⟩ := D
  exact br_c (fun _ => P) (fun _ => br_t m4 P)
theorem gx_room {post : Int32 → Prop} {n m fc : Nat} (hn : n < 8192) (hm : m < 64) (hf : fc < 32767) (P : post 1) : wpX_roomForTurn post (x_typeDraft, x_typeCount, x_count, x_wrongAt, x_keptPlace, nI n, nI m, nI fc, x_mode, x_atToken, x_scope, x_current, x_callee, x_side, x_ending, x_faultLabel, x_stepsTaken, x_runVerdict, x_runBlame, x_result, x_named, x_kinds, x_values, x_ends, x_types, x_operands, x_targets, x_cellShape, x_cellLabel, x_cellOne, x_cellTwo, x_cellThree, x_scopeValue, x_scopeOuter, x_frameKind, x_frameOne, x_frameTwo, x_frameThree, 32768, 32768, 32768, 32768) :=
  br_f (nI_ge (b := 8192) hn (by decide)) (br_f (nI_ge (b := 64) hm (by decide)) (br_f (nI_ge (b := 32767) hf (by decide)) P))
theorem gx_t0 {s : gm_S} {D : gx_D} {fc : Nat} (hu : gm_u s < 1000000) (hm : gm_m s < 64) (hf : fc < 32767) (hH : gx_H s D) (hF : gx_fc D = nI fc) (m0 : gx_mode D = 0) {C : gx_D → Prop} (hM : gx_M wpX_beginToken x_typeDraft x_typeCount x_count x_wrongAt x_keptPlace x_runVerdict x_runBlame x_result x_named x_kinds x_values x_ends x_types x_operands x_targets D C) (K : ∀ D', C D' → gx_go post x_typeDraft x_typeCount x_count x_wrongAt x_keptPlace x_runVerdict x_runBlame x_result x_named x_kinds x_values x_ends x_types x_operands x_targets (gm_tk s) D') : gx_go post x_typeDraft x_typeCount x_count x_wrongAt x_keptPlace x_runVerdict x_runBlame x_result x_named x_kinds x_values x_ends x_types x_operands x_targets s D := by
  intro N hN
  obtain ⟨N, rfl⟩ : ∃ k, N = k + 1 := ⟨N - 1, by omega⟩
  obtain ⟨x_cellCount, x_scopeCount, x_frameCount, x_mode, x_atToken, x_scope, x_current, x_callee, x_side, x_ending, x_faultLabel, x_stepsTaken, x_cellShape, x_cellLabel, x_cellOne, x_cellTwo, x_cellThree, x_scopeValue, x_scopeOuter, x_frameKind, x_frameOne, x_frameTwo, x_frameThree⟩ := D
  obtain ⟨⟨h1, h2, h3⟩, h4, _⟩ := hH
  have hF' : x_frameCount = nI fc := hF
  have m0' : x_mode = 0 := m0
  subst h1 h4 hF' m0'
  refine br_f (nI_ge (b := 1000000) hu (by decide)) (br_f (show ¬ (0 : Int32) = 4 by decide) (gx_room (by omega) hm hf (br_f (show ¬ (1 : Int32) = 0 by decide) (br_f (show ¬ (0 : Int32) < 0 by decide) (br_f (show ¬ (3 : Int32) < 0 by decide) (br_t rfl (hM _ ?_)))))))
  intro D' c
  obtain ⟨x_cellCount, x_scopeCount, x_frameCount, x_mode, x_atToken, x_scope, x_current, x_callee, x_side, x_ending, x_faultLabel, x_stepsTaken, x_cellShape, x_cellLabel, x_cellOne, x_cellTwo, x_cellThree, x_scopeValue, x_scopeOuter, x_frameKind, x_frameOne, x_frameTwo, x_frameThree⟩ := D'
  exact nm_r (nI_1 (gm_u s)) (K _ c N (by have : gm_u (gm_tk s) = gm_u s + 1 := rfl; omega))
theorem gx_t1 {s : gm_S} {D : gx_D} {fc : Nat} (hu : gm_u s < 1000000) (hm : gm_m s < 64) (hf : fc < 32767) (hH : gx_H s D) (hF : gx_fc D = nI fc) (m0 : gx_mode D = 1) {C : gx_D → Prop} (hM : gx_M wpX_resumeFrame x_typeDraft x_typeCount x_count x_wrongAt x_keptPlace x_runVerdict x_runBlame x_result x_named x_kinds x_values x_ends x_types x_operands x_targets D C) (K : ∀ D', C D' → gx_go post x_typeDraft x_typeCount x_count x_wrongAt x_keptPlace x_runVerdict x_runBlame x_result x_named x_kinds x_values x_ends x_types x_operands x_targets (gm_tk s) D') : gx_go post x_typeDraft x_typeCount x_count x_wrongAt x_keptPlace x_runVerdict x_runBlame x_result x_named x_kinds x_values x_ends x_types x_operands x_targets s D := by
  intro N hN
  obtain ⟨N, rfl⟩ : ∃ k, N = k + 1 := ⟨N - 1, by omega⟩
  obtain ⟨x_cellCount, x_scopeCount, x_frameCount, x_mode, x_atToken, x_scope, x_current, x_callee, x_side, x_ending, x_faultLabel, x_stepsTaken, x_cellShape, x_cellLabel, x_cellOne, x_cellTwo, x_cellThree, x_scopeValue, x_scopeOuter, x_frameKind, x_frameOne, x_frameTwo, x_frameThree⟩ := D
  obtain ⟨⟨h1, h2, h3⟩, h4, _⟩ := hH
  have hF' : x_frameCount = nI fc := hF
  have m0' : x_mode = 1 := m0
  subst h1 h4 hF' m0'
  refine br_f (nI_ge (b := 1000000) hu (by decide)) (br_f (show ¬ (1 : Int32) = 4 by decide) (gx_room (by omega) hm hf (br_f (show ¬ (1 : Int32) = 0 by decide) (br_f (show ¬ (1 : Int32) < 0 by decide) (br_f (show ¬ (3 : Int32) < 1 by decide) (br_f (show ¬ (1 : Int32) = 0 by decide) (br_t rfl (hM _ ?_))))))))
  intro D' c
  obtain ⟨x_cellCount, x_scopeCount, x_frameCount, x_mode, x_atToken, x_scope, x_current, x_callee, x_side, x_ending, x_faultLabel, x_stepsTaken, x_cellShape, x_cellLabel, x_cellOne, x_cellTwo, x_cellThree, x_scopeValue, x_scopeOuter, x_frameKind, x_frameOne, x_frameTwo, x_frameThree⟩ := D'
  exact nm_r (nI_1 (gm_u s)) (K _ c N (by have : gm_u (gm_tk s) = gm_u s + 1 := rfl; omega))
theorem gx_t2 {s : gm_S} {D : gx_D} {fc : Nat} (hu : gm_u s < 1000000) (hm : gm_m s < 64) (hf : fc < 32767) (hH : gx_H s D) (hF : gx_fc D = nI fc) (m0 : gx_mode D = 2) {C : gx_D → Prop} (hM : gx_M wpX_callOnce x_typeDraft x_typeCount x_count x_wrongAt x_keptPlace x_runVerdict x_runBlame x_result x_named x_kinds x_values x_ends x_types x_operands x_targets D C) (K : ∀ D', C D' → gx_go post x_typeDraft x_typeCount x_count x_wrongAt x_keptPlace x_runVerdict x_runBlame x_result x_named x_kinds x_values x_ends x_types x_operands x_targets (gm_tk s) D') : gx_go post x_typeDraft x_typeCount x_count x_wrongAt x_keptPlace x_runVerdict x_runBlame x_result x_named x_kinds x_values x_ends x_types x_operands x_targets s D := by
  intro N hN
  obtain ⟨N, rfl⟩ : ∃ k, N = k + 1 := ⟨N - 1, by omega⟩
  obtain ⟨x_cellCount, x_scopeCount, x_frameCount, x_mode, x_atToken, x_scope, x_current, x_callee, x_side, x_ending, x_faultLabel, x_stepsTaken, x_cellShape, x_cellLabel, x_cellOne, x_cellTwo, x_cellThree, x_scopeValue, x_scopeOuter, x_frameKind, x_frameOne, x_frameTwo, x_frameThree⟩ := D
  obtain ⟨⟨h1, h2, h3⟩, h4, _⟩ := hH
  have hF' : x_frameCount = nI fc := hF
  have m0' : x_mode = 2 := m0
  subst h1 h4 hF' m0'
  refine br_f (nI_ge (b := 1000000) hu (by decide)) (br_f (show ¬ (2 : Int32) = 4 by decide) (gx_room (by omega) hm hf (br_f (show ¬ (1 : Int32) = 0 by decide) (br_f (show ¬ (2 : Int32) < 0 by decide) (br_f (show ¬ (3 : Int32) < 2 by decide) (br_f (show ¬ (2 : Int32) = 0 by decide) (br_f (show ¬ (2 : Int32) = 1 by decide) (br_t rfl (hM _ ?_)))))))))
  intro D' c
  obtain ⟨x_cellCount, x_scopeCount, x_frameCount, x_mode, x_atToken, x_scope, x_current, x_callee, x_side, x_ending, x_faultLabel, x_stepsTaken, x_cellShape, x_cellLabel, x_cellOne, x_cellTwo, x_cellThree, x_scopeValue, x_scopeOuter, x_frameKind, x_frameOne, x_frameTwo, x_frameThree⟩ := D'
  exact nm_r (nI_1 (gm_u s)) (K _ c N (by have : gm_u (gm_tk s) = gm_u s + 1 := rfl; omega))
theorem gx_t3 {s : gm_S} {D : gx_D} {fc : Nat} (hu : gm_u s < 1000000) (hm : gm_m s < 64) (hf : fc < 32767) (hH : gx_H s D) (hF : gx_fc D = nI fc) (m0 : gx_mode D = 3) {C : gx_D → Prop} (hM : gx_M wpX_takeOnce x_typeDraft x_typeCount x_count x_wrongAt x_keptPlace x_runVerdict x_runBlame x_result x_named x_kinds x_values x_ends x_types x_operands x_targets D C) (K : ∀ D', C D' → gx_go post x_typeDraft x_typeCount x_count x_wrongAt x_keptPlace x_runVerdict x_runBlame x_result x_named x_kinds x_values x_ends x_types x_operands x_targets (gm_tk s) D') : gx_go post x_typeDraft x_typeCount x_count x_wrongAt x_keptPlace x_runVerdict x_runBlame x_result x_named x_kinds x_values x_ends x_types x_operands x_targets s D := by
  intro N hN
  obtain ⟨N, rfl⟩ : ∃ k, N = k + 1 := ⟨N - 1, by omega⟩
  obtain ⟨x_cellCount, x_scopeCount, x_frameCount, x_mode, x_atToken, x_scope, x_current, x_callee, x_side, x_ending, x_faultLabel, x_stepsTaken, x_cellShape, x_cellLabel, x_cellOne, x_cellTwo, x_cellThree, x_scopeValue, x_scopeOuter, x_frameKind, x_frameOne, x_frameTwo, x_frameThree⟩ := D
  obtain ⟨⟨h1, h2, h3⟩, h4, _⟩ := hH
  have hF' : x_frameCount = nI fc := hF
  have m0' : x_mode = 3 := m0
  subst h1 h4 hF' m0'
  refine br_f (nI_ge (b := 1000000) hu (by decide)) (br_f (show ¬ (3 : Int32) = 4 by decide) (gx_room (by omega) hm hf (br_f (show ¬ (1 : Int32) = 0 by decide) (br_f (show ¬ (3 : Int32) < 0 by decide) (br_f (show ¬ (3 : Int32) < 3 by decide) (br_f (show ¬ (3 : Int32) = 0 by decide) (br_f (show ¬ (3 : Int32) = 1 by decide) (br_f (show ¬ (3 : Int32) = 2 by decide) (br_t rfl (hM _ ?_))))))))))
  intro D' c
  obtain ⟨x_cellCount, x_scopeCount, x_frameCount, x_mode, x_atToken, x_scope, x_current, x_callee, x_side, x_ending, x_faultLabel, x_stepsTaken, x_cellShape, x_cellLabel, x_cellOne, x_cellTwo, x_cellThree, x_scopeValue, x_scopeOuter, x_frameKind, x_frameOne, x_frameTwo, x_frameThree⟩ := D'
  exact nm_r (nI_1 (gm_u s)) (K _ c N (by have : gm_u (gm_tk s) = gm_u s + 1 := rfl; omega))
theorem gx_pushFrame {fc : Nat} (hf : fc < 32768) {p0 p1 p2 p3 : Int32} (h : p0 = -1 → ¬ p1 = p2) (P : post (x_typeDraft, x_typeCount, x_count, x_wrongAt, x_keptPlace, x_cellCount, x_scopeCount, nI (fc + 1), x_mode, x_atToken, x_scope, x_current, x_callee, x_side, x_ending, x_faultLabel, x_stepsTaken, x_runVerdict, x_runBlame, x_result, x_named, x_kinds, x_values, x_ends, x_types, x_operands, x_targets, x_cellShape, x_cellLabel, x_cellOne, x_cellTwo, x_cellThree, x_scopeValue, x_scopeOuter, upd x_frameKind fc p0, upd x_frameOne fc p1, upd x_frameTwo fc p2, upd x_frameThree fc p3, 32768, 32768, 32768, 32768)) : wpX_pushFrame post (x_typeDraft, x_typeCount, x_count, x_wrongAt, x_keptPlace, x_cellCount, x_scopeCount, nI fc, x_mode, x_atToken, x_scope, x_current, x_callee, x_side, x_ending, x_faultLabel, x_stepsTaken, x_runVerdict, x_runBlame, x_result, x_named, x_kinds, x_values, x_ends, x_types, x_operands, x_targets, x_cellShape, x_cellLabel, x_cellOne, x_cellTwo, x_cellThree, x_scopeValue, x_scopeOuter, x_frameKind, x_frameOne, x_frameTwo, x_frameThree, 32768, 32768, 32768, 32768) p0 p1 p2 p3 := by
  have c : (nI fc).toNatClampNeg = fc := nI_clamp (by omega)
  have v : vp_in (nI fc) 32768 := vp_in_nI hf (by decide)
  have main : wX_pushFrame_11 post p0 p1 p2 p3 x_typeDraft x_typeCount x_count x_wrongAt x_keptPlace x_cellCount x_scopeCount (nI fc) x_mode x_atToken x_scope x_current x_callee x_side x_ending x_faultLabel x_stepsTaken x_runVerdict x_runBlame x_result x_named x_kinds x_values x_ends x_types x_operands x_targets x_cellShape x_cellLabel x_cellOne x_cellTwo x_cellThree x_scopeValue x_scopeOuter x_frameKind x_frameOne x_frameTwo x_frameThree 32768 32768 32768 32768 :=
    And.intro v (nm_r (congrArg (fun k => upd x_frameKind k p0) c) (And.intro v (nm_r (congrArg (fun k => upd x_frameOne k p1) c) (And.intro v (nm_r (congrArg (fun k => upd x_frameTwo k p2) c) (And.intro v (nm_r (congrArg (fun k => upd x_frameThree k p3) c) (nm_r (nI_1 fc) P))))))))
  exact br_c (fun z => br_f (h z) main) (fun _ => main)
theorem gx_pushSkip {p1 p3 : Int32} (P : post (x_typeDraft, x_typeCount, x_count, x_wrongAt, x_keptPlace, x_cellCount, x_scopeCount, x_frameCount, x_mode, x_atToken, x_scope, x_current, x_callee, x_side, x_ending, x_faultLabel, x_stepsTaken, x_runVerdict, x_runBlame, x_result, x_named, x_kinds, x_values, x_ends, x_types, x_operands, x_targets, x_cellShape, x_cellLabel, x_cellOne, x_cellTwo, x_cellThree, x_scopeValue, x_scopeOuter, x_frameKind, x_frameOne, x_frameTwo, x_frameThree, 32768, 32768, 32768, 32768)) : wpX_pushFrame post (x_typeDraft, x_typeCount, x_count, x_wrongAt, x_keptPlace, x_cellCount, x_scopeCount, x_frameCount, x_mode, x_atToken, x_scope, x_current, x_callee, x_side, x_ending, x_faultLabel, x_stepsTaken, x_runVerdict, x_runBlame, x_result, x_named, x_kinds, x_values, x_ends, x_types, x_operands, x_targets, x_cellShape, x_cellLabel, x_cellOne, x_cellTwo, x_cellThree, x_scopeValue, x_scopeOuter, x_frameKind, x_frameOne, x_frameTwo, x_frameThree, 32768, 32768, 32768, 32768) (-1) p1 p1 p3 := br_t rfl (br_t rfl P)
theorem gx_startOperand {fc i k o : Nat} {f t : Lean.RArray Nat} {w hd : Int32} (hf : fc + 1 < 32768) (hi : i < 36) (hk : k < 3) (ho : o < 36) (eo : x_operands (3 * i + k) = nI o) (ef : x_types o = nI (gd_en f)) (et : x_targets (3 * i + k) = nI (gd_en t)) (tf : gd_TY f) (tt : gd_TY t)
    (P : ∀ fc' fk f1 f2 f3, fk fc = nI (3 * i + k) → f1 fc = w → f2 fc = hd → (gd_en f = gd_en t → fc' = fc + 1) → (gd_en f ≠ gd_en t → fc' = fc + 2 ∧ fk (fc + 1) = -1 ∧ f1 (fc + 1) = nI (gd_en f) ∧ f2 (fc + 1) = nI (gd_en t) ∧ f3 (fc + 1) = nI (3 * i + k + 1)) → (∀ j, j < fc → fk j = x_frameKind j ∧ f1 j = x_frameOne j ∧ f2 j = x_frameTwo j ∧ f3 j = x_frameThree j) →
      post (x_typeDraft, x_typeCount, x_count, x_wrongAt, x_keptPlace, x_cellCount, x_scopeCount, nI fc', 0, nI o, w, x_current, x_callee, x_side, x_ending, x_faultLabel, x_stepsTaken, x_runVerdict, x_runBlame, x_result, x_named, x_kinds, x_values, x_ends, x_types, x_operands, x_targets, x_cellShape, x_cellLabel, x_cellOne, x_cellTwo, x_cellThree, x_scopeValue, x_scopeOuter, fk, f1, f2, f3, 32768, 32768, 32768, 32768)) :
    wpX_startOperand post (x_typeDraft, x_typeCount, x_count, x_wrongAt, x_keptPlace, x_cellCount, x_scopeCount, nI fc, x_mode, x_atToken, x_scope, x_current, x_callee, x_side, x_ending, x_faultLabel, x_stepsTaken, x_runVerdict, x_runBlame, x_result, x_named, x_kinds, x_values, x_ends, x_types, x_operands, x_targets, x_cellShape, x_cellLabel, x_cellOne, x_cellTwo, x_cellThree, x_scopeValue, x_scopeOuter, x_frameKind, x_frameOne, x_frameTwo, x_frameThree, 32768, 32768, 32768, 32768) (nI i) (nI k) w hd := by
  have ea : (3 : Int32) * nI i + nI k = nI (3 * i + k) := by
    rw [show (3 : Int32) * nI i = nI (3 * i) from pk_mul 3 i, nI_add]
  refine nm_r ea ?_
  rw [nI_clamp (show 3 * i + k < 2 ^ 31 by omega), eo]
  refine And.intro (vp_in_nI (by omega) (by decide)) (nm_e ?_)
  refine gx_pushFrame (by omega) (fun z => absurd z ?_) ?_
  · intro z
    have := congrArg Int32.toInt z
    rw [nI_toInt (by omega)] at this
    have m1 : (-1 : Int32).toInt = -1 := by decide
    omega
  dsimp only
  rw [nI_clamp (show o < 2 ^ 31 by omega), ef, et, nI_1]
  refine And.intro (vp_in_nI ho (by decide)) (And.intro (vp_in_nI (by omega) (by decide)) ?_)
  by_cases e : gd_en f = gd_en t
  · rw [e]
    refine gx_pushSkip ?_
    refine P (fc + 1) (upd x_frameKind fc (nI (3 * i + k))) (upd x_frameOne fc w) (upd x_frameTwo fc hd) (upd x_frameThree fc 0) pk_us pk_us pk_us (fun _ => rfl) (fun z => absurd e z) (fun j hj => ?_)
    rw [pk_un (by omega), pk_un (by omega), pk_un (by omega), pk_un (by omega)]
    exact ⟨rfl, rfl, rfl, rfl⟩
  · refine gx_pushFrame hf (fun _ z => e ((gx_enI tf tt).mp z)) ?_
    refine P (fc + 2) (upd (upd x_frameKind fc (nI (3 * i + k))) (fc + 1) (-1)) (upd (upd x_frameOne fc w) (fc + 1) (nI (gd_en f))) (upd (upd x_frameTwo fc hd) (fc + 1) (nI (gd_en t))) (upd (upd x_frameThree fc 0) (fc + 1) (nI (3 * i + k + 1))) ?_ ?_ ?_ (fun z => absurd z e) (fun _ => ⟨rfl, pk_us, pk_us, pk_us, pk_us⟩) (fun j hj => ?_)
    · rw [pk_un (by omega)]; exact pk_us
    · rw [pk_un (by omega)]; exact pk_us
    · rw [pk_un (by omega)]; exact pk_us
    · rw [pk_un (by omega), pk_un (by omega), pk_un (by omega), pk_un (by omega), pk_un (by omega), pk_un (by omega), pk_un (by omega), pk_un (by omega)]
      exact ⟨rfl, rfl, rfl, rfl⟩
end
end
section
/-! ===== 13: X follows the machine ===== -/
theorem gm_new_same {s : gm_S} {c : gm_Cell} {add : Nat} {out : gm_O} (H : gm_new s c add = some out) : gm_m out.2.2.2 = gm_m s ∧ gm_e out.2.2.2 = gm_e s ∧ gm_T out.2.2.2 = gm_T s ∧ gm_u out.2.2.2 = gm_u s := by
  obtain ⟨_, H⟩ := gm_new_e H
  subst H
  exact ⟨rfl, rfl, rfl, rfl⟩
theorem gm_wr_same {s : gm_S} {v : Nat} {f t : Lean.RArray Nat} {p : Int} {add : Nat} {out : gm_O} (H : gm_wr s v f t p add = some out) : gm_m out.2.2.2 = gm_m s ∧ gm_e out.2.2.2 = gm_e s ∧ gm_T out.2.2.2 = gm_T s ∧ gm_u out.2.2.2 = gm_u s := by
  unfold gm_wr at H
  by_cases e : gd_en f = gd_en t
  · rw [if_pos e] at H
    injection H with H
    subst H
    exact ⟨rfl, rfl, rfl, rfl⟩
  · rw [if_neg e] at H
    exact gm_new_same (gm_if_e H).2
theorem gm_cast_same {s : gm_S} {v : Nat} {f t : Lean.RArray Nat} {p : Int} {out : gm_O} (H : gm_cast s v f t p = some out) : gm_m out.2.2.2 = gm_m s ∧ gm_e out.2.2.2 = gm_e s ∧ gm_T out.2.2.2 = gm_T s ∧ gm_u out.2.2.2 = gm_u s := by
  obtain ⟨_, _, _, H⟩ := gm_cast_e H
  by_cases e : gd_en f = gd_en t
  · rw [if_pos e] at H
    injection H with H
    subst H
    exact ⟨rfl, rfl, rfl, rfl⟩
  rw [if_neg e] at H
  by_cases t2 : gd_hd t = 2
  · rw [if_pos t2] at H
    exact gm_wr_same H
  rw [if_neg t2] at H
  by_cases f2 : gd_hd f = 2
  · rw [if_pos f2] at H
    by_cases c : v % 8 = gm_tag t
    · rw [if_pos c] at H
      exact gm_wr_same H
    · rw [if_neg c] at H
      injection H with H
      subst H
      exact ⟨rfl, rfl, rfl, rfl⟩
  · rw [if_neg f2] at H
    exact gm_wr_same H
/-- halted with this answer -/
def gx_E (out : gm_O) (D : gx_D) : Prop := gx_mode D = 4 ∧ gx_end D = nI out.1 ∧ gx_stp D = nI (gm_T out.2.2.2) ∧ (out.1 = 4 → gx_flt D = gm_lb out.2.2.1) ∧ gx_H out.2.2.2 D
def gx_K0 (post : SX → Prop) (x_typeDraft x_typeCount x_count x_wrongAt x_keptPlace x_runVerdict x_runBlame x_result : Int32) (x_named x_kinds x_values x_ends x_types x_operands x_targets : Nat → Int32) (fc : Nat) (D : gx_D) (out : gm_O) : Prop := ∀ D', out.1 = 0 → gx_H out.2.2.2 D' → gx_fc D' = nI fc → gx_A fc D D' → gx_mode D' = 1 → gx_cur D' = nI (gm_xv out.2.1) → gx_go post x_typeDraft x_typeCount x_count x_wrongAt x_keptPlace x_runVerdict x_runBlame x_result x_named x_kinds x_values x_ends x_types x_operands x_targets out.2.2.2 D'
def gx_KB (post : SX → Prop) (x_typeDraft x_typeCount x_count x_wrongAt x_keptPlace x_runVerdict x_runBlame x_result : Int32) (x_named x_kinds x_values x_ends x_types x_operands x_targets : Nat → Int32) (out : gm_O) : Prop := out.1 ≠ 0 → ∀ D', gx_E out D' → post (gx_X x_typeDraft x_typeCount x_count x_wrongAt x_keptPlace x_runVerdict x_runBlame x_result x_named x_kinds x_values x_ends x_types x_operands x_targets D')
section
variable {x_typeDraft x_typeCount x_count x_wrongAt x_keptPlace x_cellCount x_scopeCount x_frameCount x_mode x_atToken x_scope x_current x_callee x_side x_ending x_faultLabel x_stepsTaken x_runVerdict x_runBlame x_result : Int32} {x_named x_kinds x_values x_ends x_types x_operands x_targets x_cellShape x_cellLabel x_cellOne x_cellTwo x_cellThree x_scopeValue x_scopeOuter x_frameKind x_frameOne x_frameTwo x_frameThree : Nat → Int32}
variable {post : SX → Prop}
theorem gx_K0_A {fc fc' : Nat} {D D' : gx_D} {out : gm_O} (h : gx_K0 post x_typeDraft x_typeCount x_count x_wrongAt x_keptPlace x_runVerdict x_runBlame x_result x_named x_kinds x_values x_ends x_types x_operands x_targets fc D out) (e : fc = fc') (a : gx_A fc D D') : gx_K0 post x_typeDraft x_typeCount x_count x_wrongAt x_keptPlace x_runVerdict x_runBlame x_result x_named x_kinds x_values x_ends x_types x_operands x_targets fc' D' out := by
  subst e
  intro D'' h0 h1 h2 h3 h4 h5
  exact h D'' h0 h1 h2 (gx_A_trans a h3 (Nat.le_refl _)) h4 h5
/-- the cast of a frame -/
theorem gx_castTurn {s : gm_S} {D : gx_D} {fc v : Nat} {f t : Lean.RArray Nat} {p : Int} {out : gm_O} (H : gm_cast s v f t p = some out) (hf : fc < 32767) (hp : gm_PB p) (hH : gx_H s D) (hF : gx_fc D = nI (fc + 1)) (hfr : gx_fr D fc = (-1, nI (gd_en f), nI (gd_en t), gm_lb p)) (hm : gx_mode D = 1) (hc : gx_cur D = nI (gm_xv v)) :
    gx_M wpX_resumeFrame x_typeDraft x_typeCount x_count x_wrongAt x_keptPlace x_runVerdict x_runBlame x_result x_named x_kinds x_values x_ends x_types x_operands x_targets D (fun D' => (out.1 = 0 ∧ gx_H out.2.2.2 D' ∧ gx_fc D' = nI fc ∧ gx_A fc D D' ∧ gx_mode D' = 1 ∧ gx_cur D' = nI (gm_xv out.2.1)) ∨ (out.1 ≠ 0 ∧ gx_E out D')) := by
  intro P HP
  obtain ⟨x_cellCount, x_scopeCount, x_frameCount, x_mode, x_atToken, x_scope, x_current, x_callee, x_side, x_ending, x_faultLabel, x_stepsTaken, x_cellShape, x_cellLabel, x_cellOne, x_cellTwo, x_cellThree, x_scopeValue, x_scopeOuter, x_frameKind, x_frameOne, x_frameTwo, x_frameThree⟩ := D
  have hF' : x_frameCount = nI (fc + 1) := hF
  have hm' : x_mode = 1 := hm
  have hc' : x_current = nI (gm_xv v) := hc
  subst hF' hm' hc'
  have hfr' : (x_frameKind fc, x_frameOne fc, x_frameTwo fc, x_frameThree fc) = ((-1 : Int32), nI (gd_en f), nI (gd_en t), gm_lb p) := hfr
  injection hfr' with e0 e1
  injection e1 with e1 e2
  injection e2 with e2 e3
  obtain ⟨h0, h4, h5, h6, h7, h8⟩ := hH
  have same := gm_cast_same H
  have vin : vp_in (nI fc) 32768 := vp_in_nI (by omega) (by decide)
  refine br_f (nI_ne0 (by omega) (by omega)) (nm_r (nI_pred fc) ?_)
  rw [nI_clamp (show fc < 2 ^ 31 by omega), e0, e1, e2, e3]
  refine And.intro vin (nm_e (And.intro vin (nm_e (And.intro vin (nm_e (br_t rfl (And.intro vin (gx_castValue H h0 hp ?_ ?_))))))))
  · intro w s' cc cSh cLb c1 c2 c3 eo hH'
    subst eo
    obtain ⟨m1, m2, m3, m4⟩ := same
    refine HP (cc, x_scopeCount, nI fc, 1, x_atToken, x_scope, nI (gm_xv w), x_callee, x_side, x_ending, x_faultLabel, x_stepsTaken, cSh, cLb, c1, c2, c3, x_scopeValue, x_scopeOuter, x_frameKind, x_frameOne, x_frameTwo, x_frameThree) (Or.inl ⟨rfl, ⟨hH', ?_, ?_, ?_, ?_, ?_⟩, rfl, fun j hj => rfl, rfl, rfl⟩)
    · exact h4.trans (congrArg nI m1.symm)
    · show gm_m s' ≤ 64
      rw [show gm_m s' = gm_m s from m1]
      exact h5
    · exact h6.trans (congrArg nI m3.symm)
    · show gm_T s' ≤ 40
      rw [show gm_T s' = gm_T s from m3]
      exact h7
    · intro w' a b
      rw [show gm_e s' = gm_e s from m2]
      exact h8 w' a (by rw [← show gm_m s' = gm_m s from m1]; exact b)
  · intro eo
    subst eo
    exact HP (x_cellCount, x_scopeCount, nI fc, 4, x_atToken, x_scope, nI (gm_xv v), x_callee, x_side, 4, gm_lb p, x_stepsTaken, x_cellShape, x_cellLabel, x_cellOne, x_cellTwo, x_cellThree, x_scopeValue, x_scopeOuter, x_frameKind, x_frameOne, x_frameTwo, x_frameThree) (Or.inr ⟨show (4 : Nat) ≠ 0 by decide, rfl, rfl, h6, fun _ => rfl, h0, h4, h5, h6, h7, h8⟩)
theorem gx_fcast {s : gm_S} {D : gx_D} {h fc fc' v : Nat} {f t : Lean.RArray Nat} {p : Int} {out : gm_O} (H : gm_fc s h v f t p = some out) (hh : fc' ≤ h) (hp : gm_PB p) (hH : gx_H s D) (hF : gx_fc D = nI fc') (hfe : gd_en f = gd_en t → fc' = fc) (hfn : gd_en f ≠ gd_en t → fc' = fc + 1 ∧ gx_fr D fc = (-1, nI (gd_en f), nI (gd_en t), gm_lb p)) (hm : gx_mode D = 1) (hc : gx_cur D = nI (gm_xv v)) (K0 : gx_K0 post x_typeDraft x_typeCount x_count x_wrongAt x_keptPlace x_runVerdict x_runBlame x_result x_named x_kinds x_values x_ends x_types x_operands x_targets fc D out) (KB : gx_KB post x_typeDraft x_typeCount x_count x_wrongAt x_keptPlace x_runVerdict x_runBlame x_result x_named x_kinds x_values x_ends x_types x_operands x_targets out) : gx_go post x_typeDraft x_typeCount x_count x_wrongAt x_keptPlace x_runVerdict x_runBlame x_result x_named x_kinds x_values x_ends x_types x_operands x_targets s D := by
  unfold gm_fc at H
  by_cases e : gd_en f = gd_en t
  · rw [if_pos e] at H
    injection H with H
    subst H
    exact K0 D rfl hH (by rw [hF, hfe e]) (gx_A_refl _ _) hm hc
  · rw [if_neg e] at H
    obtain ⟨⟨r1, r2, r3, r4⟩, H⟩ := gm_tick_e H
    obtain ⟨e1, e2⟩ := hfn e
    subst e1
    have same := gm_cast_same H
    refine gx_t1 r1 r3 (by omega) hH hF hm (gx_castTurn (s := gm_tk s) H (by omega) hp hH hF e2 hm hc) ?_
    rintro D' (⟨a0, a1, a2, a3, a4, a5⟩ | ⟨a0, a1⟩)
    · have g := K0 D' a0 a1 a2 a3 a4 a5
      intro N hN
      have eu : gm_u out.2.2.2 = gm_u (gm_tk s) := same.2.2.2
      have := g N (by rw [eu]; exact hN)
      rw [eu] at this
      exact this
    · intro N hN
      have eu : gm_u (gm_tk s) = gm_u s + 1 := rfl
      exact gx_halt (by omega) a1.1 (KB a0 D' a1)
end
end
section
/-! ===== 14: X's methods of a turn ===== -/
section
variable {x_typeDraft x_typeCount x_count x_wrongAt x_keptPlace x_cellCount x_scopeCount x_frameCount x_mode x_atToken x_scope x_current x_callee x_side x_ending x_faultLabel x_stepsTaken x_runVerdict x_runBlame x_result : Int32} {x_named x_kinds x_values x_ends x_types x_operands x_targets x_cellShape x_cellLabel x_cellOne x_cellTwo x_cellThree x_scopeValue x_scopeOuter x_frameKind x_frameOne x_frameTwo x_frameThree : Nat → Int32}
variable {post : SX → Prop}
theorem gx_pushCast {fc : Nat} {f t : Lean.RArray Nat} {l : Int32} (hf : fc < 32768) (tf : gd_TY f) (tt : gd_TY t)
    (P : ∀ fc' fk f1 f2 f3, (gd_en f = gd_en t → fc' = fc) → (gd_en f ≠ gd_en t → fc' = fc + 1 ∧ fk fc = -1 ∧ f1 fc = nI (gd_en f) ∧ f2 fc = nI (gd_en t) ∧ f3 fc = l) → (∀ j, j < fc → fk j = x_frameKind j ∧ f1 j = x_frameOne j ∧ f2 j = x_frameTwo j ∧ f3 j = x_frameThree j) → post (x_typeDraft, x_typeCount, x_count, x_wrongAt, x_keptPlace, x_cellCount, x_scopeCount, nI fc', x_mode, x_atToken, x_scope, x_current, x_callee, x_side, x_ending, x_faultLabel, x_stepsTaken, x_runVerdict, x_runBlame, x_result, x_named, x_kinds, x_values, x_ends, x_types, x_operands, x_targets, x_cellShape, x_cellLabel, x_cellOne, x_cellTwo, x_cellThree, x_scopeValue, x_scopeOuter, fk, f1, f2, f3, 32768, 32768, 32768, 32768)) :
    wpX_pushFrame post (x_typeDraft, x_typeCount, x_count, x_wrongAt, x_keptPlace, x_cellCount, x_scopeCount, nI fc, x_mode, x_atToken, x_scope, x_current, x_callee, x_side, x_ending, x_faultLabel, x_stepsTaken, x_runVerdict, x_runBlame, x_result, x_named, x_kinds, x_values, x_ends, x_types, x_operands, x_targets, x_cellShape, x_cellLabel, x_cellOne, x_cellTwo, x_cellThree, x_scopeValue, x_scopeOuter, x_frameKind, x_frameOne, x_frameTwo, x_frameThree, 32768, 32768, 32768, 32768) (-1) (nI (gd_en f)) (nI (gd_en t)) l := by
  by_cases e : gd_en f = gd_en t
  · rw [e]
    exact gx_pushSkip (P fc x_frameKind x_frameOne x_frameTwo x_frameThree (fun _ => rfl) (fun z => absurd e z) (fun j hj => ⟨rfl, rfl, rfl, rfl⟩))
  · refine gx_pushFrame hf (fun _ z => e ((gx_enI tf tt).mp z)) ?_
    refine P (fc + 1) (upd x_frameKind fc (-1)) (upd x_frameOne fc (nI (gd_en f))) (upd x_frameTwo fc (nI (gd_en t))) (upd x_frameThree fc l) (fun z => absurd z e) (fun _ => ⟨rfl, pk_us, pk_us, pk_us, pk_us⟩) (fun j hj => ?_)
    rw [pk_un (by omega), pk_un (by omega), pk_un (by omega), pk_un (by omega)]
    exact ⟨rfl, rfl, rfl, rfl⟩
theorem gx_newScope {post : Int32 → SX → Prop} {m : Nat} (hm : m < 64) {p0 p1 : Int32} (P : post (nI m) (x_typeDraft, x_typeCount, x_count, x_wrongAt, x_keptPlace, x_cellCount, nI (m + 1), x_frameCount, x_mode, x_atToken, x_scope, x_current, x_callee, x_side, x_ending, x_faultLabel, x_stepsTaken, x_runVerdict, x_runBlame, x_result, x_named, x_kinds, x_values, x_ends, x_types, x_operands, x_targets, x_cellShape, x_cellLabel, x_cellOne, x_cellTwo, x_cellThree, upd x_scopeValue m p0, upd x_scopeOuter m p1, x_frameKind, x_frameOne, x_frameTwo, x_frameThree, 32768, 32768, 32768, 32768)) : wpX_newScope post (x_typeDraft, x_typeCount, x_count, x_wrongAt, x_keptPlace, x_cellCount, nI m, x_frameCount, x_mode, x_atToken, x_scope, x_current, x_callee, x_side, x_ending, x_faultLabel, x_stepsTaken, x_runVerdict, x_runBlame, x_result, x_named, x_kinds, x_values, x_ends, x_types, x_operands, x_targets, x_cellShape, x_cellLabel, x_cellOne, x_cellTwo, x_cellThree, x_scopeValue, x_scopeOuter, x_frameKind, x_frameOne, x_frameTwo, x_frameThree, 32768, 32768, 32768, 32768) p0 p1 := by
  have c : (nI m).toNatClampNeg = m := nI_clamp (by omega)
  have v : vp_in (nI m) 64 := vp_in_nI hm (by decide)
  exact nm_r (nI_1 m) (And.intro v (nm_r (congrArg (fun k => upd x_scopeValue k p0) c) (And.intro v (nm_r (congrArg (fun k => upd x_scopeOuter k p1) c) P))))
theorem gx_takeBase {s : gm_S} {D : gx_D} {v side : Nat} (hH : gx_H s D) (hm : gx_mode D = 3) (hs : gx_sid D = nI side) (h2 : side < 2) (hc : gx_cur D = nI (gm_xv v)) (hv : v / 8 < gm_n s) (hk : gm_ck (gm_h s (v / 8)) = 5) :
    gx_M wpX_takeOnce x_typeDraft x_typeCount x_count x_wrongAt x_keptPlace x_runVerdict x_runBlame x_result x_named x_kinds x_values x_ends x_types x_operands x_targets D (fun D' => gx_H s D' ∧ gx_fc D' = gx_fc D ∧ (∀ j, gx_fr D' j = gx_fr D j) ∧ gx_mode D' = 1 ∧ gx_cur D' = nI (gm_xv (if side = 0 then gm_ca (gm_h s (v / 8)) else gm_cb (gm_h s (v / 8))))) := by
  intro P HP
  obtain ⟨x_cellCount, x_scopeCount, x_frameCount, x_mode, x_atToken, x_scope, x_current, x_callee, x_side, x_ending, x_faultLabel, x_stepsTaken, x_cellShape, x_cellLabel, x_cellOne, x_cellTwo, x_cellThree, x_scopeValue, x_scopeOuter, x_frameKind, x_frameOne, x_frameTwo, x_frameThree⟩ := D
  have hm' : x_mode = 3 := hm
  have hs' : x_side = nI side := hs
  have hc' : x_current = nI (gm_xv v) := hc
  subst hm' hs' hc'
  have hH0 := hH
  obtain ⟨⟨h1, h2', h3⟩, h4, h5, h6, h7, h8⟩ := hH
  have cv := (h3 _ hv).2.2.2.2.1 hk
  have vin : vp_in (nI (v / 8)) 8192 := vp_in_nI (by omega) (by decide)
  refine nm_r (gx_shr (by omega)) ?_
  rw [nI_clamp (show v / 8 < 2 ^ 31 by omega), cv.1, cv.2.1, cv.2.2]
  refine And.intro vin (nm_e (br_t rfl ?_))
  refine pk_eq side 0 (fun z => ?_) (fun z => ?_)
  · refine And.intro vin (nm_e ?_)
    exact HP (x_cellCount, x_scopeCount, x_frameCount, 1, x_atToken, x_scope, nI (gm_xv (gm_ca (gm_h s (v / 8)))), x_callee, nI side, x_ending, x_faultLabel, x_stepsTaken, x_cellShape, x_cellLabel, x_cellOne, x_cellTwo, x_cellThree, x_scopeValue, x_scopeOuter, x_frameKind, x_frameOne, x_frameTwo, x_frameThree) ⟨⟨⟨h1, h2', h3⟩, h4, h5, h6, h7, h8⟩, rfl, fun _ => rfl, rfl, by rw [if_pos z]; rfl⟩
  · refine And.intro vin (nm_e ?_)
    exact HP (x_cellCount, x_scopeCount, x_frameCount, 1, x_atToken, x_scope, nI (gm_xv (gm_cb (gm_h s (v / 8)))), x_callee, nI side, x_ending, x_faultLabel, x_stepsTaken, x_cellShape, x_cellLabel, x_cellOne, x_cellTwo, x_cellThree, x_scopeValue, x_scopeOuter, x_frameKind, x_frameOne, x_frameTwo, x_frameThree) ⟨⟨⟨h1, h2', h3⟩, h4, h5, h6, h7, h8⟩, rfl, fun _ => rfl, rfl, by rw [if_neg z]; rfl⟩
theorem gx_takeStep {s : gm_S} {D : gx_D} {v side fc : Nat} (hf : fc < 32767) (hH : gx_H s D) (hF : gx_fc D = nI fc) (hm : gx_mode D = 3) (hs : gx_sid D = nI side) (h2 : side < 2) (hc : gx_cur D = nI (gm_xv v)) (hv : v / 8 < gm_n s) (hk : gm_ck (gm_h s (v / 8)) = 6) :
    gx_M wpX_takeOnce x_typeDraft x_typeCount x_count x_wrongAt x_keptPlace x_runVerdict x_runBlame x_result x_named x_kinds x_values x_ends x_types x_operands x_targets D (fun D' => gx_H s D' ∧ gx_A fc D D' ∧ gx_mode D' = 3 ∧ gx_sid D' = nI side ∧ gx_cur D' = nI (gm_xv (gm_ca (gm_h s (v / 8)))) ∧ gm_PB (gm_cp (gm_h s (v / 8))) ∧ ∃ fc', gx_fc D' = nI fc' ∧ (gd_en (if side = 0 then gd_lf (gm_cf (gm_h s (v / 8))) else gd_rt (gm_cf (gm_h s (v / 8)))) = gd_en (if side = 0 then gd_lf (gm_ct (gm_h s (v / 8))) else gd_rt (gm_ct (gm_h s (v / 8)))) → fc' = fc) ∧
      (gd_en (if side = 0 then gd_lf (gm_cf (gm_h s (v / 8))) else gd_rt (gm_cf (gm_h s (v / 8)))) ≠ gd_en (if side = 0 then gd_lf (gm_ct (gm_h s (v / 8))) else gd_rt (gm_ct (gm_h s (v / 8)))) → fc' = fc + 1 ∧ gx_fr D' fc = (-1, nI (gd_en (if side = 0 then gd_lf (gm_cf (gm_h s (v / 8))) else gd_rt (gm_cf (gm_h s (v / 8))))), nI (gd_en (if side = 0 then gd_lf (gm_ct (gm_h s (v / 8))) else gd_rt (gm_ct (gm_h s (v / 8))))), gm_lb (gm_cp (gm_h s (v / 8)))))) := by
  intro P HP
  obtain ⟨x_cellCount, x_scopeCount, x_frameCount, x_mode, x_atToken, x_scope, x_current, x_callee, x_side, x_ending, x_faultLabel, x_stepsTaken, x_cellShape, x_cellLabel, x_cellOne, x_cellTwo, x_cellThree, x_scopeValue, x_scopeOuter, x_frameKind, x_frameOne, x_frameTwo, x_frameThree⟩ := D
  have hm' : x_mode = 3 := hm
  have hs' : x_side = nI side := hs
  have hc' : x_current = nI (gm_xv v) := hc
  have hF' : x_frameCount = nI fc := hF
  subst hm' hs' hc' hF'
  obtain ⟨⟨h1, h2', h3⟩, h4, h5, h6, h7, h8⟩ := hH
  obtain ⟨l1, l2, l3, l4, l5, tf, tt, k, a, b, a', b', ef, et⟩ := (h3 _ hv).2.2.2.2.2 (Or.inr hk)
  have vin : vp_in (nI (v / 8)) 8192 := vp_in_nI (by omega) (by decide)
  refine nm_r (gx_shr (by omega)) ?_
  rw [nI_clamp (show v / 8 < 2 ^ 31 by omega), l1, l4, l5]
  refine And.intro vin (nm_e (br_f (gm_lb_ne l2) (And.intro vin (nm_e (And.intro vin (nm_e ?_))))))
  rw [ef] at tf
  rw [et] at tt
  rw [ef, et]
  have fin : ∀ f t : Lean.RArray Nat, gd_TY f → gd_TY t → f = (if side = 0 then gd_lf (gm_cf (gm_h s (v / 8))) else gd_rt (gm_cf (gm_h s (v / 8)))) → t = (if side = 0 then gd_lf (gm_ct (gm_h s (v / 8))) else gd_rt (gm_ct (gm_h s (v / 8)))) → wX_takeOnce_105 P (nI (v / 8)) (gm_lb (gm_cp (gm_h s (v / 8)))) (nI (gd_en f)) (nI (gd_en t)) x_typeDraft x_typeCount x_count x_wrongAt x_keptPlace x_cellCount x_scopeCount (nI fc) 3 x_atToken x_scope (nI (gm_xv v)) x_callee (nI side) x_ending x_faultLabel x_stepsTaken x_runVerdict x_runBlame x_result x_named x_kinds x_values x_ends x_types x_operands x_targets x_cellShape x_cellLabel x_cellOne x_cellTwo x_cellThree x_scopeValue x_scopeOuter x_frameKind x_frameOne x_frameTwo x_frameThree 32768 32768 32768 32768 := by
    intro f t tf tt ef' et'
    refine gx_pushCast (by omega) tf tt ?_
    intro fc' fk f1 f2 f3 g1 g2 g3
    dsimp only
    rw [nI_clamp (show v / 8 < 2 ^ 31 by omega), l3]
    refine And.intro vin (nm_e ?_)
    refine HP (x_cellCount, x_scopeCount, nI fc', 3, x_atToken, x_scope, nI (gm_xv (gm_ca (gm_h s (v / 8)))), x_callee, nI side, x_ending, x_faultLabel, x_stepsTaken, x_cellShape, x_cellLabel, x_cellOne, x_cellTwo, x_cellThree, x_scopeValue, x_scopeOuter, fk, f1, f2, f3) ⟨⟨⟨h1, h2', h3⟩, h4, h5, h6, h7, h8⟩, ?_, rfl, rfl, rfl, l2, fc', rfl, ?_, ?_⟩
    · intro j hj
      obtain ⟨q1, q2, q3, q4⟩ := g3 j hj
      show (fk j, f1 j, f2 j, f3 j) = (x_frameKind j, x_frameOne j, x_frameTwo j, x_frameThree j)
      rw [q1, q2, q3, q4]
    · rw [← ef', ← et']; exact g1
    · rw [← ef', ← et']
      intro z
      obtain ⟨q0, q1, q2, q3, q4⟩ := g2 z
      refine ⟨q0, ?_⟩
      show (fk fc, f1 fc, f2 fc, f3 fc) = _
      rw [q1, q2, q3, q4]
  refine pk_eq side 0 (fun z => ?_) (fun z => ?_)
  · refine gx_leftOf tf (pk_eq side 0 (fun _ => gx_leftOf tt (fin a a' (gd_TY_l tf) (gd_TY_l tt) ?_ ?_)) (fun y => absurd z y))
    · rw [if_pos z, ef]; rfl
    · rw [if_pos z, et]; rfl
  · refine gx_rightOf tf (pk_eq side 0 (fun y => absurd y z) (fun _ => gx_rightOf tt (fin b b' (gd_TY_r tf) (gd_TY_r tt) ?_ ?_)))
    · rw [if_neg z, ef]; rfl
    · rw [if_neg z, et]; rfl
theorem gx_callBase {s : gm_S} {D : gx_D} {g a fc : Nat} (h64 : gm_m s < 64) (hH : gx_H s D) (hF : gx_fc D = nI fc) (hm : gx_mode D = 2) (hg : gx_cal D = nI (gm_xv g)) (hc : gx_cur D = nI (gm_xv a)) (hv : g / 8 < gm_n s) (hk : gm_ck (gm_h s (g / 8)) = 3) :
    gx_M wpX_callOnce x_typeDraft x_typeCount x_count x_wrongAt x_keptPlace x_runVerdict x_runBlame x_result x_named x_kinds x_values x_ends x_types x_operands x_targets D (fun D' => gx_H (gm_scope s a (gm_cb (gm_h s (g / 8)))) D' ∧ gx_fc D' = nI fc ∧ gx_A fc D D' ∧ gx_mode D' = 0 ∧ gx_att D' = nI (gm_ca (gm_h s (g / 8)) + 1) ∧ gx_scp D' = nI (gm_m s)) := by
  intro P HP
  obtain ⟨x_cellCount, x_scopeCount, x_frameCount, x_mode, x_atToken, x_scope, x_current, x_callee, x_side, x_ending, x_faultLabel, x_stepsTaken, x_cellShape, x_cellLabel, x_cellOne, x_cellTwo, x_cellThree, x_scopeValue, x_scopeOuter, x_frameKind, x_frameOne, x_frameTwo, x_frameThree⟩ := D
  have hm' : x_mode = 2 := hm
  have hg' : x_callee = nI (gm_xv g) := hg
  have hc' : x_current = nI (gm_xv a) := hc
  have hF' : x_frameCount = nI fc := hF
  subst hm' hg' hc' hF'
  obtain ⟨⟨h1, h2', h3⟩, h4, h5, h6, h7, h8⟩ := hH
  subst h4
  have cv := (h3 _ hv).2.2.2.1 hk
  have vin : vp_in (nI (g / 8)) 8192 := vp_in_nI (by omega) (by decide)
  refine nm_r (gx_shr (by omega)) ?_
  rw [nI_clamp (show g / 8 < 2 ^ 31 by omega), cv.1, cv.2.1, cv.2.2]
  refine And.intro vin (nm_e (br_t rfl (And.intro vin (nm_r (nI_1 _) (And.intro vin (gx_newScope h64 ?_))))))
  refine HP (x_cellCount, nI (gm_m s + 1), nI fc, 0, nI (gm_ca (gm_h s (g / 8)) + 1), nI (gm_m s), nI (gm_xv a), nI (gm_xv g), x_side, x_ending, x_faultLabel, x_stepsTaken, x_cellShape, x_cellLabel, x_cellOne, x_cellTwo, x_cellThree, upd x_scopeValue (gm_m s) (nI (gm_xv a)), upd x_scopeOuter (gm_m s) (nI (gm_cb (gm_h s (g / 8)))), x_frameKind, x_frameOne, x_frameTwo, x_frameThree) ⟨⟨⟨h1, h2', h3⟩, rfl, ?_, h6, h7, ?_⟩, rfl, fun _ _ => rfl, rfl, rfl, rfl⟩
  · show gm_m s + 1 ≤ 64
    omega
  · intro w w0 w1
    have w1' : w < gm_m s + 1 := w1
    have eE : gm_e (gm_scope s a (gm_cb (gm_h s (g / 8)))) w = if w = gm_m s then (a, gm_cb (gm_h s (g / 8))) else gm_e s w := rfl
    rw [eE]
    by_cases c : w = gm_m s
    · subst c
      rw [if_pos rfl, pk_us, pk_us]
      exact ⟨rfl, rfl⟩
    · rw [if_neg c, pk_un c, pk_un c]
      exact h8 w w0 (by omega)
theorem gx_callStep {s : gm_S} {D : gx_D} {g a fc : Nat} {o1 : gm_O} (H : gm_cast s a (gd_lf (gm_ct (gm_h s (g / 8)))) (gd_lf (gm_cf (gm_h s (g / 8)))) (- gm_cp (gm_h s (g / 8))) = some o1) (hf : fc < 32767) (hH : gx_H s D) (hF : gx_fc D = nI fc) (hm : gx_mode D = 2) (hg : gx_cal D = nI (gm_xv g)) (hc : gx_cur D = nI (gm_xv a)) (hv : g / 8 < gm_n s) (hk : gm_ck (gm_h s (g / 8)) = 4) :
    gx_M wpX_callOnce x_typeDraft x_typeCount x_count x_wrongAt x_keptPlace x_runVerdict x_runBlame x_result x_named x_kinds x_values x_ends x_types x_operands x_targets D (fun D' => (o1.1 = 0 ∧ gx_H o1.2.2.2 D' ∧ gx_A fc D D' ∧ gx_mode D' = 2 ∧ gx_cal D' = nI (gm_xv (gm_ca (gm_h s (g / 8)))) ∧ gx_cur D' = nI (gm_xv o1.2.1) ∧ gm_PB (gm_cp (gm_h s (g / 8))) ∧ ∃ fc', gx_fc D' = nI fc' ∧ (gd_en (gd_rt (gm_cf (gm_h s (g / 8)))) = gd_en (gd_rt (gm_ct (gm_h s (g / 8)))) → fc' = fc) ∧
      (gd_en (gd_rt (gm_cf (gm_h s (g / 8)))) ≠ gd_en (gd_rt (gm_ct (gm_h s (g / 8)))) → fc' = fc + 1 ∧ gx_fr D' fc = (-1, nI (gd_en (gd_rt (gm_cf (gm_h s (g / 8))))), nI (gd_en (gd_rt (gm_ct (gm_h s (g / 8))))), gm_lb (gm_cp (gm_h s (g / 8)))))) ∨ (o1.1 ≠ 0 ∧ gx_E o1 D')) := by
  intro P HP
  obtain ⟨x_cellCount, x_scopeCount, x_frameCount, x_mode, x_atToken, x_scope, x_current, x_callee, x_side, x_ending, x_faultLabel, x_stepsTaken, x_cellShape, x_cellLabel, x_cellOne, x_cellTwo, x_cellThree, x_scopeValue, x_scopeOuter, x_frameKind, x_frameOne, x_frameTwo, x_frameThree⟩ := D
  have hm' : x_mode = 2 := hm
  have hg' : x_callee = nI (gm_xv g) := hg
  have hc' : x_current = nI (gm_xv a) := hc
  have hF' : x_frameCount = nI fc := hF
  subst hm' hg' hc' hF'
  obtain ⟨hH0, h4, h5, h6, h7, h8⟩ := hH
  have hH1 := hH0
  obtain ⟨h1, h2', h3⟩ := hH0
  obtain ⟨l1, l2, l3, l4, l5, tf, tt, k, b, c, b', c', ef, et⟩ := (h3 _ hv).2.2.2.2.2 (Or.inl hk)
  have same := gm_cast_same H
  have vin : vp_in (nI (g / 8)) 8192 := vp_in_nI (by omega) (by decide)
  refine nm_r (gx_shr (by omega)) ?_
  rw [nI_clamp (show g / 8 < 2 ^ 31 by omega), l1, l4, l5]
  rw [ef] at tf H
  rw [et] at tt H
  rw [ef, et]
  refine And.intro vin (nm_e (br_f (gm_lb_ne l2) (And.intro vin (gx_leftOf tt (And.intro vin (gx_leftOf tf (And.intro vin (gx_rightOf tf (And.intro vin (gx_rightOf tt ?_)))))))))) 
  refine gx_pushCast (by omega) (gd_TY_r tf) (gd_TY_r tt) ?_
  intro fc' fk f1 f2 f3 g1 g2 g3
  dsimp only
  rw [l3, gm_lb_neg]
  refine And.intro vin (nm_e (gx_castValue H hH1 (gm_PB_neg l2) ?_ ?_))
  · intro w s' cc cSh cLb c1 c2 c3 eo hH'
    subst eo
    obtain ⟨m1, m2, m3, m4⟩ := same
    refine HP (cc, x_scopeCount, nI fc', 2, x_atToken, x_scope, nI (gm_xv w), nI (gm_xv (gm_ca (gm_h s (g / 8)))), x_side, x_ending, x_faultLabel, x_stepsTaken, cSh, cLb, c1, c2, c3, x_scopeValue, x_scopeOuter, fk, f1, f2, f3) (Or.inl ⟨rfl, ⟨hH', ?_, ?_, ?_, ?_, ?_⟩, ?_, rfl, rfl, rfl, l2, fc', rfl, ?_, ?_⟩)
    · exact h4.trans (congrArg nI m1.symm)
    · show gm_m s' ≤ 64
      rw [show gm_m s' = gm_m s from m1]
      exact h5
    · exact h6.trans (congrArg nI m3.symm)
    · show gm_T s' ≤ 40
      rw [show gm_T s' = gm_T s from m3]
      exact h7
    · intro w' y1 y2
      rw [show gm_e s' = gm_e s from m2]
      exact h8 w' y1 (by rw [← show gm_m s' = gm_m s from m1]; exact y2)
    · intro j hj
      obtain ⟨q1, q2, q3, q4⟩ := g3 j hj
      show (fk j, f1 j, f2 j, f3 j) = (x_frameKind j, x_frameOne j, x_frameTwo j, x_frameThree j)
      rw [q1, q2, q3, q4]
    · rw [ef, et]; exact g1
    · rw [ef, et]
      intro z
      obtain ⟨q0, q1, q2, q3, q4⟩ := g2 z
      refine ⟨q0, ?_⟩
      show (fk fc, f1 fc, f2 fc, f3 fc) = _
      rw [q1, q2, q3, q4]
      rfl
  · intro eo
    subst eo
    exact HP (x_cellCount, x_scopeCount, nI fc', 4, x_atToken, x_scope, nI (gm_xv a), nI (gm_xv (gm_ca (gm_h s (g / 8)))), x_side, 4, gm_lb (- gm_cp (gm_h s (g / 8))), x_stepsTaken, x_cellShape, x_cellLabel, x_cellOne, x_cellTwo, x_cellThree, x_scopeValue, x_scopeOuter, fk, f1, f2, f3) (Or.inr ⟨show (4 : Nat) ≠ 0 by decide, rfl, rfl, h6, fun _ => rfl, hH1, h4, h5, h6, h7, h8⟩)
end
end
section
/-! ===== 15: tokens that begin, operands that are done ===== -/
section
variable {x_typeDraft x_typeCount x_count x_wrongAt x_keptPlace x_cellCount x_scopeCount x_frameCount x_mode x_atToken x_scope x_current x_callee x_side x_ending x_faultLabel x_stepsTaken x_runVerdict x_runBlame x_result : Int32} {x_named x_kinds x_values x_ends x_types x_operands x_targets x_cellShape x_cellLabel x_cellOne x_cellTwo x_cellThree x_scopeValue x_scopeOuter x_frameKind x_frameOne x_frameTwo x_frameThree : Nat → Int32}
variable {post : SX → Prop}
theorem gx_arity {post : Int32 → Prop} {k : Nat} (hk : k < 12) (P : post (nI (gs_ar k))) : wpX_arity post (nI k) :=
  br_f (nI_pos (by omega)) (br_f (nI_nlt (b := k) (a := 11) (by omega) (by decide)) (pk_eq k 0 (fun z => by subst z; exact P) (fun z0 => pk_eq k 1 (fun z => by subst z; exact P) (fun z1 => pk_eq k 2 (fun z => by subst z; exact P) (fun z2 => pk_eq k 3 (fun z => by subst z; exact P) (fun z3 => pk_eq k 4 (fun z => by subst z; exact P) (fun z4 => pk_eq k 5 (fun z => by subst z; exact P) (fun z5 => pk_eq k 6 (fun z => by subst z; exact P) (fun z6 => pk_eq k 7 (fun z => by subst z; exact P) (fun z7 => pk_eq k 8 (fun z => by subst z; exact P) (fun z8 => pk_eq k 9 (fun z => by subst z; exact P) (fun z9 => pk_eq k 10 (fun z => by subst z; exact P) (fun z10 => pk_eq k 11 (fun z => by subst z; exact P) (fun z11 => trivial))))))))))))))
def gx_setfc (D : gx_D) (x : Int32) : gx_D := match D with | (x_cellCount, x_scopeCount, x_frameCount, x_mode, x_atToken, x_scope, x_current, x_callee, x_side, x_ending, x_faultLabel, x_stepsTaken, x_cellShape, x_cellLabel, x_cellOne, x_cellTwo, x_cellThree, x_scopeValue, x_scopeOuter, x_frameKind, x_frameOne, x_frameTwo, x_frameThree) => (x_cellCount, x_scopeCount, x, x_mode, x_atToken, x_scope, x_current, x_callee, x_side, x_ending, x_faultLabel, x_stepsTaken, x_cellShape, x_cellLabel, x_cellOne, x_cellTwo, x_cellThree, x_scopeValue, x_scopeOuter, x_frameKind, x_frameOne, x_frameTwo, x_frameThree)
theorem gx_resumeOp {D : gx_D} {fc i k : Nat} {w hd : Int32} {C : gx_D → Prop} (hi : i < 36) (hk : k < 3) (hf : fc < 32767) (hF : gx_fc D = nI (fc + 1)) (f0 : (gx_fr D fc).1 = nI (3 * i + k)) (f1 : (gx_fr D fc).2.1 = w) (f2 : (gx_fr D fc).2.2.1 = hd) (hM : gx_M (fun P X => wpX_finishOperand P X (nI i) (nI k) w hd) x_typeDraft x_typeCount x_count x_wrongAt x_keptPlace x_runVerdict x_runBlame x_result x_named x_kinds x_values x_ends x_types x_operands x_targets (gx_setfc D (nI fc)) C) : gx_M wpX_resumeFrame x_typeDraft x_typeCount x_count x_wrongAt x_keptPlace x_runVerdict x_runBlame x_result x_named x_kinds x_values x_ends x_types x_operands x_targets D C := by
  intro P HP
  obtain ⟨x_cellCount, x_scopeCount, x_frameCount, x_mode, x_atToken, x_scope, x_current, x_callee, x_side, x_ending, x_faultLabel, x_stepsTaken, x_cellShape, x_cellLabel, x_cellOne, x_cellTwo, x_cellThree, x_scopeValue, x_scopeOuter, x_frameKind, x_frameOne, x_frameTwo, x_frameThree⟩ := D
  have hF' : x_frameCount = nI (fc + 1) := hF
  subst hF'
  have e0 : x_frameKind fc = nI (3 * i + k) := f0
  have e1 : x_frameOne fc = w := f1
  have e2 : x_frameTwo fc = hd := f2
  have vin : vp_in (nI fc) 32768 := vp_in_nI (by omega) (by decide)
  refine br_f (nI_ne0 (by omega) (by omega)) (nm_r (nI_pred fc) ?_)
  rw [nI_clamp (show fc < 2 ^ 31 by omega), e0, e1, e2]
  have nm1 : ¬ nI (3 * i + k) = -1 := by
    intro z
    have := congrArg Int32.toInt z
    rw [nI_toInt (by omega)] at this
    have m1 : (-1 : Int32).toInt = -1 := by decide
    omega
  have d3 : nI (3 * i + k) / 3 = nI i := by
    rw [show (3 : Int32) = nI 3 from rfl, pk_div (by omega) (by decide) (by decide)]
    exact congrArg nI (by omega)
  have r3 : nI (3 * i + k) - nI (3 * i + k) / 3 * 3 = nI k := by
    rw [show (3 : Int32) = nI 3 from rfl, pk_rem (by omega) (by decide) (by decide)]
    exact congrArg nI (by omega)
  refine And.intro vin (nm_e (And.intro vin (nm_e (And.intro vin (nm_e (br_f nm1 (And.intro (by decide) (And.intro (by decide) ?_))))))))
  rw [r3, d3]
  refine hM _ ?_
  intro D' c
  have := HP D' c
  obtain ⟨x_cellCount, x_scopeCount, x_frameCount, x_mode, x_atToken, x_scope, x_current, x_callee, x_side, x_ending, x_faultLabel, x_stepsTaken, x_cellShape, x_cellLabel, x_cellOne, x_cellTwo, x_cellThree, x_scopeValue, x_scopeOuter, x_frameKind, x_frameOne, x_frameTwo, x_frameThree⟩ := D'
  exact this
theorem gx_finTake {P : gm_P} {s : gm_S} {D : gx_D} {i : Nat} {w hd : Int32} (hP : gx_P P x_kinds x_values x_types x_operands x_targets) (hi : i < gm_cn P) (hk : gm_kd P i = 9 ∨ gm_kd P i = 10) (hH : gx_H s D) :
    gx_M (fun P X => wpX_finishOperand P X (nI i) (nI 0) w hd) x_typeDraft x_typeCount x_count x_wrongAt x_keptPlace x_runVerdict x_runBlame x_result x_named x_kinds x_values x_ends x_types x_operands x_targets D (fun D' => gx_H s D' ∧ gx_fc D' = gx_fc D ∧ (∀ j, gx_fr D' j = gx_fr D j) ∧ gx_mode D' = 3 ∧ gx_sid D' = nI (gm_kd P i - 9) ∧ gx_cur D' = gx_cur D) := by
  intro post HP
  obtain ⟨c36, hP⟩ := hP
  obtain ⟨p1, p2, p3, p4, p5, p6, p7⟩ := hP i hi
  obtain ⟨x_cellCount, x_scopeCount, x_frameCount, x_mode, x_atToken, x_scope, x_current, x_callee, x_side, x_ending, x_faultLabel, x_stepsTaken, x_cellShape, x_cellLabel, x_cellOne, x_cellTwo, x_cellThree, x_scopeValue, x_scopeOuter, x_frameKind, x_frameOne, x_frameTwo, x_frameThree⟩ := D
  obtain ⟨h1, h4, h5, h6, h7, h8⟩ := hH
  refine And.intro (vp_in_nI (by omega) (by decide)) ?_
  rw [nI_clamp (show i < 2 ^ 31 by omega), p1]
  refine nm_e ?_
  have fin : wX_finishOperand_22 post (nI (gm_kd P i)) x_typeDraft x_typeCount x_count x_wrongAt x_keptPlace x_cellCount x_scopeCount x_frameCount x_mode x_atToken x_scope x_current x_callee x_side x_ending x_faultLabel x_stepsTaken x_runVerdict x_runBlame x_result x_named x_kinds x_values x_ends x_types x_operands x_targets x_cellShape x_cellLabel x_cellOne x_cellTwo x_cellThree x_scopeValue x_scopeOuter x_frameKind x_frameOne x_frameTwo x_frameThree 32768 32768 32768 32768 := by
    refine nm_r (e' := nI (gm_kd P i - 9)) (pk_sub (b := 9) (by omega)) ?_
    exact HP (x_cellCount, x_scopeCount, x_frameCount, 3, x_atToken, x_scope, x_current, x_callee, nI (gm_kd P i - 9), x_ending, x_faultLabel, x_stepsTaken, x_cellShape, x_cellLabel, x_cellOne, x_cellTwo, x_cellThree, x_scopeValue, x_scopeOuter, x_frameKind, x_frameOne, x_frameTwo, x_frameThree) ⟨⟨h1, h4, h5, h6, h7, h8⟩, rfl, fun _ => rfl, rfl, rfl, rfl⟩
  refine pk_eq (gm_kd P i) 9 (fun _ => fin) (fun z => pk_eq (gm_kd P i) 10 (fun _ => fin) (fun z' => by omega))
theorem gx_finSame {P : gm_P} {s : gm_S} {D : gx_D} {i k : Nat} {w hd : Int32} (hP : gx_P P x_kinds x_values x_types x_operands x_targets) (hi : i < gm_cn P) (hk : gm_kd P i = 11 ∨ gm_kd P i = 5 ∧ 0 < k) (hk3 : k < 3) (hH : gx_H s D) :
    gx_M (fun P X => wpX_finishOperand P X (nI i) (nI k) w hd) x_typeDraft x_typeCount x_count x_wrongAt x_keptPlace x_runVerdict x_runBlame x_result x_named x_kinds x_values x_ends x_types x_operands x_targets D (fun D' => D' = D) := by
  intro post HP
  obtain ⟨c36, hP⟩ := hP
  obtain ⟨p1, p2, p3, p4, p5, p6, p7⟩ := hP i hi
  obtain ⟨x_cellCount, x_scopeCount, x_frameCount, x_mode, x_atToken, x_scope, x_current, x_callee, x_side, x_ending, x_faultLabel, x_stepsTaken, x_cellShape, x_cellLabel, x_cellOne, x_cellTwo, x_cellThree, x_scopeValue, x_scopeOuter, x_frameKind, x_frameOne, x_frameTwo, x_frameThree⟩ := D
  refine And.intro (vp_in_nI (by omega) (by decide)) ?_
  rw [nI_clamp (show i < 2 ^ 31 by omega), p1]
  refine nm_e ?_
  have ar : gs_ar (gm_kd P i) ≠ 2 := by
    rcases hk with c | c
    · rw [c]; decide
    · rw [c.1]; decide
  have al : gs_ar (gm_kd P i) < 4 := by
    rcases hk with c | c
    · rw [c]; decide
    · rw [c.1]; decide
  have fin : wX_finishOperand_82 post (nI i) (nI k) w hd (nI (gm_kd P i)) x_typeDraft x_typeCount x_count x_wrongAt x_keptPlace x_cellCount x_scopeCount x_frameCount x_mode x_atToken x_scope x_current x_callee x_side x_ending x_faultLabel x_stepsTaken x_runVerdict x_runBlame x_result x_named x_kinds x_values x_ends x_types x_operands x_targets x_cellShape x_cellLabel x_cellOne x_cellTwo x_cellThree x_scopeValue x_scopeOuter x_frameKind x_frameOne x_frameTwo x_frameThree 32768 32768 32768 32768 := by
    refine gx_arity p2 (pk_eq (gs_ar (gm_kd P i)) 2 (fun z => absurd z ar) (fun _ => ?_))
    refine pk_eq (gm_kd P i) 4 (fun z => by omega) (fun _ => ?_)
    refine gx_arity p2 (pk_eq (gs_ar (gm_kd P i)) 2 (fun z => absurd z ar) (fun _ => ?_))
    exact HP _ rfl
  refine pk_eq (gm_kd P i) 9 (fun z => by omega) (fun _ => pk_eq (gm_kd P i) 10 (fun z => by omega) (fun _ => pk_eq (gm_kd P i) 5 (fun z => pk_eq k 0 (fun z' => by omega) (fun _ => fin)) (fun _ => fin)))
/-- D' waits for operand k of i -/
def gx_W (P : gm_P) (s : gm_S) (D D' : gx_D) (fc i k w : Nat) (hd : Int32) : Prop :=
  gx_H s D' ∧ gx_A fc D D' ∧ gx_mode D' = 0 ∧ gx_att D' = nI (gm_op P i k) ∧ gx_scp D' = nI w ∧ ∃ fc', gx_fc D' = nI fc' ∧ gx_O fc fc' (3 * i + k) (nI w) hd (gm_ty P (gm_op P i k)) (gm_tg P i k) D'
theorem gx_startM {P : gm_P} {s : gm_S} {D : gx_D} {fc i k w : Nat} {hd : Int32} (hP : gx_P P x_kinds x_values x_types x_operands x_targets) (hi : i < gm_cn P) (hk : k < gs_ar (gm_kd P i)) (hk3 : k < 3) (hf : fc + 1 < 32768) (hF : gx_fc D = nI fc) (hH : gx_H s D) :
    gx_M (fun P X => wpX_startOperand P X (nI i) (nI k) (nI w) hd) x_typeDraft x_typeCount x_count x_wrongAt x_keptPlace x_runVerdict x_runBlame x_result x_named x_kinds x_values x_ends x_types x_operands x_targets D (fun D' => gx_W P s D D' fc i k w hd) := by
  intro post HP
  obtain ⟨c36, hP⟩ := hP
  obtain ⟨p1, p2, p3, p4, p5, p6, p7⟩ := hP i hi
  obtain ⟨o1, o2, o3, o4⟩ := p7 k hk
  obtain ⟨q1, q2, q3, q4, q5, q6, q7⟩ := hP _ o2
  obtain ⟨x_cellCount, x_scopeCount, x_frameCount, x_mode, x_atToken, x_scope, x_current, x_callee, x_side, x_ending, x_faultLabel, x_stepsTaken, x_cellShape, x_cellLabel, x_cellOne, x_cellTwo, x_cellThree, x_scopeValue, x_scopeOuter, x_frameKind, x_frameOne, x_frameTwo, x_frameThree⟩ := D
  have hF' : x_frameCount = nI fc := hF
  subst hF'
  obtain ⟨h1, h4, h5, h6, h7, h8⟩ := hH
  refine gx_startOperand hf (by omega) hk3 (by omega) o1 q4 o3 q5 o4 ?_
  intro fc' fk f1 f2 f3 g1 g2 g3 g4 g5 g6
  refine HP (x_cellCount, x_scopeCount, nI fc', 0, nI (gm_op P i k), nI w, x_current, x_callee, x_side, x_ending, x_faultLabel, x_stepsTaken, x_cellShape, x_cellLabel, x_cellOne, x_cellTwo, x_cellThree, x_scopeValue, x_scopeOuter, fk, f1, f2, f3) ⟨⟨h1, h4, h5, h6, h7, h8⟩, ?_, rfl, rfl, rfl, fc', rfl, g1, g2, g3, g4, ?_⟩
  · intro j hj
    obtain ⟨r1, r2, r3, r4⟩ := g6 j hj
    show (fk j, f1 j, f2 j, f3 j) = (x_frameKind j, x_frameOne j, x_frameTwo j, x_frameThree j)
    rw [r1, r2, r3, r4]
  · intro z
    obtain ⟨r0, r1, r2, r3, r4⟩ := g5 z
    refine ⟨r0, ?_⟩
    show (fk (fc + 1), f1 (fc + 1), f2 (fc + 1), f3 (fc + 1)) = _
    rw [r1, r2, r3, r4]
theorem gx_finIf {P : gm_P} {s : gm_S} {D : gx_D} {fc i v w : Nat} {hd : Int32} (hP : gx_P P x_kinds x_values x_types x_operands x_targets) (hi : i < gm_cn P) (hk : gm_kd P i = 5) (hf : fc + 1 < 32768) (hF : gx_fc D = nI fc) (hH : gx_H s D) (hc : gx_cur D = nI (gm_xv v)) (hv : v / 8 < gm_n s ∧ gm_ck (gm_h s (v / 8)) < 3) :
    gx_M (fun P X => wpX_finishOperand P X (nI i) (nI 0) (nI w) hd) x_typeDraft x_typeCount x_count x_wrongAt x_keptPlace x_runVerdict x_runBlame x_result x_named x_kinds x_values x_ends x_types x_operands x_targets D (fun D' => gx_W P s D D' fc i (if gm_ci (gm_h s (v / 8)) = 0 then 2 else 1) w 0) := by
  intro post HP
  have hP0 := hP
  have hH0 := hH
  obtain ⟨c36, hP⟩ := hP
  obtain ⟨p1, p2, p3, p4, p5, p6, p7⟩ := hP i hi
  have m2 : gx_M (fun P X => wpX_startOperand P X (nI i) (nI 2) (nI w) 0) x_typeDraft x_typeCount x_count x_wrongAt x_keptPlace x_runVerdict x_runBlame x_result x_named x_kinds x_values x_ends x_types x_operands x_targets D (fun D' => gx_W P s D D' fc i 2 w 0) := gx_startM hP0 hi (by rw [hk]; decide) (by decide) hf hF hH
  have m1 : gx_M (fun P X => wpX_startOperand P X (nI i) (nI 1) (nI w) 0) x_typeDraft x_typeCount x_count x_wrongAt x_keptPlace x_runVerdict x_runBlame x_result x_named x_kinds x_values x_ends x_types x_operands x_targets D (fun D' => gx_W P s D D' fc i 1 w 0) := gx_startM hP0 hi (by rw [hk]; decide) (by decide) hf hF hH
  obtain ⟨x_cellCount, x_scopeCount, x_frameCount, x_mode, x_atToken, x_scope, x_current, x_callee, x_side, x_ending, x_faultLabel, x_stepsTaken, x_cellShape, x_cellLabel, x_cellOne, x_cellTwo, x_cellThree, x_scopeValue, x_scopeOuter, x_frameKind, x_frameOne, x_frameTwo, x_frameThree⟩ := D
  have hc' : x_current = nI (gm_xv v) := hc
  subst hc'
  obtain ⟨⟨h1, h2, h3⟩, h4, h5, h6, h7, h8⟩ := hH
  have cv := (h3 _ hv.1).2.2.1 hv.2
  refine And.intro (vp_in_nI (by omega) (by decide)) ?_
  rw [nI_clamp (show i < 2 ^ 31 by omega), p1, hk]
  refine nm_e (br_f (show ¬ nI 5 = 9 by decide) (br_f (show ¬ nI 5 = 10 by decide) (br_t rfl (br_t rfl ?_))))
  rw [gx_shr (by omega), nI_clamp (show v / 8 < 2 ^ 31 by omega), cv]
  refine And.intro (vp_in_nI (by omega) (by decide)) (br_c (fun z => ?_) (fun z => ?_))
  · rw [if_pos z] at HP
    refine m2 _ ?_
    intro D' c
    have := HP D' c
    obtain ⟨x_cellCount, x_scopeCount, x_frameCount, x_mode, x_atToken, x_scope, x_current, x_callee, x_side, x_ending, x_faultLabel, x_stepsTaken, x_cellShape, x_cellLabel, x_cellOne, x_cellTwo, x_cellThree, x_scopeValue, x_scopeOuter, x_frameKind, x_frameOne, x_frameTwo, x_frameThree⟩ := D'
    exact this
  · rw [if_neg z] at HP
    refine m1 _ ?_
    intro D' c
    have := HP D' c
    obtain ⟨x_cellCount, x_scopeCount, x_frameCount, x_mode, x_atToken, x_scope, x_current, x_callee, x_side, x_ending, x_faultLabel, x_stepsTaken, x_cellShape, x_cellLabel, x_cellOne, x_cellTwo, x_cellThree, x_scopeValue, x_scopeOuter, x_frameKind, x_frameOne, x_frameTwo, x_frameThree⟩ := D'
    exact this
theorem gx_finTwo {P : gm_P} {s : gm_S} {D : gx_D} {fc i w : Nat} {hd : Int32} (hP : gx_P P x_kinds x_values x_types x_operands x_targets) (hi : i < gm_cn P) (hk : gm_kd P i = 4 ∨ gm_kd P i = 6 ∨ gm_kd P i = 7 ∨ gm_kd P i = 8) (hf : fc + 1 < 32768) (hF : gx_fc D = nI fc) (hH : gx_H s D) :
    gx_M (fun P X => wpX_finishOperand P X (nI i) (nI 0) (nI w) hd) x_typeDraft x_typeCount x_count x_wrongAt x_keptPlace x_runVerdict x_runBlame x_result x_named x_kinds x_values x_ends x_types x_operands x_targets D (fun D' => gx_W P s D D' fc i 1 w (gx_cur D)) := by
  intro post HP
  have hP0 := hP
  obtain ⟨c36, hP⟩ := hP
  obtain ⟨p1, p2, p3, p4, p5, p6, p7⟩ := hP i hi
  have ar : gs_ar (gm_kd P i) = 2 := by
    rcases hk with c | c | c | c <;> rw [c] <;> rfl
  have m1 : gx_M (fun P X => wpX_startOperand P X (nI i) (nI 1) (nI w) (gx_cur D)) x_typeDraft x_typeCount x_count x_wrongAt x_keptPlace x_runVerdict x_runBlame x_result x_named x_kinds x_values x_ends x_types x_operands x_targets D (fun D' => gx_W P s D D' fc i 1 w (gx_cur D)) := gx_startM hP0 hi (by rw [ar]; decide) (by decide) hf hF hH
  obtain ⟨x_cellCount, x_scopeCount, x_frameCount, x_mode, x_atToken, x_scope, x_current, x_callee, x_side, x_ending, x_faultLabel, x_stepsTaken, x_cellShape, x_cellLabel, x_cellOne, x_cellTwo, x_cellThree, x_scopeValue, x_scopeOuter, x_frameKind, x_frameOne, x_frameTwo, x_frameThree⟩ := D
  refine And.intro (vp_in_nI (by omega) (by decide)) ?_
  rw [nI_clamp (show i < 2 ^ 31 by omega), p1]
  refine nm_e (pk_eq (gm_kd P i) 9 (fun z => by omega) (fun _ => pk_eq (gm_kd P i) 10 (fun z => by omega) (fun _ => pk_eq (gm_kd P i) 5 (fun z => by omega) (fun _ => ?_))))
  refine gx_arity p2 ?_
  rw [ar]
  refine br_t rfl (br_t rfl (m1 _ ?_))
  intro D' c
  have := HP D' c
  obtain ⟨x_cellCount, x_scopeCount, x_frameCount, x_mode, x_atToken, x_scope, x_current, x_callee, x_side, x_ending, x_faultLabel, x_stepsTaken, x_cellShape, x_cellLabel, x_cellOne, x_cellTwo, x_cellThree, x_scopeValue, x_scopeOuter, x_frameKind, x_frameOne, x_frameTwo, x_frameThree⟩ := D'
  exact this
theorem gx_finApp {P : gm_P} {s : gm_S} {D : gx_D} {i : Nat} {w hd : Int32} (hP : gx_P P x_kinds x_values x_types x_operands x_targets) (hi : i < gm_cn P) (hk : gm_kd P i = 4) (hH : gx_H s D) :
    gx_M (fun P X => wpX_finishOperand P X (nI i) (nI 1) w hd) x_typeDraft x_typeCount x_count x_wrongAt x_keptPlace x_runVerdict x_runBlame x_result x_named x_kinds x_values x_ends x_types x_operands x_targets D (fun D' => gx_H s D' ∧ gx_fc D' = gx_fc D ∧ (∀ j, gx_fr D' j = gx_fr D j) ∧ gx_mode D' = 2 ∧ gx_cal D' = hd ∧ gx_cur D' = gx_cur D) := by
  intro post HP
  obtain ⟨c36, hP⟩ := hP
  obtain ⟨p1, p2, p3, p4, p5, p6, p7⟩ := hP i hi
  obtain ⟨x_cellCount, x_scopeCount, x_frameCount, x_mode, x_atToken, x_scope, x_current, x_callee, x_side, x_ending, x_faultLabel, x_stepsTaken, x_cellShape, x_cellLabel, x_cellOne, x_cellTwo, x_cellThree, x_scopeValue, x_scopeOuter, x_frameKind, x_frameOne, x_frameTwo, x_frameThree⟩ := D
  obtain ⟨h1, h4, h5, h6, h7, h8⟩ := hH
  refine And.intro (vp_in_nI (by omega) (by decide)) ?_
  rw [nI_clamp (show i < 2 ^ 31 by omega), p1, hk]
  refine nm_e (br_f (show ¬ nI 4 = 9 by decide) (br_f (show ¬ nI 4 = 10 by decide) (br_f (show ¬ nI 4 = 5 by decide) ?_)))
  refine gx_arity (by decide) (br_t rfl (br_f (show ¬ nI 1 = 0 by decide) (br_t rfl ?_)))
  exact HP (x_cellCount, x_scopeCount, x_frameCount, 2, x_atToken, x_scope, x_current, hd, x_side, x_ending, x_faultLabel, x_stepsTaken, x_cellShape, x_cellLabel, x_cellOne, x_cellTwo, x_cellThree, x_scopeValue, x_scopeOuter, x_frameKind, x_frameOne, x_frameTwo, x_frameThree) ⟨⟨h1, h4, h5, h6, h7, h8⟩, rfl, fun _ => rfl, rfl, rfl, rfl⟩
end
end
section
/-! ===== 16: new cells and variables of a turn ===== -/
section
variable {x_typeDraft x_typeCount x_count x_wrongAt x_keptPlace x_cellCount x_scopeCount x_frameCount x_mode x_atToken x_scope x_current x_callee x_side x_ending x_faultLabel x_stepsTaken x_runVerdict x_runBlame x_result : Int32} {x_named x_kinds x_values x_ends x_types x_operands x_targets x_cellShape x_cellLabel x_cellOne x_cellTwo x_cellThree x_scopeValue x_scopeOuter x_frameKind x_frameOne x_frameTwo x_frameThree : Nat → Int32}
variable {post : SX → Prop}
theorem gx_C_n {c : gm_Cell} {k : Nat} {sh o1 o2 o3 : Int32} (hk : gm_ck c = k) (k3 : k < 3) (hs : sh = nI (gm_sh k)) (h1 : o1 = gm_ci c) : gx_C c sh 0 o1 o2 o3 := by
  unfold gx_C
  rw [hk]
  exact ⟨hs, by omega, fun _ => h1, fun z => by omega, fun z => by omega, fun z => by omega⟩
theorem gx_C_3 {c : gm_Cell} {o1 o2 o3 : Int32} (hk : gm_ck c = 3) (h1 : o1 = nI (gm_ca c)) (h2 : o2 = nI (gm_cb c)) : gx_C c 3 0 o1 o2 o3 := by
  unfold gx_C
  rw [hk]
  exact ⟨rfl, by omega, fun z => by omega, fun _ => ⟨rfl, h1, h2⟩, fun z => by omega, fun z => by omega⟩
theorem gx_C_5 {c : gm_Cell} {o1 o2 o3 : Int32} (hk : gm_ck c = 5) (h1 : o1 = nI (gm_xv (gm_ca c))) (h2 : o2 = nI (gm_xv (gm_cb c))) : gx_C c 4 0 o1 o2 o3 := by
  unfold gx_C
  rw [hk]
  exact ⟨rfl, by omega, fun z => by omega, fun z => by omega, fun _ => ⟨rfl, h1, h2⟩, fun z => by omega⟩
/-- D' returns the value v -/
def gx_Rt (s : gm_S) (D D' : gx_D) (v : Nat) : Prop := gx_H s D' ∧ gx_fc D' = gx_fc D ∧ (∀ j, gx_fr D' j = gx_fr D j) ∧ gx_mode D' = 1 ∧ gx_cur D' = nI (gm_xv v)
theorem gx_combined {post : Int32 → SX → Prop} {s : gm_S} {k v v' r : Nat} {t : Lean.RArray Nat} {out : gm_O} (hH : gx_H0 s x_cellCount x_cellShape x_cellLabel x_cellOne x_cellTwo x_cellThree)
    (H : (if k = 6 then gm_num s v (fun x => gm_num s v' (fun y => gm_new s (1, x + y, 0, 0, .leaf 0, .leaf 0, 0, 0, 0, 0, 0) 0))
    else if k = 7 then gm_num s v (fun x => gm_num s v' (fun y => gm_new s (2, if x < y then 1 else 0, 0, 0, .leaf 1, .leaf 1, 0, 0, 0, 0, 0) 0))
    else if k = 8 then (if v / 8 < gm_n s ∧ v' / 8 < gm_n s then gm_new s (5, 0, v, v', t, t, 0, 0, 0, 0, r) 0 else none) else none) = some out)
    (K : ∀ w s' cc cSh cLb c1 c2, out = (0, w, 0, s') → gm_m s' = gm_m s ∧ gm_e s' = gm_e s ∧ gm_T s' = gm_T s → gx_H0 s' cc cSh cLb c1 c2 x_cellThree → post (nI (gm_xv w)) (x_typeDraft, x_typeCount, x_count, x_wrongAt, x_keptPlace, cc, x_scopeCount, x_frameCount, x_mode, x_atToken, x_scope, x_current, x_callee, x_side, x_ending, x_faultLabel, x_stepsTaken, x_runVerdict, x_runBlame, x_result, x_named, x_kinds, x_values, x_ends, x_types, x_operands, x_targets, cSh, cLb, c1, c2, x_cellThree, x_scopeValue, x_scopeOuter, x_frameKind, x_frameOne, x_frameTwo, x_frameThree, 32768, 32768, 32768, 32768)) :
    wpX_combined post (x_typeDraft, x_typeCount, x_count, x_wrongAt, x_keptPlace, x_cellCount, x_scopeCount, x_frameCount, x_mode, x_atToken, x_scope, x_current, x_callee, x_side, x_ending, x_faultLabel, x_stepsTaken, x_runVerdict, x_runBlame, x_result, x_named, x_kinds, x_values, x_ends, x_types, x_operands, x_targets, x_cellShape, x_cellLabel, x_cellOne, x_cellTwo, x_cellThree, x_scopeValue, x_scopeOuter, x_frameKind, x_frameOne, x_frameTwo, x_frameThree, 32768, 32768, 32768, 32768) (nI k) (nI (gm_xv v)) (nI (gm_xv v')) := by
  have hH1 := hH
  obtain ⟨h1, h2, h3⟩ := hH
  subst h1
  have fin : ∀ (c : gm_Cell) (p0 p1 p2 : Int32) (q : Int32), (∀ o3, gx_C c p0 0 p1 p2 o3) → gm_new s c 0 = some out → wpX_newCell post (x_typeDraft, x_typeCount, x_count, x_wrongAt, x_keptPlace, nI (gm_n s), x_scopeCount, x_frameCount, x_mode, x_atToken, x_scope, x_current, x_callee, x_side, x_ending, x_faultLabel, x_stepsTaken, x_runVerdict, x_runBlame, x_result, x_named, x_kinds, x_values, x_ends, x_types, x_operands, x_targets, x_cellShape, x_cellLabel, x_cellOne, x_cellTwo, x_cellThree, x_scopeValue, x_scopeOuter, x_frameKind, x_frameOne, x_frameTwo, x_frameThree, 32768, 32768, 32768, 32768) p0 p1 p2 := by
    intro c p0 p1 p2 q hc hn
    obtain ⟨n5, e⟩ := gm_new_e hn
    refine gx_newCell (by omega) ?_
    have := K (8 * gm_n s) (gm_push s c) (nI (gm_n s + 1)) (upd x_cellShape (gm_n s) p0) (upd x_cellLabel (gm_n s) 0) (upd x_cellOne (gm_n s) p1) (upd x_cellTwo (gm_n s) p2) e ⟨rfl, rfl, rfl⟩ (gx_H0_push hH1 n5 (by rw [pk_us, pk_us, pk_us, pk_us]; exact hc _) (fun j hj => by rw [pk_un hj, pk_un hj, pk_un hj, pk_un hj]; exact ⟨rfl, rfl, rfl, rfl, rfl⟩))
    rw [gm_xv_8] at this
    exact this
  have num : ∀ {u : Nat} {g : Int32 → Option gm_O}, gm_num s u g = some out → u / 8 < gm_n s ∧ x_cellOne (u / 8) = gm_ci (gm_h s (u / 8)) ∧ g (gm_ci (gm_h s (u / 8))) = some out := by
    intro u g hu
    obtain ⟨⟨a, b⟩, c⟩ := gm_num_e hu
    exact ⟨a, (h3 _ a).2.2.1 b, c⟩
  by_cases k6 : k = 6
  · subst k6
    rw [if_pos rfl] at H
    obtain ⟨a1, a2, H⟩ := num H
    obtain ⟨b1, b2, H⟩ := num H
    refine br_f (show ¬ nI 6 = 8 by decide) ?_
    rw [gx_shr (v := v) (by omega), gx_shr (v := v') (by omega), nI_clamp (show v / 8 < 2 ^ 31 by omega), nI_clamp (show v' / 8 < 2 ^ 31 by omega), a2, b2]
    refine And.intro (vp_in_nI (by omega) (by decide)) (nm_e (And.intro (vp_in_nI (by omega) (by decide)) (nm_e (br_t rfl ?_))))
    exact fin _ _ _ _ 0 (fun o3 => gx_C_n (k := 1) rfl (by decide) rfl rfl) H
  rw [if_neg k6] at H
  by_cases k7 : k = 7
  · subst k7
    rw [if_pos rfl] at H
    obtain ⟨a1, a2, H⟩ := num H
    obtain ⟨b1, b2, H⟩ := num H
    refine br_f (show ¬ nI 7 = 8 by decide) ?_
    rw [gx_shr (v := v) (by omega), gx_shr (v := v') (by omega), nI_clamp (show v / 8 < 2 ^ 31 by omega), nI_clamp (show v' / 8 < 2 ^ 31 by omega), a2, b2]
    refine And.intro (vp_in_nI (by omega) (by decide)) (nm_e (And.intro (vp_in_nI (by omega) (by decide)) (nm_e (br_f (show ¬ nI 7 = 6 by decide) (br_c (fun z => ?_) (fun z => ?_))))))
    · rw [if_neg (Int32.not_lt.mpr z)] at H
      exact fin _ _ _ _ 0 (fun o3 => gx_C_n (k := 2) rfl (by decide) rfl rfl) H
    · rw [if_pos (Int32.not_le.mp z)] at H
      exact fin _ _ _ _ 0 (fun o3 => gx_C_n (k := 2) rfl (by decide) rfl rfl) H
  rw [if_neg k7] at H
  obtain ⟨k8, H8⟩ := gm_if_e H
  obtain ⟨_, H9⟩ := gm_if_e H8
  subst k8
  refine br_t rfl ?_
  exact fin _ _ _ _ 0 (fun o3 => gx_C_5 rfl rfl rfl) H9
theorem gx_finComb {P : gm_P} {s : gm_S} {D : gx_D} {i v v' : Nat} {w : Int32} {out : gm_O} {t : Lean.RArray Nat} {r : Nat} (hP : gx_P P x_kinds x_values x_types x_operands x_targets) (hi : i < gm_cn P) (hk : gm_kd P i = 6 ∨ gm_kd P i = 7 ∨ gm_kd P i = 8) (hH : gx_H s D) (hm : gx_mode D = 1) (hc : gx_cur D = nI (gm_xv v'))
    (H : (if gm_kd P i = 6 then gm_num s v (fun x => gm_num s v' (fun y => gm_new s (1, x + y, 0, 0, .leaf 0, .leaf 0, 0, 0, 0, 0, 0) 0))
    else if gm_kd P i = 7 then gm_num s v (fun x => gm_num s v' (fun y => gm_new s (2, if x < y then 1 else 0, 0, 0, .leaf 1, .leaf 1, 0, 0, 0, 0, 0) 0))
    else if gm_kd P i = 8 then (if v / 8 < gm_n s ∧ v' / 8 < gm_n s then gm_new s (5, 0, v, v', t, t, 0, 0, 0, 0, r) 0 else none) else none) = some out) :
    gx_M (fun P X => wpX_finishOperand P X (nI i) (nI 1) w (nI (gm_xv v))) x_typeDraft x_typeCount x_count x_wrongAt x_keptPlace x_runVerdict x_runBlame x_result x_named x_kinds x_values x_ends x_types x_operands x_targets D (fun D' => out.1 = 0 ∧ gx_Rt out.2.2.2 D D' out.2.1) := by
  intro post HP
  obtain ⟨c36, hP⟩ := hP
  obtain ⟨p1, p2, p3, p4, p5, p6, p7⟩ := hP i hi
  have ar : gs_ar (gm_kd P i) = 2 := by
    rcases hk with c | c | c <;> rw [c] <;> rfl
  obtain ⟨x_cellCount, x_scopeCount, x_frameCount, x_mode, x_atToken, x_scope, x_current, x_callee, x_side, x_ending, x_faultLabel, x_stepsTaken, x_cellShape, x_cellLabel, x_cellOne, x_cellTwo, x_cellThree, x_scopeValue, x_scopeOuter, x_frameKind, x_frameOne, x_frameTwo, x_frameThree⟩ := D
  have hc' : x_current = nI (gm_xv v') := hc
  have hm' : x_mode = 1 := hm
  subst hc' hm'
  obtain ⟨h1, h4, h5, h6, h7, h8⟩ := hH
  refine And.intro (vp_in_nI (by omega) (by decide)) ?_
  rw [nI_clamp (show i < 2 ^ 31 by omega), p1]
  refine nm_e (pk_eq (gm_kd P i) 9 (fun z => by omega) (fun _ => pk_eq (gm_kd P i) 10 (fun z => by omega) (fun _ => pk_eq (gm_kd P i) 5 (fun z => by omega) (fun _ => ?_))))
  refine gx_arity p2 ?_
  rw [ar]
  refine br_t rfl (br_f (show ¬ nI 1 = 0 by decide) (pk_eq (gm_kd P i) 4 (fun z => by omega) (fun _ => gx_arity p2 ?_)))
  rw [ar]
  refine br_t rfl (gx_combined h1 H ?_)
  intro u s' cc cSh cLb c1 c2 eo m hH'
  subst eo
  refine HP (cc, x_scopeCount, x_frameCount, 1, x_atToken, x_scope, nI (gm_xv u), x_callee, x_side, x_ending, x_faultLabel, x_stepsTaken, cSh, cLb, c1, c2, x_cellThree, x_scopeValue, x_scopeOuter, x_frameKind, x_frameOne, x_frameTwo, x_frameThree) ⟨rfl, ⟨hH', ?_, ?_, ?_, ?_, ?_⟩, rfl, fun _ => rfl, rfl, rfl⟩
  · exact h4.trans (congrArg nI m.1.symm)
  · show gm_m s' ≤ 64
    rw [m.1]; exact h5
  · exact h6.trans (congrArg nI m.2.2.symm)
  · show gm_T s' ≤ 40
    rw [m.2.2]; exact h7
  · intro w' y1 y2
    show x_scopeValue w' = nI (gm_xv (gm_e s' w').1) ∧ x_scopeOuter w' = nI (gm_e s' w').2
    rw [m.2.1]
    exact h8 w' y1 (by rw [← m.1]; exact y2)
theorem gx_variable_l {post : Int32 → Prop} {s : gm_S} {v : Nat} (h64 : gm_m s ≤ 64) (hsc : ∀ w, 0 < w → w < gm_m s → x_scopeValue w = nI (gm_xv (gm_e s w).1) ∧ x_scopeOuter w = nI (gm_e s w).2) {K : Nat} (hK : K < 100) (P : post (nI (gm_xv v))) : ∀ k w j : Nat, j + k = K → gm_var s k w = some v → wX_variable_7 post (nI K) x_typeDraft x_typeCount x_count x_wrongAt x_keptPlace x_cellCount x_scopeCount x_frameCount x_mode x_atToken x_scope x_current x_callee x_side x_ending x_faultLabel x_stepsTaken x_runVerdict x_runBlame x_result x_named x_kinds x_values x_ends x_types x_operands x_targets x_cellShape x_cellLabel x_cellOne x_cellTwo x_cellThree x_scopeValue x_scopeOuter x_frameKind x_frameOne x_frameTwo x_frameThree 32768 32768 32768 32768 (k + 1) (nI w) (nI j) := by
  intro k
  induction k with
  | zero =>
    intro w j hj H
    simp only [gm_var] at H
    by_cases c : 0 < w ∧ w < gm_m s
    · rw [if_pos c] at H
      injection H with H
      refine br_t (nI_le (by omega) (by omega)) ?_
      rw [nI_clamp (show w < 2 ^ 31 by omega), (hsc w c.1 c.2).1, H]
      exact And.intro (vp_in_nI (by omega) (by decide)) P
    · rw [if_neg c] at H
      exact absurd H (by simp)
  | succ k ih =>
    intro w j hj H
    simp only [gm_var] at H
    by_cases c : 0 < w ∧ w < gm_m s
    · rw [if_pos c] at H
      refine br_f (nI_ge (by omega) (by omega)) ?_
      rw [nI_clamp (show w < 2 ^ 31 by omega), (hsc w c.1 c.2).2]
      exact And.intro (vp_in_nI (by omega) (by decide)) (nm_e (nm_r (nI_1 j) (ih (gm_e s w).2 (j + 1) (by omega) H)))
    · rw [if_neg c] at H
      exact absurd H (by simp)
theorem gx_bLong {s : gm_S} {D : gx_D} (hH : gx_H s D) (hT : 40 ≤ gm_T s) : gx_M wpX_beginToken x_typeDraft x_typeCount x_count x_wrongAt x_keptPlace x_runVerdict x_runBlame x_result x_named x_kinds x_values x_ends x_types x_operands x_targets D (fun D' => gx_E (5, 0, 0, s) D') := by
  intro post HP
  obtain ⟨x_cellCount, x_scopeCount, x_frameCount, x_mode, x_atToken, x_scope, x_current, x_callee, x_side, x_ending, x_faultLabel, x_stepsTaken, x_cellShape, x_cellLabel, x_cellOne, x_cellTwo, x_cellThree, x_scopeValue, x_scopeOuter, x_frameKind, x_frameOne, x_frameTwo, x_frameThree⟩ := D
  obtain ⟨h1, h4, h5, h6, h7, h8⟩ := hH
  subst h6
  refine br_f (nI_nlt (b := 40) hT (by omega)) ?_
  exact HP (x_cellCount, x_scopeCount, x_frameCount, 4, x_atToken, x_scope, x_current, x_callee, x_side, 5, x_faultLabel, nI (gm_T s), x_cellShape, x_cellLabel, x_cellOne, x_cellTwo, x_cellThree, x_scopeValue, x_scopeOuter, x_frameKind, x_frameOne, x_frameTwo, x_frameThree) ⟨rfl, rfl, rfl, fun z => absurd (show (5 : Nat) = 4 from z) (by decide), h1, h4, h5, rfl, h7, h8⟩
theorem gx_bOp {P : gm_P} {s : gm_S} {D : gx_D} {fc i w : Nat} (hP : gx_P P x_kinds x_values x_types x_operands x_targets) (hi : i < gm_cn P) (hk : 4 ≤ gm_kd P i) (hf : fc + 1 < 32768) (hF : gx_fc D = nI fc) (hH : gx_H s D) (hT : gm_T s < 40) (ht : gx_att D = nI i) (hw : gx_scp D = nI w) :
    gx_M wpX_beginToken x_typeDraft x_typeCount x_count x_wrongAt x_keptPlace x_runVerdict x_runBlame x_result x_named x_kinds x_values x_ends x_types x_operands x_targets D (fun D' => gx_W P (gm_st s) D D' fc i 0 w 0) := by
  intro post HP
  have hP0 := hP
  obtain ⟨c36, hP⟩ := hP
  obtain ⟨p1, p2, p3, p4, p5, p6, p7⟩ := hP i hi
  obtain ⟨x_cellCount, x_scopeCount, x_frameCount, x_mode, x_atToken, x_scope, x_current, x_callee, x_side, x_ending, x_faultLabel, x_stepsTaken, x_cellShape, x_cellLabel, x_cellOne, x_cellTwo, x_cellThree, x_scopeValue, x_scopeOuter, x_frameKind, x_frameOne, x_frameTwo, x_frameThree⟩ := D
  have hF' : x_frameCount = nI fc := hF
  have ht' : x_atToken = nI i := ht
  have hw' : x_scope = nI w := hw
  subst hF' ht' hw'
  obtain ⟨h1, h4, h5, h6, h7, h8⟩ := hH
  subst h6
  have m0 : gx_M (fun P X => wpX_startOperand P X (nI i) (nI 0) (nI w) 0) x_typeDraft x_typeCount x_count x_wrongAt x_keptPlace x_runVerdict x_runBlame x_result x_named x_kinds x_values x_ends x_types x_operands x_targets (x_cellCount, x_scopeCount, nI fc, 1, nI i, nI w, x_current, x_callee, x_side, x_ending, x_faultLabel, nI (gm_T s + 1), x_cellShape, x_cellLabel, x_cellOne, x_cellTwo, x_cellThree, x_scopeValue, x_scopeOuter, x_frameKind, x_frameOne, x_frameTwo, x_frameThree) (fun D' => gx_W P (gm_st s) (x_cellCount, x_scopeCount, nI fc, 1, nI i, nI w, x_current, x_callee, x_side, x_ending, x_faultLabel, nI (gm_T s + 1), x_cellShape, x_cellLabel, x_cellOne, x_cellTwo, x_cellThree, x_scopeValue, x_scopeOuter, x_frameKind, x_frameOne, x_frameTwo, x_frameThree) D' fc i 0 w 0) := gx_startM hP0 hi (gs_ar_k hk (Or.inl rfl)) (by decide) hf rfl ⟨h1, h4, h5, rfl, hT, h8⟩
  refine br_t (nI_lt (b := 40) hT (by decide)) (nm_r (nI_1 _) ?_)
  rw [nI_clamp (show i < 2 ^ 31 by omega), p1]
  refine And.intro (vp_in_nI (by omega) (by decide)) (nm_e (br_f (nI_pos (by omega)) (br_t (nI_lt (a := 3) (by omega) (by omega)) (m0 _ ?_))))
  intro D' c
  have := HP D' c
  obtain ⟨x_cellCount, x_scopeCount, x_frameCount, x_mode, x_atToken, x_scope, x_current, x_callee, x_side, x_ending, x_faultLabel, x_stepsTaken, x_cellShape, x_cellLabel, x_cellOne, x_cellTwo, x_cellThree, x_scopeValue, x_scopeOuter, x_frameKind, x_frameOne, x_frameTwo, x_frameThree⟩ := D'
  exact this
theorem gx_bNew {P : gm_P} {s : gm_S} {D : gx_D} {i w : Nat} {out : gm_O} {t : Lean.RArray Nat} (hP : gx_P P x_kinds x_values x_types x_operands x_targets) (hi : i < gm_cn P) (hH : gx_H s D) (hT : gm_T s < 40) (ht : gx_att D = nI i) (hw : gx_scp D = nI w)
    (H : (if gm_kd P i = 0 then gm_new (gm_st s) (1, gm_vl P i, 0, 0, .leaf 0, .leaf 0, 0, 0, 0, 0, 0) 0
          else if gm_kd P i = 1 then gm_new (gm_st s) (2, gm_vl P i, 0, 0, .leaf 1, .leaf 1, 0, 0, 0, 0, 0) 0
          else if gm_kd P i = 2 then (match gm_var (gm_st s) (gm_vl P i).toNatClampNeg w with | none => none | some v => some (0, v, 0, gm_st s))
          else if gm_kd P i = 3 then gm_new (gm_st s) (3, 0, i, w, t, t, 0, 0, 0, 0, 0) 0 else none) = some out) :
    gx_M wpX_beginToken x_typeDraft x_typeCount x_count x_wrongAt x_keptPlace x_runVerdict x_runBlame x_result x_named x_kinds x_values x_ends x_types x_operands x_targets D (fun D' => out.1 = 0 ∧ gx_Rt out.2.2.2 D D' out.2.1) := by
  intro post HP
  obtain ⟨c36, hP⟩ := hP
  obtain ⟨p1, p2, p3, p4, p5, p6, p7⟩ := hP i hi
  obtain ⟨x_cellCount, x_scopeCount, x_frameCount, x_mode, x_atToken, x_scope, x_current, x_callee, x_side, x_ending, x_faultLabel, x_stepsTaken, x_cellShape, x_cellLabel, x_cellOne, x_cellTwo, x_cellThree, x_scopeValue, x_scopeOuter, x_frameKind, x_frameOne, x_frameTwo, x_frameThree⟩ := D
  have ht' : x_atToken = nI i := ht
  have hw' : x_scope = nI w := hw
  subst ht' hw'
  obtain ⟨h1, h4, h5, h6, h7, h8⟩ := hH
  subst h6
  have hH1 : gx_H0 (gm_st s) x_cellCount x_cellShape x_cellLabel x_cellOne x_cellTwo x_cellThree := h1
  obtain ⟨hc, hn, h3⟩ := h1
  subst hc
  have vin : vp_in (nI i) 36 := vp_in_nI (by omega) (by decide)
  refine br_t (nI_lt (b := 40) hT (by decide)) (nm_r (nI_1 _) ?_)
  rw [nI_clamp (show i < 2 ^ 31 by omega), p1]
  have fin : ∀ (c : gm_Cell) (p0 p1 p2 : Int32) (R : Int32 → SX → Prop), (∀ o3, gx_C c p0 0 p1 p2 o3) → gm_new (gm_st s) c 0 = some out → (post (gx_X x_typeDraft x_typeCount x_count x_wrongAt x_keptPlace x_runVerdict x_runBlame x_result x_named x_kinds x_values x_ends x_types x_operands x_targets (nI (gm_n s + 1), x_scopeCount, x_frameCount, 1, nI i, nI w, nI (2 * gm_n s), x_callee, x_side, x_ending, x_faultLabel, nI (gm_T s + 1), upd x_cellShape (gm_n s) p0, upd x_cellLabel (gm_n s) 0, upd x_cellOne (gm_n s) p1, upd x_cellTwo (gm_n s) p2, x_cellThree, x_scopeValue, x_scopeOuter, x_frameKind, x_frameOne, x_frameTwo, x_frameThree)) → R (nI (2 * gm_n s)) (x_typeDraft, x_typeCount, x_count, x_wrongAt, x_keptPlace, nI (gm_n s + 1), x_scopeCount, x_frameCount, 1, nI i, nI w, x_current, x_callee, x_side, x_ending, x_faultLabel, nI (gm_T s + 1), x_runVerdict, x_runBlame, x_result, x_named, x_kinds, x_values, x_ends, x_types, x_operands, x_targets, upd x_cellShape (gm_n s) p0, upd x_cellLabel (gm_n s) 0, upd x_cellOne (gm_n s) p1, upd x_cellTwo (gm_n s) p2, x_cellThree, x_scopeValue, x_scopeOuter, x_frameKind, x_frameOne, x_frameTwo, x_frameThree, 32768, 32768, 32768, 32768)) → wpX_newCell R (x_typeDraft, x_typeCount, x_count, x_wrongAt, x_keptPlace, nI (gm_n s), x_scopeCount, x_frameCount, 1, nI i, nI w, x_current, x_callee, x_side, x_ending, x_faultLabel, nI (gm_T s + 1), x_runVerdict, x_runBlame, x_result, x_named, x_kinds, x_values, x_ends, x_types, x_operands, x_targets, x_cellShape, x_cellLabel, x_cellOne, x_cellTwo, x_cellThree, x_scopeValue, x_scopeOuter, x_frameKind, x_frameOne, x_frameTwo, x_frameThree, 32768, 32768, 32768, 32768) p0 p1 p2 := by
    intro c p0 p1 p2 R hc hnew hR
    obtain ⟨n5, e⟩ := gm_new_e hnew
    have n5' : gm_n s < 5000 := n5
    refine gx_newCell (by omega) (hR (HP _ ?_))
    subst e
    have ex : gm_xv (8 * gm_n s) = 2 * gm_n s := gm_xv_8 _
    have hnew' : gx_H0 (gm_push (gm_st s) c) (nI (gm_n s + 1)) (upd x_cellShape (gm_n s) p0) (upd x_cellLabel (gm_n s) 0) (upd x_cellOne (gm_n s) p1) (upd x_cellTwo (gm_n s) p2) x_cellThree := by
      refine gx_H0_push hH1 n5 ?_ ?_
      · show gx_C c (upd x_cellShape (gm_n s) p0 (gm_n s)) (upd x_cellLabel (gm_n s) 0 (gm_n s)) (upd x_cellOne (gm_n s) p1 (gm_n s)) (upd x_cellTwo (gm_n s) p2 (gm_n s)) (x_cellThree (gm_n s))
        rw [pk_us, pk_us, pk_us, pk_us]
        exact hc _
      · intro j hj
        have hj' : j ≠ gm_n s := hj
        rw [pk_un hj', pk_un hj', pk_un hj', pk_un hj']
        exact ⟨rfl, rfl, rfl, rfl, rfl⟩
    exact ⟨rfl, ⟨hnew', h4, h5, rfl, hT, h8⟩, rfl, fun _ => rfl, rfl, congrArg nI ex.symm⟩
  by_cases k0 : gm_kd P i = 0
  · rw [if_pos k0] at H
    rw [k0, p3]
    refine And.intro vin (nm_e (br_f (by decide) (br_f (by decide) (br_t rfl (And.intro vin ?_)))))
    exact fin _ _ _ _ _ (fun o3 => gx_C_n (k := 1) rfl (by decide) rfl rfl) H (fun z => z)
  rw [if_neg k0] at H
  by_cases k1 : gm_kd P i = 1
  · rw [if_pos k1] at H
    rw [k1, p3]
    refine And.intro vin (nm_e (br_f (by decide) (br_f (by decide) (br_f (by decide) (br_t rfl (And.intro vin ?_))))))
    exact fin _ _ _ _ _ (fun o3 => gx_C_n (k := 2) rfl (by decide) rfl rfl) H (fun z => z)
  rw [if_neg k1] at H
  by_cases k2 : gm_kd P i = 2
  · rw [if_pos k2] at H
    obtain ⟨n, n10, en⟩ := p6 k2
    rw [k2, p3]
    refine And.intro vin (nm_e (br_f (by decide) (br_f (by decide) (br_f (by decide) (br_f (by decide) (br_t rfl (And.intro vin ?_)))))))
    rw [en] at H ⊢
    rw [nI_clamp (by omega)] at H
    cases hv : gm_var (gm_st s) n w with
    | none => rw [hv] at H; exact absurd H (by simp)
    | some v =>
      rw [hv] at H
      injection H with H
      subst H
      refine Exists.intro (n + 1) (gx_variable_l (s := gm_st s) (v := v) h5 h8 (by omega) ?_ n w 0 (Nat.zero_add n) hv)
      exact HP (nI (gm_n s), x_scopeCount, x_frameCount, 1, nI i, nI w, nI (gm_xv v), x_callee, x_side, x_ending, x_faultLabel, nI (gm_T s + 1), x_cellShape, x_cellLabel, x_cellOne, x_cellTwo, x_cellThree, x_scopeValue, x_scopeOuter, x_frameKind, x_frameOne, x_frameTwo, x_frameThree) ⟨rfl, ⟨hH1, h4, h5, rfl, hT, h8⟩, rfl, fun _ => rfl, rfl, rfl⟩
  rw [if_neg k2] at H
  obtain ⟨k3, H⟩ := gm_if_e H
  rw [k3]
  refine And.intro vin (nm_e (br_f (by decide) (br_f (by decide) (br_f (by decide) (br_f (by decide) (br_f (by decide) (br_t rfl ?_)))))))
  exact fin _ _ _ _ _ (fun o3 => gx_C_3 rfl rfl rfl) H (fun z => z)
end
end
section
/-! ===== 17: X's run follows the evaluator ===== -/
section
variable {x_typeDraft x_typeCount x_count x_wrongAt x_keptPlace x_cellCount x_scopeCount x_frameCount x_mode x_atToken x_scope x_current x_callee x_side x_ending x_faultLabel x_stepsTaken x_runVerdict x_runBlame x_result : Int32} {x_named x_kinds x_values x_ends x_types x_operands x_targets x_cellShape x_cellLabel x_cellOne x_cellTwo x_cellThree x_scopeValue x_scopeOuter x_frameKind x_frameOne x_frameTwo x_frameThree : Nat → Int32}
variable {post : SX → Prop}
theorem gx_fr_A {fc : Nat} {D D' : gx_D} (h : ∀ j, gx_fr D' j = gx_fr D j) : gx_A fc D D' := fun j _ => h j
theorem gx_take_sim {side : Nat} (h2 : side < 2) : ∀ (n h v : Nat) (s : gm_S) (out : gm_O) (D : gx_D) (fc : Nat), gm_take side n h v s = some out → fc ≤ h → gx_H s D → gx_fc D = nI fc → gx_mode D = 3 → gx_sid D = nI side → gx_cur D = nI (gm_xv v) → gx_K0 post x_typeDraft x_typeCount x_count x_wrongAt x_keptPlace x_runVerdict x_runBlame x_result x_named x_kinds x_values x_ends x_types x_operands x_targets fc D out → gx_KB post x_typeDraft x_typeCount x_count x_wrongAt x_keptPlace x_runVerdict x_runBlame x_result x_named x_kinds x_values x_ends x_types x_operands x_targets out → gx_go post x_typeDraft x_typeCount x_count x_wrongAt x_keptPlace x_runVerdict x_runBlame x_result x_named x_kinds x_values x_ends x_types x_operands x_targets s D := by
  intro n
  induction n with
  | zero =>
    intro h v s out D fc H hh hH hF hm hs hc K0 KB
    simp only [gm_take] at H
    obtain ⟨⟨r1, r2, r3, r4⟩, H⟩ := gm_tick_e H
    obtain ⟨⟨hv, hk⟩, H⟩ := gm_if_e H
    injection H with H
    subst H
    refine gx_t3 r1 r3 (by omega) hH hF hm (gx_takeBase hH hm hs h2 hc hv hk) ?_
    rintro D' ⟨a1, a2, a3, a4, a5⟩
    exact K0 D' rfl a1 (a2.trans hF) (gx_fr_A a3) a4 a5
  | succ n ih =>
    intro h v s out D fc H hh hH hF hm hs hc K0 KB
    simp only [gm_take] at H
    obtain ⟨⟨r1, r2, r3, r4⟩, H⟩ := gm_tick_e H
    obtain ⟨⟨hv, hk⟩, H⟩ := gm_if_e H
    refine gx_t3 r1 r3 (by omega) hH hF hm (gx_takeStep (by omega) hH hF hm hs h2 hc hv hk) ?_
    rintro D' ⟨a1, a2, a3, a4, a5, a6, fc', a7, a8, a9⟩
    have fcl : fc ≤ fc' ∧ fc' ≤ fc + 1 := by
      by_cases e : gd_en (if side = 0 then gd_lf (gm_cf (gm_h s (v / 8))) else gd_rt (gm_cf (gm_h s (v / 8)))) = gd_en (if side = 0 then gd_lf (gm_ct (gm_h s (v / 8))) else gd_rt (gm_ct (gm_h s (v / 8))))
      · have := a8 e; omega
      · have := (a9 e).1; omega
    refine gm_bd_e H ?_ ?_
    · intro u p s1 e1 H2
      refine ih (h + 1) _ (gm_tk s) (0, u, p, s1) D' fc' e1 (by omega) a1 a7 a3 a4 a5 ?_ (fun z => absurd rfl z)
      intro D2 _ b1 b2 b3 b4 b5
      refine gx_fcast (fc := fc) (fc' := fc') H2 (by omega) a6 b1 b2 a8 (fun z => ?_) b4 b5 ?_ KB
      · obtain ⟨c1, c2⟩ := a9 z
        refine ⟨c1, ?_⟩
        rw [b3 fc (by omega)]
        exact c2
      · exact gx_K0_A K0 rfl (gx_A_trans a2 b3 fcl.1)
    · intro e1 nz
      exact ih (h + 1) _ (gm_tk s) out D' fc' e1 (by omega) a1 a7 a3 a4 a5 (fun _ z => absurd z nz) KB
/-- what is known of the evaluator with less fuel -/
def gx_IH (post : SX → Prop) (x_typeDraft x_typeCount x_count x_wrongAt x_keptPlace x_runVerdict x_runBlame x_result : Int32) (x_named x_kinds x_values x_ends x_types x_operands x_targets : Nat → Int32) (f : Nat → Nat → Nat → gm_S → Option gm_O) : Prop :=
  ∀ (h i w : Nat) (s : gm_S) (out : gm_O) (D : gx_D) (fc : Nat), f h i w s = some out → fc ≤ h → gx_H s D → gx_fc D = nI fc → gx_mode D = 0 → gx_att D = nI i → gx_scp D = nI w → gx_K0 post x_typeDraft x_typeCount x_count x_wrongAt x_keptPlace x_runVerdict x_runBlame x_result x_named x_kinds x_values x_ends x_types x_operands x_targets fc D out → gx_KB post x_typeDraft x_typeCount x_count x_wrongAt x_keptPlace x_runVerdict x_runBlame x_result x_named x_kinds x_values x_ends x_types x_operands x_targets out → gx_go post x_typeDraft x_typeCount x_count x_wrongAt x_keptPlace x_runVerdict x_runBlame x_result x_named x_kinds x_values x_ends x_types x_operands x_targets s D
theorem gx_call_sim {f : Nat → Nat → Nat → gm_S → Option gm_O} (hf : gx_IH post x_typeDraft x_typeCount x_count x_wrongAt x_keptPlace x_runVerdict x_runBlame x_result x_named x_kinds x_values x_ends x_types x_operands x_targets f) : ∀ (n h g a : Nat) (s : gm_S) (out : gm_O) (D : gx_D) (fc : Nat), gm_call f n h g a s = some out → fc ≤ h → gx_H s D → gx_fc D = nI fc → gx_mode D = 2 → gx_cal D = nI (gm_xv g) → gx_cur D = nI (gm_xv a) → gx_K0 post x_typeDraft x_typeCount x_count x_wrongAt x_keptPlace x_runVerdict x_runBlame x_result x_named x_kinds x_values x_ends x_types x_operands x_targets fc D out → gx_KB post x_typeDraft x_typeCount x_count x_wrongAt x_keptPlace x_runVerdict x_runBlame x_result x_named x_kinds x_values x_ends x_types x_operands x_targets out → gx_go post x_typeDraft x_typeCount x_count x_wrongAt x_keptPlace x_runVerdict x_runBlame x_result x_named x_kinds x_values x_ends x_types x_operands x_targets s D := by
  intro n
  induction n with
  | zero =>
    intro h g a s out D fc H hh hH hF hm hg hc K0 KB
    simp only [gm_call] at H
    obtain ⟨⟨r1, r2, r3, r4⟩, H⟩ := gm_tick_e H
    obtain ⟨⟨hv, hk⟩, H⟩ := gm_if_e H
    refine gx_t2 r1 r3 (by omega) hH hF hm (gx_callBase r3 hH hF hm hg hc hv hk) ?_
    rintro D' ⟨a1, a2, a3, a4, a5, a6⟩
    have := hf h (gm_ca (gm_h s (g / 8)) + 1) (gm_m s) (gm_scope (gm_tk s) a (gm_cb (gm_h s (g / 8)))) out D' fc H hh a1 a2 a4 a5 a6 (gx_K0_A K0 rfl a3) KB
    exact this
  | succ n ih =>
    intro h g a s out D fc H hh hH hF hm hg hc K0 KB
    simp only [gm_call] at H
    obtain ⟨⟨r1, r2, r3, r4⟩, H⟩ := gm_tick_e H
    obtain ⟨⟨hv, hk⟩, H⟩ := gm_if_e H
    refine gm_bd_e H ?_ ?_
    · intro a' p' s' e1 H1
      have same := gm_cast_same e1
      refine gx_t2 r1 r3 (by omega) hH hF hm (gx_callStep (s := gm_tk s) e1 (by omega) hH hF hm hg hc hv hk) ?_
      rintro D' (⟨a0, a1, a2, a3, a4, a5, a6, fc', a7, a8, a9⟩ | ⟨z, _⟩)
      · have fcl : fc ≤ fc' ∧ fc' ≤ fc + 1 := by
          by_cases e : gd_en (gd_rt (gm_cf (gm_h s (g / 8)))) = gd_en (gd_rt (gm_ct (gm_h s (g / 8))))
          · have := a8 e; omega
          · have := (a9 e).1; omega
        have eu : gm_u s' = gm_u (gm_tk s) := same.2.2.2
        have go : gx_go post x_typeDraft x_typeCount x_count x_wrongAt x_keptPlace x_runVerdict x_runBlame x_result x_named x_kinds x_values x_ends x_types x_operands x_targets s' D' := by
          refine gm_bd_e H1 ?_ ?_
          · intro u p s1 e2 H2
            refine ih (h + 1) _ a' s' (0, u, p, s1) D' fc' e2 (by omega) a1 a7 a3 a4 a5 ?_ (fun z => absurd rfl z)
            intro D2 _ b1 b2 b3 b4 b5
            refine gx_fcast (fc := fc) (fc' := fc') H2 (by omega) a6 b1 b2 a8 (fun z => ?_) b4 b5 ?_ KB
            · obtain ⟨c1, c2⟩ := a9 z
              refine ⟨c1, ?_⟩
              rw [b3 fc (by omega)]
              exact c2
            · exact gx_K0_A K0 rfl (gx_A_trans a2 b3 fcl.1)
          · intro e2 nz
            exact ih (h + 1) _ a' s' out D' fc' e2 (by omega) a1 a7 a3 a4 a5 (fun _ z => absurd z nz) KB
        intro N hN
        have := go N (by rw [eu]; exact hN)
        rw [eu] at this
        exact this
      · exact absurd rfl z
    · intro e1 nz
      refine gx_t2 r1 r3 (by omega) hH hF hm (gx_callStep (s := gm_tk s) e1 (by omega) hH hF hm hg hc hv hk) ?_
      rintro D' (⟨z, _⟩ | ⟨z, a1⟩)
      · exact absurd z nz
      · intro N hN
        have eu : gm_u (gm_tk s) = gm_u s + 1 := rfl
        exact gx_halt (by omega) a1.1 (KB z D' a1)
/-- an operand, up to the turn in which it is taken -/
theorem gx_opr_sim {P : gm_P} {f : Nat → Nat → Nat → gm_S → Option gm_O} (hf : gx_IH post x_typeDraft x_typeCount x_count x_wrongAt x_keptPlace x_runVerdict x_runBlame x_result x_named x_kinds x_values x_ends x_types x_operands x_targets f) {h i k w fc : Nat} {s : gm_S} {out : gm_O} {D0 D : gx_D} {hd : Int32} (H : gm_opr P f h i k w s = some out) (hi : i < 36) (hk : k < 3) (hh : fc ≤ h) (hW : gx_W P s D0 D fc i k w hd)
    (K : ∀ s2 D2, out.1 = 0 → out.2.2.2 = gm_tk s2 → (gm_u s2 < 1000000 ∧ gm_m s2 < 64 ∧ h < 32766) → gx_H s2 D2 → gx_fc D2 = nI (fc + 1) → (gx_fr D2 fc).1 = nI (3 * i + k) → (gx_fr D2 fc).2.1 = nI w → (gx_fr D2 fc).2.2.1 = hd → gx_A fc D0 D2 → gx_mode D2 = 1 → gx_cur D2 = nI (gm_xv out.2.1) → gx_go post x_typeDraft x_typeCount x_count x_wrongAt x_keptPlace x_runVerdict x_runBlame x_result x_named x_kinds x_values x_ends x_types x_operands x_targets s2 D2)
    (KB : gx_KB post x_typeDraft x_typeCount x_count x_wrongAt x_keptPlace x_runVerdict x_runBlame x_result x_named x_kinds x_values x_ends x_types x_operands x_targets out) : gx_go post x_typeDraft x_typeCount x_count x_wrongAt x_keptPlace x_runVerdict x_runBlame x_result x_named x_kinds x_values x_ends x_types x_operands x_targets s D := by
  obtain ⟨w1, w2, w3, w4, w5, fc', w6, o1, o2, o3, o4, o5⟩ := hW
  have fcl : fc + 1 ≤ fc' ∧ fc' ≤ fc + 2 := by
    by_cases e : gd_en (gm_ty P (gm_op P i k)) = gd_en (gm_tg P i k)
    · have := o4 e; omega
    · have := (o5 e).1; omega
  unfold gm_opr at H
  refine gm_bd_e H ?_ ?_
  · intro v p s1 e1 H1
    refine hf (h + 2) _ w s (0, v, p, s1) D fc' e1 (by omega) w1 w6 w3 w4 w5 ?_ (fun z => absurd rfl z)
    intro D1 _ b1 b2 b3 b4 b5
    have lbl : gm_lb (3 * i + k + 1) = nI (3 * i + k + 1) := rfl
    have frc : gx_fr D1 fc = gx_fr D fc := b3 fc (by omega)
    have hfn : gd_en (gm_ty P (gm_op P i k)) ≠ gd_en (gm_tg P i k) → fc' = (fc + 1) + 1 ∧ gx_fr D1 (fc + 1) = (-1, nI (gd_en (gm_ty P (gm_op P i k))), nI (gd_en (gm_tg P i k)), gm_lb (3 * i + k + 1)) := by
      intro z
      obtain ⟨c1, c2⟩ := o5 z
      refine ⟨c1, ?_⟩
      rw [b3 (fc + 1) (by omega), c2, lbl]
    refine gm_bd_e H1 ?_ ?_
    · intro v' p' s2 e2 H2
      refine gx_fcast (fc := fc + 1) (fc' := fc') (out := (0, v', p', s2)) e2 (by omega) (gm_PB_op hi hk) b1 b2 o4 hfn b4 b5 ?_ (fun z => absurd rfl z)
      intro D2 _ d1 d2 d3 d4 d5
      obtain ⟨⟨r1, r2, r3, r4⟩, H2⟩ := gm_tick_e H2
      injection H2 with H2
      have frd : gx_fr D2 fc = gx_fr D fc := (d3 fc (by omega)).trans frc
      refine K s2 D2 (by rw [← H2]) (by rw [← H2]) ⟨r1, r3, by omega⟩ d1 d2 (by rw [frd]; exact o1) (by rw [frd]; exact o2) (by rw [frd]; exact o3) ?_ d4 (by rw [← H2]; exact d5)
      exact gx_A_trans (gx_A_trans w2 b3 (by omega)) d3 (by omega)
    · intro e2 nz
      exact gx_fcast (fc := fc + 1) (fc' := fc') e2 (by omega) (gm_PB_op hi hk) b1 b2 o4 hfn b4 b5 (fun _ z => absurd z nz) KB
  · intro e1 nz
    exact hf (h + 2) _ w s out D fc' e1 (by omega) w1 w6 w3 w4 w5 (fun _ z => absurd z nz) KB
end
end
section
/-! ===== 18: the evaluator's tokens ===== -/
section
variable {x_typeDraft x_typeCount x_count x_wrongAt x_keptPlace x_cellCount x_scopeCount x_frameCount x_mode x_atToken x_scope x_current x_callee x_side x_ending x_faultLabel x_stepsTaken x_runVerdict x_runBlame x_result : Int32} {x_named x_kinds x_values x_ends x_types x_operands x_targets x_cellShape x_cellLabel x_cellOne x_cellTwo x_cellThree x_scopeValue x_scopeOuter x_frameKind x_frameOne x_frameTwo x_frameThree : Nat → Int32}
variable {post : SX → Prop}
theorem gx_set_H {s : gm_S} {D : gx_D} {x : Int32} (h : gx_H s D) : gx_H s (gx_setfc D x) := by
  obtain ⟨x_cellCount, x_scopeCount, x_frameCount, x_mode, x_atToken, x_scope, x_current, x_callee, x_side, x_ending, x_faultLabel, x_stepsTaken, x_cellShape, x_cellLabel, x_cellOne, x_cellTwo, x_cellThree, x_scopeValue, x_scopeOuter, x_frameKind, x_frameOne, x_frameTwo, x_frameThree⟩ := D
  exact h
theorem gx_set_fc {D : gx_D} {x : Int32} : gx_fc (gx_setfc D x) = x := by
  obtain ⟨x_cellCount, x_scopeCount, x_frameCount, x_mode, x_atToken, x_scope, x_current, x_callee, x_side, x_ending, x_faultLabel, x_stepsTaken, x_cellShape, x_cellLabel, x_cellOne, x_cellTwo, x_cellThree, x_scopeValue, x_scopeOuter, x_frameKind, x_frameOne, x_frameTwo, x_frameThree⟩ := D
  rfl
theorem gx_set_fr {D : gx_D} {x : Int32} (j : Nat) : gx_fr (gx_setfc D x) j = gx_fr D j := by
  obtain ⟨x_cellCount, x_scopeCount, x_frameCount, x_mode, x_atToken, x_scope, x_current, x_callee, x_side, x_ending, x_faultLabel, x_stepsTaken, x_cellShape, x_cellLabel, x_cellOne, x_cellTwo, x_cellThree, x_scopeValue, x_scopeOuter, x_frameKind, x_frameOne, x_frameTwo, x_frameThree⟩ := D
  rfl
theorem gx_set_cur {D : gx_D} {x : Int32} : gx_cur (gx_setfc D x) = gx_cur D := by
  obtain ⟨x_cellCount, x_scopeCount, x_frameCount, x_mode, x_atToken, x_scope, x_current, x_callee, x_side, x_ending, x_faultLabel, x_stepsTaken, x_cellShape, x_cellLabel, x_cellOne, x_cellTwo, x_cellThree, x_scopeValue, x_scopeOuter, x_frameKind, x_frameOne, x_frameTwo, x_frameThree⟩ := D
  rfl
theorem gx_set_mode {D : gx_D} {x : Int32} : gx_mode (gx_setfc D x) = gx_mode D := by
  obtain ⟨x_cellCount, x_scopeCount, x_frameCount, x_mode, x_atToken, x_scope, x_current, x_callee, x_side, x_ending, x_faultLabel, x_stepsTaken, x_cellShape, x_cellLabel, x_cellOne, x_cellTwo, x_cellThree, x_scopeValue, x_scopeOuter, x_frameKind, x_frameOne, x_frameTwo, x_frameThree⟩ := D
  rfl
/-- before the turn in which operand k of i is taken -/
def gx_B (s : gm_S) (D0 D : gx_D) (h fc i k w : Nat) (hd : Int32) (v : Nat) : Prop :=
  (gm_u s < 1000000 ∧ gm_m s < 64 ∧ h < 32766) ∧ gx_H s D ∧ gx_fc D = nI (fc + 1) ∧ (gx_fr D fc).1 = nI (3 * i + k) ∧ (gx_fr D fc).2.1 = nI w ∧ (gx_fr D fc).2.2.1 = hd ∧ gx_A fc D0 D ∧ gx_mode D = 1 ∧ gx_cur D = nI (gm_xv v)
theorem gx_fin {s : gm_S} {D0 D : gx_D} {h fc i k w v : Nat} {hd : Int32} {C : gx_D → Prop} (hB : gx_B s D0 D h fc i k w hd v) (hi : i < 36) (hk : k < 3) (hh : fc ≤ h) (hM : gx_M (fun P X => wpX_finishOperand P X (nI i) (nI k) (nI w) hd) x_typeDraft x_typeCount x_count x_wrongAt x_keptPlace x_runVerdict x_runBlame x_result x_named x_kinds x_values x_ends x_types x_operands x_targets (gx_setfc D (nI fc)) C) (K : ∀ D', C D' → gx_go post x_typeDraft x_typeCount x_count x_wrongAt x_keptPlace x_runVerdict x_runBlame x_result x_named x_kinds x_values x_ends x_types x_operands x_targets (gm_tk s) D') : gx_go post x_typeDraft x_typeCount x_count x_wrongAt x_keptPlace x_runVerdict x_runBlame x_result x_named x_kinds x_values x_ends x_types x_operands x_targets s D := by
  obtain ⟨⟨r1, r2, r3⟩, b1, b2, b3, b4, b5, b6, b7, b8⟩ := hB
  exact gx_t1 r1 r2 (by omega) b1 b2 b7 (gx_resumeOp hi hk (by omega) b2 b3 b4 b5 hM) K
theorem gx_rest_sim {P : gm_P} {f : Nat → Nat → Nat → gm_S → Option gm_O} (hP : gx_P P x_kinds x_values x_types x_operands x_targets) (hf : gx_IH post x_typeDraft x_typeCount x_count x_wrongAt x_keptPlace x_runVerdict x_runBlame x_result x_named x_kinds x_values x_ends x_types x_operands x_targets f) {h i w v fc : Nat} {s : gm_S} {out : gm_O} {D0 D : gx_D} {hd : Int32} (H : gm_rest P f h i w v (gm_tk s) = some out) (hi : i < gm_cn P) (h4 : 4 ≤ gm_kd P i) (hh : fc ≤ h) (hB : gx_B s D0 D h fc i 0 w hd v) (K0 : gx_K0 post x_typeDraft x_typeCount x_count x_wrongAt x_keptPlace x_runVerdict x_runBlame x_result x_named x_kinds x_values x_ends x_types x_operands x_targets fc D0 out) (KB : gx_KB post x_typeDraft x_typeCount x_count x_wrongAt x_keptPlace x_runVerdict x_runBlame x_result x_named x_kinds x_values x_ends x_types x_operands x_targets out) : gx_go post x_typeDraft x_typeCount x_count x_wrongAt x_keptPlace x_runVerdict x_runBlame x_result x_named x_kinds x_values x_ends x_types x_operands x_targets s D := by
  have c36 : gm_cn P ≤ 36 := hP.1
  have i36 : i < 36 := by omega
  obtain ⟨⟨r1, r2, r3⟩, b1, b2, b3, b4, b5, b6, b7, b8⟩ := id hB
  have A0 : gx_A fc D0 (gx_setfc D (nI fc)) := fun j hj => (gx_set_fr j).trans (b6 j hj)
  have H0 : gx_H (gm_tk s) (gx_setfc D (nI fc)) := gx_set_H b1
  have k12 : gm_kd P i < 12 := (hP.2 i hi).2.1
  unfold gm_rest at H
  by_cases c9 : gm_kd P i = 9 ∨ gm_kd P i = 10
  · rw [if_pos c9] at H
    refine gx_fin hB i36 (by decide) hh (gx_finTake hP hi c9 H0) ?_
    rintro D' ⟨a1, a2, a3, a4, a5, a6⟩
    refine gx_take_sim (side := gm_kd P i - 9) (by omega) _ h v (gm_tk s) out D' fc H hh a1 (a2.trans gx_set_fc) a4 a5 (a6.trans (gx_set_cur.trans b8)) ?_ KB
    exact gx_K0_A K0 rfl (gx_A_trans A0 (gx_fr_A a3) (Nat.le_refl _))
  rw [if_neg c9] at H
  by_cases c5 : gm_kd P i = 5
  · rw [if_pos c5] at H
    obtain ⟨hv, H⟩ := gm_num_e H
    refine gx_fin hB i36 (by decide) hh (gx_finIf hP hi c5 (by omega) gx_set_fc H0 (gx_set_cur.trans b8) hv) ?_
    intro D' hW
    have kk : (if gm_ci (gm_h (gm_tk s) (v / 8)) = 0 then 2 else 1) < 3 ∧ 0 < (if gm_ci (gm_h (gm_tk s) (v / 8)) = 0 then 2 else 1) := by
      split <;> decide
    refine gx_opr_sim hf H i36 kk.1 hh hW ?_ KB
    intro s2 D2 o0 o1 o2 o3 o4 o5 o6 o7 o8 o9 o10
    refine gx_fin ⟨o2, o3, o4, o5, o6, o7, o8, o9, o10⟩ i36 kk.1 hh (gx_finSame (s := s2) hP hi (Or.inr ⟨c5, kk.2⟩) kk.1 (gx_set_H o3)) ?_
    intro D3 e
    subst e
    have := K0 (gx_setfc D2 (nI fc)) o0 (by rw [o1]; exact gx_set_H o3) gx_set_fc (gx_A_trans (gx_A_trans A0 o8 (Nat.le_refl _)) (gx_fr_A gx_set_fr) (Nat.le_refl _)) (gx_set_mode.trans o9) (gx_set_cur.trans o10)
    rw [o1] at this
    exact this
  rw [if_neg c5] at H
  by_cases c11 : gm_kd P i = 11
  · rw [if_pos c11] at H
    injection H with H
    subst H
    refine gx_fin hB i36 (by decide) hh (gx_finSame (s := s) hP hi (Or.inl c11) (by decide) (gx_set_H b1)) ?_
    intro D3 e
    subst e
    exact K0 (gx_setfc D (nI fc)) rfl H0 gx_set_fc A0 (gx_set_mode.trans b7) (gx_set_cur.trans b8)
  rw [if_neg c11] at H
  have hk4 : gm_kd P i = 4 ∨ gm_kd P i = 6 ∨ gm_kd P i = 7 ∨ gm_kd P i = 8 := by omega
  refine gx_fin hB i36 (by decide) hh (gx_finTwo hP hi hk4 (by omega) gx_set_fc H0) ?_
  intro D' hW
  refine gm_bd_e H ?_ ?_
  · intro v' p' s' e1 H1
    refine gx_opr_sim (out := (0, v', p', s')) hf e1 i36 (by decide) hh hW ?_ (fun z => absurd rfl z)
    intro s2 D2 o0 o1 o2 o3 o4 o5 o6 o7 o8 o9 o10
    have o1' : s' = gm_tk s2 := o1
    subst o1'
    have o7' : (gx_fr D2 fc).2.2.1 = nI (gm_xv v) := o7.trans (gx_set_cur.trans b8)
    have H2 : gx_H (gm_tk s2) (gx_setfc D2 (nI fc)) := gx_set_H o3
    have A2 : gx_A fc D0 (gx_setfc D2 (nI fc)) := gx_A_trans (gx_A_trans A0 o8 (Nat.le_refl _)) (gx_fr_A gx_set_fr) (Nat.le_refl _)
    by_cases c4 : gm_kd P i = 4
    · rw [if_pos c4] at H1
      obtain ⟨_, H1⟩ := gm_if_e H1
      refine gx_fin ⟨o2, o3, o4, o5, o6, o7', o8, o9, o10⟩ i36 (by decide) hh (gx_finApp (s := gm_tk s2) hP hi c4 H2) ?_
      rintro D3 ⟨a1, a2, a3, a4, a5, a6⟩
      refine gx_call_sim hf _ h v v' (gm_tk s2) out D3 fc H1 hh a1 (a2.trans gx_set_fc) a4 a5 (a6.trans (gx_set_cur.trans o10)) ?_ KB
      exact gx_K0_A K0 rfl (gx_A_trans A2 (gx_fr_A a3) (Nat.le_refl _))
    · rw [if_neg c4] at H1
      refine gx_fin ⟨o2, o3, o4, o5, o6, o7', o8, o9, o10⟩ i36 (by decide) hh (gx_finComb (s := gm_tk s2) (v := v) (v' := v') hP hi (by omega) H2 (gx_set_mode.trans o9) (gx_set_cur.trans o10) H1) ?_
      rintro D3 ⟨z, a1, a2, a3, a4, a5⟩
      have g := K0 D3 z a1 (a2.trans gx_set_fc) (gx_A_trans A2 (gx_fr_A a3) (Nat.le_refl _)) a4 a5
      have eu : gm_u out.2.2.2 = gm_u (gm_tk s2) := by
        by_cases c6 : gm_kd P i = 6
        · rw [if_pos c6] at H1
          exact (gm_new_same (gm_num_e (gm_num_e H1).2).2).2.2.2
        rw [if_neg c6] at H1
        by_cases c7 : gm_kd P i = 7
        · rw [if_pos c7] at H1
          exact (gm_new_same (gm_num_e (gm_num_e H1).2).2).2.2.2
        rw [if_neg c7] at H1
        exact (gm_new_same (gm_if_e (gm_if_e H1).2).2).2.2.2
      intro N hN
      have := g N (by rw [eu]; exact hN)
      rw [eu] at this
      exact this
  · intro e1 nz
    exact gx_opr_sim hf e1 i36 (by decide) hh hW (fun _ _ z => absurd z nz) KB
theorem gx_ev_sim {P : gm_P} (hP : gx_P P x_kinds x_values x_types x_operands x_targets) : ∀ d, gx_IH post x_typeDraft x_typeCount x_count x_wrongAt x_keptPlace x_runVerdict x_runBlame x_result x_named x_kinds x_values x_ends x_types x_operands x_targets (gm_ev P d) := by
  intro d
  have c36 : gm_cn P ≤ 36 := hP.1
  induction d with
  | zero =>
    intro h i w s out D fc H
    exact absurd H (by simp [gm_ev])
  | succ d ih =>
    intro h i w s out D fc H hh hH hF hm ht hw K0 KB
    simp only [gm_ev] at H
    obtain ⟨hi, H⟩ := gm_if_e H
    obtain ⟨⟨r1, r2, r3, r4⟩, H⟩ := gm_tick_e H
    have H0 : gx_H (gm_tk s) D := hH
    have i36 : i < 36 := by omega
    by_cases hT : 40 ≤ gm_T (gm_tk s)
    · rw [if_pos hT] at H
      injection H with H
      subst H
      refine gx_t0 r1 r3 (by omega) hH hF hm (gx_bLong H0 hT) ?_
      intro D' hE N hN
      have eu : gm_u (gm_tk s) = gm_u s + 1 := rfl
      exact gx_halt (by omega) hE.1 (KB (show (5 : Nat) ≠ 0 by decide) D' hE)
    rw [if_neg hT] at H
    have hT' : gm_T (gm_tk s) < 40 := Nat.lt_of_not_le hT
    by_cases k4 : 4 ≤ gm_kd P i
    · rw [if_neg (by omega), if_neg (by omega), if_neg (by omega), if_neg (by omega)] at H
      refine gx_t0 r1 r3 (by omega) hH hF hm (gx_bOp hP hi k4 (by omega) hF H0 hT' ht hw) ?_
      intro D' hW
      have goW : gx_go post x_typeDraft x_typeCount x_count x_wrongAt x_keptPlace x_runVerdict x_runBlame x_result x_named x_kinds x_values x_ends x_types x_operands x_targets (gm_st (gm_tk s)) D' := by
        refine gm_bd_e H ?_ ?_
        · intro v p s1 e1 H1
          refine gx_opr_sim (out := (0, v, p, s1)) ih e1 i36 (by decide) hh hW ?_ (fun z => absurd rfl z)
          intro s2 D2 o0 o1 o2 o3 o4 o5 o6 o7 o8 o9 o10
          have o1' : s1 = gm_tk s2 := o1
          subst o1'
          exact gx_rest_sim hP ih H1 hi k4 hh ⟨o2, o3, o4, o5, o6, o7, o8, o9, o10⟩ K0 KB
        · intro e1 nz
          exact gx_opr_sim ih e1 i36 (by decide) hh hW (fun _ _ z => absurd z nz) KB
      exact goW
    · have H' : (if gm_kd P i = 0 then gm_new (gm_st (gm_tk s)) (1, gm_vl P i, 0, 0, .leaf 0, .leaf 0, 0, 0, 0, 0, 0) 0
          else if gm_kd P i = 1 then gm_new (gm_st (gm_tk s)) (2, gm_vl P i, 0, 0, .leaf 1, .leaf 1, 0, 0, 0, 0, 0) 0
          else if gm_kd P i = 2 then (match gm_var (gm_st (gm_tk s)) (gm_vl P i).toNatClampNeg w with | none => none | some v => some (0, v, 0, gm_st (gm_tk s)))
          else if gm_kd P i = 3 then gm_new (gm_st (gm_tk s)) (3, 0, i, w, gm_ty P i, gm_ty P i, 0, 0, 0, 0, 0) 0 else none) = some out := by
        by_cases k0 : gm_kd P i = 0
        · rw [if_pos k0] at H ⊢; exact H
        rw [if_neg k0] at H ⊢
        by_cases k1 : gm_kd P i = 1
        · rw [if_pos k1] at H ⊢; exact H
        rw [if_neg k1] at H ⊢
        by_cases k2 : gm_kd P i = 2
        · rw [if_pos k2] at H ⊢; exact H
        rw [if_neg k2] at H ⊢
        have k3 : gm_kd P i = 3 := by omega
        rw [if_pos k3] at H ⊢
        exact H
      refine gx_t0 r1 r3 (by omega) hH hF hm (gx_bNew (s := gm_tk s) hP hi H0 hT' ht hw H') ?_
      rintro D' ⟨z, a1, a2, a3, a4, a5⟩
      have g := K0 D' z a1 (a2.trans hF) (gx_fr_A a3) a4 a5
      have eu : gm_u out.2.2.2 = gm_u (gm_tk s) := by
        by_cases k0 : gm_kd P i = 0
        · rw [if_pos k0] at H'
          exact (gm_new_same H').2.2.2
        rw [if_neg k0] at H'
        by_cases k1 : gm_kd P i = 1
        · rw [if_pos k1] at H'
          exact (gm_new_same H').2.2.2
        rw [if_neg k1] at H'
        by_cases k2 : gm_kd P i = 2
        · rw [if_pos k2] at H'
          cases hv : gm_var (gm_st (gm_tk s)) (gm_vl P i).toNatClampNeg w with
          | none => rw [hv] at H'; exact absurd H' (by simp)
          | some v => rw [hv] at H'; injection H' with H'; subst H'; rfl
        rw [if_neg k2] at H'
        exact (gm_new_same (gm_if_e H').2).2.2.2
      intro N hN
      have := g N (by rw [eu]; exact hN)
      rw [eu] at this
      exact this
end
end
section
/-! ===== 19: the reference's values and casts ===== -/
/-- where types are spelled that a run reads -/
def gy_RG (i : Nat) (t : Lean.RArray Nat) : Prop := 368 ≤ i ∧ i + gd_sz t ≤ 688
def gy_C (ty : Nat → Int32) (c : gm_Cell) (so o1 o2 fr to lb : Int32) : Prop :=
  so = nI (gm_ck c) ∧ gm_ck c < 7 ∧ (gm_ck c < 3 → o1 = gm_ci c) ∧ (gm_ck c = 3 → o1 = nI (gm_ca c) ∧ o2 = nI (gm_cb c) - 1) ∧ (gm_ck c = 5 → o1 = nI (gm_ca c) ∧ o2 = nI (gm_cb c)) ∧
  (gm_ck c = 4 ∨ gm_ck c = 6 → o1 = nI (gm_ca c) ∧ lb = gm_lb (gm_cp c) ∧ gm_PB (gm_cp c) ∧ gd_TY (gm_cf c) ∧ gd_TY (gm_ct c) ∧ ∃ i j, fr = nI i ∧ to = nI j ∧ gd_Sp ty (gm_cf c) i ∧ gd_Sp ty (gm_ct c) j ∧ gy_RG i (gm_cf c) ∧ gy_RG j (gm_ct c) ∧ ∃ h a b a' b', gm_cf c = .branch h a b ∧ gm_ct c = .branch h a' b')
def gy_H0 (ty : Nat → Int32) (s : gm_S) (vs : Int32) (so o1 o2 fr to lb : Nat → Int32) : Prop := vs = nI (gm_n s) ∧ gm_n s ≤ 5000 ∧ ∀ c, c < gm_n s → gy_C ty (gm_h s c) (so c) (o1 c) (o2 c) (fr c) (to c) (lb c)
theorem gy_H0_push {ty : Nat → Int32} {s : gm_S} {vs : Int32} {so o1 o2 fr to lb so' o1' o2' fr' to' lb' : Nat → Int32} {c : gm_Cell} (h : gy_H0 ty s vs so o1 o2 fr to lb) (hn : gm_n s < 5000) (hc : gy_C ty c (so' (gm_n s)) (o1' (gm_n s)) (o2' (gm_n s)) (fr' (gm_n s)) (to' (gm_n s)) (lb' (gm_n s))) (g : ∀ j, j ≠ gm_n s → so' j = so j ∧ o1' j = o1 j ∧ o2' j = o2 j ∧ fr' j = fr j ∧ to' j = to j ∧ lb' j = lb j) : gy_H0 ty (gm_push s c) (nI (gm_n s + 1)) so' o1' o2' fr' to' lb' := by
  refine ⟨rfl, by rw [gm_push_n]; omega, ?_⟩
  intro j hj
  rw [gm_push_n] at hj
  by_cases e : j = gm_n s
  · subst e
    rw [gm_push_new]
    exact hc
  · obtain ⟨a, b, d, e1, f, g'⟩ := g j e
    rw [gm_push_old s c (by omega), a, b, d, e1, f, g']
    exact h.2.2 j (by omega)
theorem gy_nb : ∀ k, k < 128 → vp_nar .byte (nI k).toInt8.toInt32 = nI k := by
  intro k hk
  rw [vp_nar_byte]
  revert k
  decide +kernel
theorem gy_ns : ∀ k, k < 700 → vp_nar .short (nI k).toInt16.toInt32 = nI k := by
  intro k hk
  rw [vp_nar_short]
  revert k
  decide +kernel
theorem gy_nl {p : Int} (hp : gm_PB p) : vp_nar .short (gm_lb p).toInt16.toInt32 = gm_lb p := by
  have key : ∀ k : Nat, k < 400 → vp_nar .short (gm_lb ((k : Int) - 200)).toInt16.toInt32 = gm_lb ((k : Int) - 200) := by
    intro k hk
    rw [vp_nar_short]
    revert k
    decide +kernel
  have e : p = ((p + 200).toNat : Int) - 200 := by
    unfold gm_PB at hp
    omega
  rw [e]
  exact key _ (by unfold gm_PB at hp; omega)
theorem gy_div {v : Nat} (h : v / 8 < 5001) : nI v / 8 = nI (v / 8) := pk_div (d := 8) (by omega) (by decide) (by decide)
theorem gy_and7 {v : Nat} (h : v / 8 < 5001) : nI v &&& 7 = nI (v % 8) := pk_andN (by omega) 3 (by decide)
section
variable {y_parts y_count y_place y_where y_values y_variables y_waits y_at y_world y_steps y_blame y_result y_given : Int32} {y_ty y_part y_kind y_end y_state y_with y_runKind y_runEnd y_runWith y_sort y_one y_two y_from y_to y_label y_held y_around y_waiting y_operand y_outer y_kept : Nat → Int32}
theorem gy_make {post : Int32 → SY → Prop} {n k : Nat} (hn : n < 5000) (hk : k < 128) {p1 p2 : Int32} (P : post (nI (8 * n)) (y_parts, y_count, y_place, y_where, nI (n + 1), y_variables, y_waits, y_at, y_world, y_steps, y_blame, y_result, y_given, y_ty, y_part, y_kind, y_end, y_state, y_with, y_runKind, y_runEnd, y_runWith, upd y_sort n (nI k), upd y_one n p1, upd y_two n p2, y_from, y_to, y_label, y_held, y_around, y_waiting, y_operand, y_outer, y_kept)) : wpY_make post (y_parts, y_count, y_place, y_where, nI n, y_variables, y_waits, y_at, y_world, y_steps, y_blame, y_result, y_given, y_ty, y_part, y_kind, y_end, y_state, y_with, y_runKind, y_runEnd, y_runWith, y_sort, y_one, y_two, y_from, y_to, y_label, y_held, y_around, y_waiting, y_operand, y_outer, y_kept) (nI k) p1 p2 := by
  have c : (nI n).toNatClampNeg = n := nI_clamp (by omega)
  have v : vp_in (nI n) 5000 := vp_in_nI hn (by decide)
  have e8 : (8 : Int32) * nI n = nI (8 * n) := pk_mul 8 n
  have es : upd y_sort (nI n).toNatClampNeg (vp_nar .byte (nI k).toInt8.toInt32) = upd y_sort n (nI k) := by rw [c, gy_nb k hk]
  refine And.intro v (nm_r es (And.intro v (nm_r (congrArg (fun k => upd y_one k p1) c) (And.intro v (nm_r (congrArg (fun k => upd y_two k p2) c) (nm_r (nI_1 n) ?_))))))
  rw [e8]
  exact P
theorem gy_wrapped {post : Int32 → SY → Prop} {s : gm_S} {v : Nat} {f t : Lean.RArray Nat} {p : Int} {add i j : Nat} {out : gm_O} (H : gm_wr s v f t p add = some out) (ne : gd_en f ≠ gd_en t) (hH : gy_H0 y_ty s y_values y_sort y_one y_two y_from y_to y_label) (hf : gd_TY f) (ht : gd_TY t) (sf : gd_Sp y_ty f i) (st : gd_Sp y_ty t j) (ri : gy_RG i f) (rj : gy_RG j t) (hp : gm_PB p)
    (K : ∀ w s' vs so o1 o2 fr to lb, out = (0, w + add, 0, s') → w % 8 = 0 → w / 8 < 5000 → gy_H0 y_ty s' vs so o1 o2 fr to lb → post (nI w) (y_parts, y_count, y_place, y_where, vs, y_variables, y_waits, y_at, y_world, y_steps, y_blame, y_result, y_given, y_ty, y_part, y_kind, y_end, y_state, y_with, y_runKind, y_runEnd, y_runWith, so, o1, o2, fr, to, lb, y_held, y_around, y_waiting, y_operand, y_outer, y_kept)) :
    wpY_wrapped post (y_parts, y_count, y_place, y_where, y_values, y_variables, y_waits, y_at, y_world, y_steps, y_blame, y_result, y_given, y_ty, y_part, y_kind, y_end, y_state, y_with, y_runKind, y_runEnd, y_runWith, y_sort, y_one, y_two, y_from, y_to, y_label, y_held, y_around, y_waiting, y_operand, y_outer, y_kept) (nI v) (nI i) (nI j) (gm_lb p) := by
  unfold gm_wr at H
  rw [if_neg ne] at H
  obtain ⟨hk, H⟩ := gm_if_e H
  obtain ⟨hn, H⟩ := gm_new_e H
  have hH0 := hH
  obtain ⟨rfl, h5, hc⟩ := hH
  have h3 : 3 ≤ gd_hd f := by omega
  obtain ⟨l, r, ef, hk3⟩ := gm_br_of h3 hf.1
  obtain ⟨l', r', et, _⟩ := gm_br_of (show 3 ≤ gd_hd t by omega) ht.1
  have zf := gd_sz_pos f
  have zt := gd_sz_pos t
  obtain ⟨ri1, ri2⟩ := ri
  obtain ⟨rj1, rj2⟩ := rj
  have c : (nI (gm_n s)).toNatClampNeg = gm_n s := nI_clamp (by omega)
  have vin : vp_in (nI (gm_n s)) 5000 := vp_in_nI hn (by decide)
  have e1 : upd y_from (nI (gm_n s)).toNatClampNeg (vp_nar .short (nI i).toInt16.toInt32) = upd y_from (gm_n s) (nI i) := by rw [c, gy_ns i (by omega)]
  have e2 : upd y_to (nI (gm_n s)).toNatClampNeg (vp_nar .short (nI j).toInt16.toInt32) = upd y_to (gm_n s) (nI j) := by rw [c, gy_ns j (by omega)]
  have e3 : upd y_label (nI (gm_n s)).toNatClampNeg (vp_nar .short (gm_lb p).toInt16.toInt32) = upd y_label (gm_n s) (gm_lb p) := by rw [c, gy_nl hp]
  refine And.intro vin (nm_r e1 (And.intro vin (nm_r e2 (And.intro vin (nm_r e3 ?_)))))
  rw [nI_clamp (show i < 2 ^ 31 by omega), gd_sp_hd sf]
  refine And.intro (vp_in_nI (by omega) (by decide)) ?_
  have fin : ∀ k, k = (if gd_hd f = 3 then 4 else 6) → wY_wrapped_51 post (nI v) (nI k) y_parts y_count y_place y_where (nI (gm_n s)) y_variables y_waits y_at y_world y_steps y_blame y_result y_given y_ty y_part y_kind y_end y_state y_with y_runKind y_runEnd y_runWith y_sort y_one y_two (upd y_from (gm_n s) (nI i)) (upd y_to (gm_n s) (nI j)) (upd y_label (gm_n s) (gm_lb p)) y_held y_around y_waiting y_operand y_outer y_kept := by
    intro k ek
    have k128 : k < 128 := by rw [ek]; split <;> decide
    refine gy_make hn k128 ?_
    refine K (8 * gm_n s) (gm_push s (gm_cc s v f t p)) (nI (gm_n s + 1)) (upd y_sort (gm_n s) (nI k)) (upd y_one (gm_n s) (nI v)) (upd y_two (gm_n s) 0) (upd y_from (gm_n s) (nI i)) (upd y_to (gm_n s) (nI j)) (upd y_label (gm_n s) (gm_lb p)) H (by omega) (by omega) (gy_H0_push hH0 hn ?_ ?_)
    · rw [pk_us, pk_us, pk_us, pk_us, pk_us, pk_us]
      have ck : gm_ck (gm_cc s v f t p) = k := ek.symm
      refine ⟨by rw [ck], ?_, ?_, ?_, ?_, ?_⟩
      · rw [ck, ek]; split <;> omega
      · rw [ck, ek]; intro z; split at z <;> omega
      · rw [ck, ek]; intro z; split at z <;> omega
      · rw [ck, ek]; intro z; split at z <;> omega
      · intro _
        refine ⟨rfl, rfl, hp, hf, ht, i, j, rfl, rfl, sf, st, ⟨ri1, ri2⟩, ⟨rj1, rj2⟩, gd_hd f, l, r, l', r', ef, ?_⟩
        rw [← hk.2]
        exact et
    · intro x hx
      rw [pk_un hx, pk_un hx, pk_un hx, pk_un hx, pk_un hx, pk_un hx]
      exact ⟨rfl, rfl, rfl, rfl, rfl, rfl⟩
  have lt := gd_hd_lt hf.1
  refine pk_eq (gd_hd f) 3 (fun z => fin 4 (by rw [if_pos z])) (fun z => fin 6 (by rw [if_neg z]))
end
end
section
/-! ===== 20: the reference's casts ===== -/
/-- the types that are spelled once for all -/
def gy_K (ty : Nat → Int32) : Prop := ty 368 = 0 ∧ ty 369 = 1 ∧ ty 370 = 2 ∧ ty 371 = 3 ∧ ty 372 = 2 ∧ ty 373 = 2 ∧ ty 374 = 4 ∧ ty 375 = 2 ∧ ty 376 = 2
theorem gy_K_0 {ty : Nat → Int32} (h : gy_K ty) : gd_Sp ty (.leaf 0) 368 := h.1
theorem gy_K_1 {ty : Nat → Int32} (h : gy_K ty) : gd_Sp ty (.leaf 1) 369 := h.2.1
theorem gy_K_2 {ty : Nat → Int32} (h : gy_K ty) : gd_Sp ty (.leaf 2) 370 := h.2.2.1
theorem gy_K_3 {ty : Nat → Int32} (h : gy_K ty) : gd_Sp ty (.branch 3 (.leaf 2) (.leaf 2)) 371 := ⟨h.2.2.2.1, h.2.2.2.2.1, h.2.2.2.2.2.1⟩
theorem gy_K_4 {ty : Nat → Int32} (h : gy_K ty) : gd_Sp ty (.branch 4 (.leaf 2) (.leaf 2)) 374 := ⟨h.2.2.2.2.2.2.1, h.2.2.2.2.2.2.2.1, h.2.2.2.2.2.2.2.2⟩
/-- where the tag's type is spelled -/
def gy_g (t : Lean.RArray Nat) : Nat := if gd_hd t = 3 then 371 else 374
theorem gy_g_ok {ty : Nat → Int32} (h : gy_K ty) {t : Lean.RArray Nat} (h3 : gd_hd t = 3 ∨ gd_hd t = 4) : gd_Sp ty (gd_G t) (gy_g t) ∧ gy_RG (gy_g t) (gd_G t) ∧ gd_TY (gd_G t) := by
  unfold gd_G gy_g gy_RG
  rcases h3 with c | c
  · rw [if_pos c, if_pos c]
    exact ⟨gy_K_3 h, by decide, ⟨⟨Or.inl rfl, by simp [gd_vt], by simp [gd_vt]⟩, by decide⟩⟩
  · rw [if_neg (by omega), if_pos c, if_neg (by omega)]
    exact ⟨gy_K_4 h, by decide, ⟨⟨Or.inr rfl, by simp [gd_vt], by simp [gd_vt]⟩, by decide⟩⟩
theorem gy_en {f t : Lean.RArray Nat} (hf : gd_TY f) (ht : gd_TY t) : f = t ↔ gd_en f = gd_en t := ⟨fun z => by rw [z], gd_en_inj hf.1 ht.1⟩
section
variable {y_parts y_count y_place y_where y_values y_variables y_waits y_at y_world y_steps y_blame y_result y_given : Int32} {y_ty y_part y_kind y_end y_state y_with y_runKind y_runEnd y_runWith y_sort y_one y_two y_from y_to y_label y_held y_around y_waiting y_operand y_outer y_kept : Nat → Int32}
theorem gy_cast_88 {post : Int32 → SY → Prop} {f : Lean.RArray Nat} {i w : Nat} (hf : gd_TY f) (f2 : gd_hd f ≠ 2) (sf : gd_Sp y_ty f i) (ri : gy_RG i f) (P : post (nI (w + gm_tag f)) (y_parts, y_count, y_place, y_where, y_values, y_variables, y_waits, y_at, y_world, y_steps, y_blame, y_result, y_given, y_ty, y_part, y_kind, y_end, y_state, y_with, y_runKind, y_runEnd, y_runWith, y_sort, y_one, y_two, y_from, y_to, y_label, y_held, y_around, y_waiting, y_operand, y_outer, y_kept)) : wY_cast_88 post (nI i) (nI w) y_parts y_count y_place y_where y_values y_variables y_waits y_at y_world y_steps y_blame y_result y_given y_ty y_part y_kind y_end y_state y_with y_runKind y_runEnd y_runWith y_sort y_one y_two y_from y_to y_label y_held y_around y_waiting y_operand y_outer y_kept := by
  have z := gd_sz_pos f
  have lt := gd_hd_lt hf.1
  obtain ⟨r1, r2⟩ := ri
  have vin : vp_in (nI i) 700 := vp_in_nI (by omega) (by decide)
  unfold wY_cast_88
  rw [nI_clamp (show i < 2 ^ 31 by omega), gd_sp_hd sf]
  refine And.intro vin (pk_le 2 (gd_hd f) (fun c => And.intro vin ?_) (fun c => And.intro vin ?_))
  · rw [nI_add]
    unfold gm_tag at P
    rw [if_neg (by omega)] at P
    exact P
  · rw [show (1 : Int32) + nI (gd_hd f) = nI (1 + gd_hd f) from nI_add 1 _, nI_add]
    unfold gm_tag at P
    rw [if_pos c] at P
    exact P
theorem gy_cast {post : Int32 → SY → Prop} {s : gm_S} {v : Nat} {f t : Lean.RArray Nat} {p : Int} {out : gm_O} {i j : Nat} (H : gm_cast s v f t p = some out) (hH : gy_H0 y_ty s y_values y_sort y_one y_two y_from y_to y_label) (hK : gy_K y_ty) (sf : gd_Sp y_ty f i) (st : gd_Sp y_ty t j) (ri : gy_RG i f) (rj : gy_RG j t) (hp : gm_PB p)
    (K : ∀ w s' vs so o1 o2 fr to lb, out = (0, w, 0, s') → gy_H0 y_ty s' vs so o1 o2 fr to lb → post (nI w) (y_parts, y_count, y_place, y_where, vs, y_variables, y_waits, y_at, y_world, y_steps, y_blame, y_result, y_given, y_ty, y_part, y_kind, y_end, y_state, y_with, y_runKind, y_runEnd, y_runWith, so, o1, o2, fr, to, lb, y_held, y_around, y_waiting, y_operand, y_outer, y_kept))
    (B : out = (4, v, p, s) → post (nI v) (y_parts, y_count, y_place, y_where, y_values, y_variables, y_waits, y_at, y_world, y_steps, gm_lb p, y_result, y_given, y_ty, y_part, y_kind, y_end, y_state, y_with, y_runKind, y_runEnd, y_runWith, y_sort, y_one, y_two, y_from, y_to, y_label, y_held, y_around, y_waiting, y_operand, y_outer, y_kept)) :
    wpY_cast post (y_parts, y_count, y_place, y_where, y_values, y_variables, y_waits, y_at, y_world, y_steps, y_blame, y_result, y_given, y_ty, y_part, y_kind, y_end, y_state, y_with, y_runKind, y_runEnd, y_runWith, y_sort, y_one, y_two, y_from, y_to, y_label, y_held, y_around, y_waiting, y_operand, y_outer, y_kept) (nI v) (nI i) (nI j) (gm_lb p) := by
  obtain ⟨wk, hf, ht, H⟩ := gm_cast_e H
  obtain ⟨hv, w2, wn⟩ := wk
  have h5 := hH.2.1
  have zf := gd_sz_pos f
  have zt := gd_sz_pos t
  have ltf := gd_hd_lt hf.1
  have ltt := gd_hd_lt ht.1
  have ri' := ri
  have rj' := rj
  obtain ⟨ri1, ri2⟩ := ri'
  obtain ⟨rj1, rj2⟩ := rj'
  have vini : vp_in (nI i) 700 := vp_in_nI (by omega) (by decide)
  have vinj : vp_in (nI j) 700 := vp_in_nI (by omega) (by decide)
  refine gy_same hf ht sf st (by omega) (by omega) (fun e => ?_) (fun e => ?_)
  · rw [if_pos ((gy_en hf ht).mp e)] at H
    injection H with H
    exact br_f (show ¬ (1 : Int32) = 0 by decide) (K v s _ _ _ _ _ _ _ H.symm hH)
  have ne : gd_en f ≠ gd_en t := fun z => e ((gy_en hf ht).mpr z)
  rw [if_neg ne] at H
  refine br_t rfl ?_
  rw [nI_clamp (show j < 2 ^ 31 by omega), nI_clamp (show i < 2 ^ 31 by omega), gd_sp_hd st, gd_sp_hd sf]
  refine And.intro vinj (pk_eq (gd_hd t) 2 (fun t2 => ?_) (fun t2 => ?_))
  · rw [if_pos t2] at H
    have f2 : gd_hd f ≠ 2 := fun z => e (by rw [gm_leaf_of hf.1 (by omega), gm_leaf_of ht.1 (by omega), z, t2])
    have main : ∀ g, (gd_hd f = 3 ∨ gd_hd f = 4 → g = gy_g f) → wY_cast_40 post (nI v) (nI i) (gm_lb p) (nI g) y_parts y_count y_place y_where y_values y_variables y_waits y_at y_world y_steps y_blame y_result y_given y_ty y_part y_kind y_end y_state y_with y_runKind y_runEnd y_runWith y_sort y_one y_two y_from y_to y_label y_held y_around y_waiting y_operand y_outer y_kept := by
      intro g hg
      unfold wY_cast_40
      rw [nI_clamp (show i < 2 ^ 31 by omega), gd_sp_hd sf]
      refine And.intro vini (pk_lt (gd_hd f) 2 (fun l2 => ?_) (fun l2 => ?_))
      · refine br_f (show ¬ (1 : Int32) = 0 by decide) (gy_cast_88 hf f2 sf ri ?_)
        unfold gm_wr at H
        rw [if_pos (by rw [gm_G_leaf hf.1 (by omega)])] at H
        injection H with H
        exact K (v + gm_tag f) s _ _ _ _ _ _ _ H.symm hH
      · have h34 : gd_hd f = 3 ∨ gd_hd f = 4 := by omega
        obtain ⟨sg, rg, tg⟩ := gy_g_ok hK h34
        have eg := hg h34
        subst eg
        have rg' := rg
        obtain ⟨rg1, rg2⟩ := rg'
        have zg := gd_sz_pos (gd_G f)
        refine gy_same hf tg sf sg (by omega) (by omega) (fun e2 => ?_) (fun e2 => ?_)
        · refine br_f (show ¬ (1 : Int32) = 0 by decide) (br_f (show ¬ (1 : Int32) = 0 by decide) (gy_cast_88 hf f2 sf ri ?_))
          unfold gm_wr at H
          rw [if_pos ((gy_en hf tg).mp e2)] at H
          injection H with H
          exact K (v + gm_tag f) s _ _ _ _ _ _ _ H.symm hH
        · refine br_t rfl (br_t rfl (gy_wrapped H (fun z => e2 ((gy_en hf tg).mpr z)) hH hf tg sf sg ri rg hp ?_))
          intro w s' vs so o1 o2 fr to lb eo hm hw hH'
          exact gy_cast_88 hf f2 sf ri (K (w + gm_tag f) s' vs so o1 o2 fr to lb eo hH')
    refine And.intro vini (pk_eq (gd_hd f) 3 (fun c => main 371 (fun _ => ?_)) (fun c => main 374 (fun _ => ?_)))
    · unfold gy_g; rw [if_pos c]
    · unfold gy_g; rw [if_neg c]
  rw [if_neg t2] at H
  refine And.intro vini (pk_eq (gd_hd f) 2 (fun f2 => ?_) (fun f2 => ?_))
  · rw [if_pos f2] at H
    have tl := gm_tag_lt ht.1
    have main : wY_cast_168 post (nI v) (nI j) (gm_lb p) (nI (gm_tag t)) y_parts y_count y_place y_where y_values y_variables y_waits y_at y_world y_steps y_blame y_result y_given y_ty y_part y_kind y_end y_state y_with y_runKind y_runEnd y_runWith y_sort y_one y_two y_from y_to y_label y_held y_around y_waiting y_operand y_outer y_kept := by
      unfold wY_cast_168
      rw [gy_and7 (show v / 8 < 5001 by omega)]
      refine pk_eq (v % 8) (gm_tag t) (fun c => ?_) (fun c => ?_)
      · rw [if_pos c] at H
        rw [nI_clamp (show j < 2 ^ 31 by omega), gd_sp_hd st]
        refine And.intro vinj ?_
        have m2 : ∀ g, (gd_hd t = 3 ∨ gd_hd t = 4 → g = gy_g t) → wY_cast_206 post (nI v) (nI j) (gm_lb p) (nI (gm_tag t)) (nI g) y_parts y_count y_place y_where y_values y_variables y_waits y_at y_world y_steps y_blame y_result y_given y_ty y_part y_kind y_end y_state y_with y_runKind y_runEnd y_runWith y_sort y_one y_two y_from y_to y_label y_held y_around y_waiting y_operand y_outer y_kept := by
          intro g hg
          refine nm_r (pk_sub (by omega)) ?_
          rw [nI_clamp (show j < 2 ^ 31 by omega), gd_sp_hd st]
          refine And.intro vinj (pk_lt (gd_hd t) 2 (fun l2 => ?_) (fun l2 => ?_))
          · unfold gm_wr at H
            rw [if_pos (by rw [gm_G_leaf ht.1 (by omega)])] at H
            injection H with H
            exact K (v - gm_tag t) s _ _ _ _ _ _ _ H.symm hH
          · have h34 : gd_hd t = 3 ∨ gd_hd t = 4 := by omega
            obtain ⟨sg, rg, tg⟩ := gy_g_ok hK h34
            have eg := hg h34
            subst eg
            have rg' := rg
            obtain ⟨rg1, rg2⟩ := rg'
            have zg := gd_sz_pos (gd_G t)
            refine gy_same tg ht sg st (by omega) (by omega) (fun e2 => ?_) (fun e2 => ?_)
            · unfold gm_wr at H
              rw [if_pos ((gy_en tg ht).mp e2)] at H
              injection H with H
              exact br_f (show ¬ (1 : Int32) = 0 by decide) (K (v - gm_tag t) s _ _ _ _ _ _ _ H.symm hH)
            · refine br_t rfl (gy_wrapped H (fun z => e2 ((gy_en tg ht).mpr z)) hH tg ht sg st rg rj hp ?_)
              intro w s' vs so o1 o2 fr to lb eo hm hw hH'
              exact K w s' vs so o1 o2 fr to lb eo hH'
        exact pk_eq (gd_hd t) 3 (fun c3 => m2 371 (fun _ => by unfold gy_g; rw [if_pos c3])) (fun c3 => m2 374 (fun _ => by unfold gy_g; rw [if_neg c3]))
      · rw [if_neg c] at H
        injection H with H
        exact B H.symm
    refine And.intro vinj (pk_le 2 (gd_hd t) (fun c => And.intro vinj ?_) (fun c => And.intro vinj ?_))
    · unfold gm_tag at main
      rw [if_neg (by omega)] at main
      exact main
    · unfold gm_tag at main
      rw [if_pos c] at main
      rw [show (1 : Int32) + nI (gd_hd t) = nI (1 + gd_hd t) from nI_add 1 _]
      exact main
  · rw [if_neg f2] at H
    refine gy_wrapped H ne hH hf ht sf st ri rj hp ?_
    intro w s' vs so o1 o2 fr to lb eo hm hw hH'
    exact K w s' vs so o1 o2 fr to lb eo hH'
end
end
section
/-! ===== 21: the evaluator only adds ===== -/
def gm_LE (s s' : gm_S) : Prop := gm_le s s' ∧ gm_T s ≤ gm_T s' ∧ gm_u s ≤ gm_u s' ∧ (gm_u s ≤ 1000000 → gm_u s' ≤ 1000000)
theorem gm_LE_refl (s : gm_S) : gm_LE s s := ⟨gm_le_refl s, Nat.le_refl _, Nat.le_refl _, fun h => h⟩
theorem gm_LE_trans {a b c : gm_S} (h : gm_LE a b) (g : gm_LE b c) : gm_LE a c := ⟨gm_le_trans h.1 g.1, Nat.le_trans h.2.1 g.2.1, Nat.le_trans h.2.2.1 g.2.2.1, fun z => g.2.2.2 (h.2.2.2 z)⟩
theorem gm_LE_tk (s : gm_S) (h : gm_u s < 1000000) : gm_LE s (gm_tk s) := ⟨gm_le_tk s, Nat.le_refl _, Nat.le_succ _, fun _ => h⟩
theorem gm_LE_st (s : gm_S) : gm_LE s (gm_st s) := ⟨gm_le_st s, Nat.le_succ _, Nat.le_refl _, fun h => h⟩
theorem gm_LE_new {s : gm_S} {c : gm_Cell} {add : Nat} {out : gm_O} (H : gm_new s c add = some out) : gm_LE s out.2.2.2 := by
  obtain ⟨_, H⟩ := gm_new_e H
  subst H
  exact ⟨gm_le_push s c, Nat.le_refl _, Nat.le_refl _, fun h => h⟩
theorem gm_LE_wr {s : gm_S} {v : Nat} {f t : Lean.RArray Nat} {p : Int} {add : Nat} {out : gm_O} (H : gm_wr s v f t p add = some out) : gm_LE s out.2.2.2 := by
  unfold gm_wr at H
  by_cases e : gd_en f = gd_en t
  · rw [if_pos e] at H
    injection H with H
    subst H
    exact gm_LE_refl s
  · rw [if_neg e] at H
    exact gm_LE_new (gm_if_e H).2
theorem gm_LE_cast {s : gm_S} {v : Nat} {f t : Lean.RArray Nat} {p : Int} {out : gm_O} (H : gm_cast s v f t p = some out) : gm_LE s out.2.2.2 := by
  obtain ⟨_, _, _, H⟩ := gm_cast_e H
  by_cases e : gd_en f = gd_en t
  · rw [if_pos e] at H
    injection H with H
    subst H
    exact gm_LE_refl s
  rw [if_neg e] at H
  by_cases t2 : gd_hd t = 2
  · rw [if_pos t2] at H
    exact gm_LE_wr H
  rw [if_neg t2] at H
  by_cases f2 : gd_hd f = 2
  · rw [if_pos f2] at H
    by_cases c : v % 8 = gm_tag t
    · rw [if_pos c] at H
      exact gm_LE_wr H
    · rw [if_neg c] at H
      injection H with H
      subst H
      exact gm_LE_refl s
  · rw [if_neg f2] at H
    exact gm_LE_wr H
theorem gm_LE_fc {s : gm_S} {h v : Nat} {f t : Lean.RArray Nat} {p : Int} {out : gm_O} (H : gm_fc s h v f t p = some out) : gm_LE s out.2.2.2 := by
  unfold gm_fc at H
  by_cases e : gd_en f = gd_en t
  · rw [if_pos e] at H
    injection H with H
    subst H
    exact gm_LE_refl s
  · rw [if_neg e] at H
    exact gm_LE_trans (gm_LE_tk s (gm_tick_e H).1.1) (gm_LE_cast (gm_tick_e H).2)
theorem gm_LE_take {side : Nat} : ∀ (n h v : Nat) (s : gm_S) (out : gm_O), gm_take side n h v s = some out → gm_LE s out.2.2.2 := by
  intro n
  induction n with
  | zero =>
    intro h v s out H
    simp only [gm_take] at H
    have r := (gm_tick_e H).1.1
    obtain ⟨_, H⟩ := gm_if_e (gm_tick_e H).2
    injection H with H
    subst H
    exact gm_LE_tk s r
  | succ n ih =>
    intro h v s out H
    simp only [gm_take] at H
    have r := (gm_tick_e H).1.1
    obtain ⟨_, H⟩ := gm_if_e (gm_tick_e H).2
    refine gm_bd_e H ?_ ?_
    · intro u p s1 e1 H1
      exact gm_LE_trans (gm_LE_tk s r) (gm_LE_trans (ih _ _ _ _ e1) (gm_LE_fc H1))
    · intro e1 _
      exact gm_LE_trans (gm_LE_tk s r) (ih _ _ _ _ e1)
def gm_LF (f : Nat → Nat → Nat → gm_S → Option gm_O) : Prop := ∀ (h i w : Nat) (s : gm_S) (out : gm_O), f h i w s = some out → gm_LE s out.2.2.2
theorem gm_LE_call {f : Nat → Nat → Nat → gm_S → Option gm_O} (hf : gm_LF f) : ∀ (n h g a : Nat) (s : gm_S) (out : gm_O), gm_call f n h g a s = some out → gm_LE s out.2.2.2 := by
  intro n
  induction n with
  | zero =>
    intro h g a s out H
    simp only [gm_call] at H
    have r := (gm_tick_e H).1.1
    obtain ⟨_, H⟩ := gm_if_e (gm_tick_e H).2
    exact gm_LE_trans (gm_LE_tk s r) (gm_LE_trans ⟨gm_le_scope (gm_tk s) _ _, Nat.le_refl _, Nat.le_refl _, fun h => h⟩ (hf _ _ _ _ _ H))
  | succ n ih =>
    intro h g a s out H
    simp only [gm_call] at H
    have r := (gm_tick_e H).1.1
    obtain ⟨_, H⟩ := gm_if_e (gm_tick_e H).2
    refine gm_bd_e H ?_ ?_
    · intro a' p s1 e1 H1
      refine gm_LE_trans (gm_LE_tk s r) (gm_LE_trans (gm_LE_cast e1) ?_)
      refine gm_bd_e H1 ?_ ?_
      · intro u p s2 e2 H2
        exact gm_LE_trans (ih _ _ _ _ _ e2) (gm_LE_fc H2)
      · intro e2 _
        exact ih _ _ _ _ _ e2
    · intro e1 _
      exact gm_LE_trans (gm_LE_tk s r) (gm_LE_cast e1)
theorem gm_LE_opr {P : gm_P} {f : Nat → Nat → Nat → gm_S → Option gm_O} (hf : gm_LF f) {h i k w : Nat} {s : gm_S} {out : gm_O} (H : gm_opr P f h i k w s = some out) : gm_LE s out.2.2.2 := by
  unfold gm_opr at H
  refine gm_bd_e H ?_ ?_
  · intro v p s1 e1 H1
    refine gm_LE_trans (hf _ _ _ _ _ e1) ?_
    refine gm_bd_e H1 ?_ ?_
    · intro v' p' s2 e2 H2
      obtain ⟨r, H2⟩ := gm_tick_e H2
      injection H2 with H2
      subst H2
      exact gm_LE_trans (gm_LE_fc e2) (gm_LE_tk s2 r.1)
    · intro e2 _
      exact gm_LE_fc e2
  · intro e1 _
    exact hf _ _ _ _ _ e1
theorem gm_LE_rest {P : gm_P} {f : Nat → Nat → Nat → gm_S → Option gm_O} (hf : gm_LF f) {h i w v : Nat} {s : gm_S} {out : gm_O} (H : gm_rest P f h i w v s = some out) : gm_LE s out.2.2.2 := by
  unfold gm_rest at H
  by_cases c9 : gm_kd P i = 9 ∨ gm_kd P i = 10
  · rw [if_pos c9] at H
    exact gm_LE_take _ _ _ _ _ H
  rw [if_neg c9] at H
  by_cases c5 : gm_kd P i = 5
  · rw [if_pos c5] at H
    exact gm_LE_opr hf (gm_num_e H).2
  rw [if_neg c5] at H
  by_cases c11 : gm_kd P i = 11
  · rw [if_pos c11] at H
    injection H with H
    subst H
    exact gm_LE_refl s
  rw [if_neg c11] at H
  refine gm_bd_e H ?_ ?_
  · intro v' p' s1 e1 H1
    refine gm_LE_trans (gm_LE_opr hf e1) ?_
    by_cases c4 : gm_kd P i = 4
    · rw [if_pos c4] at H1
      exact gm_LE_call hf _ _ _ _ _ _ (gm_if_e H1).2
    rw [if_neg c4] at H1
    by_cases c6 : gm_kd P i = 6
    · rw [if_pos c6] at H1
      exact gm_LE_new (gm_num_e (gm_num_e H1).2).2
    rw [if_neg c6] at H1
    by_cases c7 : gm_kd P i = 7
    · rw [if_pos c7] at H1
      exact gm_LE_new (gm_num_e (gm_num_e H1).2).2
    rw [if_neg c7] at H1
    exact gm_LE_new (gm_if_e (gm_if_e H1).2).2
  · intro e1 _
    exact gm_LE_opr hf e1
theorem gm_LE_ev {P : gm_P} : ∀ d, gm_LF (gm_ev P d) := by
  intro d
  induction d with
  | zero =>
    intro h i w s out H
    exact absurd H (by simp [gm_ev])
  | succ d ih =>
    intro h i w s out H
    simp only [gm_ev] at H
    obtain ⟨_, H⟩ := gm_if_e H
    have r := (gm_tick_e H).1.1
    obtain ⟨_, H⟩ := gm_tick_e H
    by_cases hT : 40 ≤ gm_T (gm_tk s)
    · rw [if_pos hT] at H
      injection H with H
      subst H
      exact gm_LE_tk s r
    rw [if_neg hT] at H
    refine gm_LE_trans (gm_LE_tk s r) (gm_LE_trans (gm_LE_st (gm_tk s)) ?_)
    by_cases k0 : gm_kd P i = 0
    · rw [if_pos k0] at H
      exact gm_LE_new H
    rw [if_neg k0] at H
    by_cases k1 : gm_kd P i = 1
    · rw [if_pos k1] at H
      exact gm_LE_new H
    rw [if_neg k1] at H
    by_cases k2 : gm_kd P i = 2
    · rw [if_pos k2] at H
      cases hv : gm_var (gm_st (gm_tk s)) (gm_vl P i).toNatClampNeg w with
      | none => rw [hv] at H; exact absurd H (by simp)
      | some v => rw [hv] at H; injection H with H; subst H; exact gm_LE_refl _
    rw [if_neg k2] at H
    by_cases k3 : gm_kd P i = 3
    · rw [if_pos k3] at H
      exact gm_LE_new H
    rw [if_neg k3] at H
    refine gm_bd_e H ?_ ?_
    · intro v p s1 e1 H1
      exact gm_LE_trans (gm_LE_opr ih e1) (gm_LE_rest ih H1)
    · intro e1 _
      exact gm_LE_opr ih e1
/-- the chain of casts from c -/
def gm_wlk (s : gm_S) : Nat → Nat → Nat
  | 0, c => c
  | j + 1, c => gm_wlk s j (gm_ca (gm_h s c) / 8)
theorem gm_wlk_s (s : gm_S) : ∀ j c, gm_wlk s (j + 1) c = gm_ca (gm_h s (gm_wlk s j c)) / 8 := by
  intro j
  induction j with
  | zero => intro c; rfl
  | succ j ih => intro c; exact ih _
/-- the first j cells of the chain are there -/
def gm_CH (s : gm_S) (c j : Nat) : Prop := ∀ i, i < j → gm_wlk s i c < gm_n s
theorem gm_wlk_le {s s' : gm_S} (h : gm_le s s') (c : Nat) : ∀ j, gm_CH s c j → gm_wlk s' j c = gm_wlk s j c := by
  intro j
  induction j with
  | zero => intro _; rfl
  | succ j ih =>
    intro H
    rw [gm_wlk_s, gm_wlk_s, ih (fun i hi => H i (by omega)), h.2.1 _ (H j (by omega))]
theorem gm_CH_le {s s' : gm_S} (h : gm_le s s') {c j : Nat} (H : gm_CH s c j) : gm_CH s' c j := by
  intro i hi
  rw [gm_wlk_le h c i (fun x hx => H x (by omega))]
  exact Nat.lt_of_lt_of_le (H i hi) h.1
theorem gm_cast_code {s : gm_S} {v : Nat} {f t : Lean.RArray Nat} {p : Int} {out : gm_O} (H : gm_cast s v f t p = some out) : out.1 = 0 ∨ out.1 = 4 := by
  obtain ⟨_, _, _, H⟩ := gm_cast_e H
  have wr : ∀ {v : Nat} {f t : Lean.RArray Nat} {add : Nat}, gm_wr s v f t p add = some out → out.1 = 0 := by
    intro v f t add H
    unfold gm_wr at H
    by_cases e : gd_en f = gd_en t
    · rw [if_pos e] at H
      injection H with H
      rw [← H]
    · rw [if_neg e] at H
      obtain ⟨_, H⟩ := gm_new_e (gm_if_e H).2
      rw [H]
  by_cases e : gd_en f = gd_en t
  · rw [if_pos e] at H
    injection H with H
    left; rw [← H]
  rw [if_neg e] at H
  by_cases t2 : gd_hd t = 2
  · rw [if_pos t2] at H
    exact Or.inl (wr H)
  rw [if_neg t2] at H
  by_cases f2 : gd_hd f = 2
  · rw [if_pos f2] at H
    by_cases c : v % 8 = gm_tag t
    · rw [if_pos c] at H
      exact Or.inl (wr H)
    · rw [if_neg c] at H
      injection H with H
      right; rw [← H]
  · rw [if_neg f2] at H
    exact Or.inl (wr H)
theorem gm_fc_code {s : gm_S} {h v : Nat} {f t : Lean.RArray Nat} {p : Int} {out : gm_O} (H : gm_fc s h v f t p = some out) (z : out.1 ≠ 0) (c4 : ¬ out.1 = 4) : False := by
  unfold gm_fc at H
  by_cases e : gd_en f = gd_en t
  · rw [if_pos e] at H
    injection H with H
    exact z (by rw [← H])
  · rw [if_neg e] at H
    rcases gm_cast_code (gm_tick_e H).2 with c | c
    · exact z c
    · exact c4 c
theorem gm_take_code {side : Nat} : ∀ (n h v : Nat) (s : gm_S) (out : gm_O), gm_take side n h v s = some out → out.1 ≠ 0 → out.1 = 4 := by
  intro n
  induction n with
  | zero =>
    intro h v s out H z
    simp only [gm_take] at H
    obtain ⟨_, H⟩ := gm_if_e (gm_tick_e H).2
    injection H with H
    exact absurd (by rw [← H]) z
  | succ n ih =>
    intro h v s out H z
    simp only [gm_take] at H
    obtain ⟨_, H⟩ := gm_if_e (gm_tick_e H).2
    refine gm_bd_e H ?_ ?_
    · intro u p s1 e1 H1
      by_cases q : out.1 = 4
      · exact q
      · exact (gm_fc_code H1 z q).elim
    · intro e1 _
      exact ih _ _ _ _ e1 z
end
section
/-! ===== 22: the reference's machine ===== -/
abbrev gy_D : Type := Int32 × Int32 × Int32 × Int32 × Int32 × Int32 × Int32 × Int32 × (Nat → Int32) × (Nat → Int32) × (Nat → Int32) × (Nat → Int32) × (Nat → Int32) × (Nat → Int32) × (Nat → Int32) × (Nat → Int32) × (Nat → Int32) × (Nat → Int32) × (Nat → Int32) × (Nat → Int32)
def gy_Y (y_parts y_count y_place y_where y_given : Int32) (y_ty y_part y_kind y_end y_state y_with y_runKind y_runEnd y_runWith : Nat → Int32) (D : gy_D) : SY := match D with | (y_values, y_variables, y_waits, y_at, y_world, y_steps, y_blame, y_result, y_sort, y_one, y_two, y_from, y_to, y_label, y_held, y_around, y_waiting, y_operand, y_outer, y_kept) => (y_parts, y_count, y_place, y_where, y_values, y_variables, y_waits, y_at, y_world, y_steps, y_blame, y_result, y_given, y_ty, y_part, y_kind, y_end, y_state, y_with, y_runKind, y_runEnd, y_runWith, y_sort, y_one, y_two, y_from, y_to, y_label, y_held, y_around, y_waiting, y_operand, y_outer, y_kept)
def gy_H (ty : Nat → Int32) (s : gm_S) (D : gy_D) : Prop := match D with | (y_values, y_variables, y_waits, y_at, y_world, y_steps, y_blame, y_result, y_sort, y_one, y_two, y_from, y_to, y_label, y_held, y_around, y_waiting, y_operand, y_outer, y_kept) => gy_H0 ty s y_values y_sort y_one y_two y_from y_to y_label ∧ y_variables = nI (gm_m s - 1) ∧ 1 ≤ gm_m s ∧ gm_m s ≤ 64 ∧ y_steps = nI (gm_T s) ∧ gm_T s ≤ 40 ∧ y_blame = 0 ∧ (∀ w, 0 < w → w < gm_m s → y_held (w - 1) = nI (gm_e s w).1 ∧ y_around (w - 1) = nI (gm_e s w).2 - 1)
def gy_wt (D : gy_D) : Int32 := match D with | (y_values, y_variables, y_waits, y_at, y_world, y_steps, y_blame, y_result, y_sort, y_one, y_two, y_from, y_to, y_label, y_held, y_around, y_waiting, y_operand, y_outer, y_kept) => y_waits
def gy_at (D : gy_D) : Int32 := match D with | (y_values, y_variables, y_waits, y_at, y_world, y_steps, y_blame, y_result, y_sort, y_one, y_two, y_from, y_to, y_label, y_held, y_around, y_waiting, y_operand, y_outer, y_kept) => y_at
def gy_wd (D : gy_D) : Int32 := match D with | (y_values, y_variables, y_waits, y_at, y_world, y_steps, y_blame, y_result, y_sort, y_one, y_two, y_from, y_to, y_label, y_held, y_around, y_waiting, y_operand, y_outer, y_kept) => y_world
def gy_rs (D : gy_D) : Int32 := match D with | (y_values, y_variables, y_waits, y_at, y_world, y_steps, y_blame, y_result, y_sort, y_one, y_two, y_from, y_to, y_label, y_held, y_around, y_waiting, y_operand, y_outer, y_kept) => y_result
def gy_bl (D : gy_D) : Int32 := match D with | (y_values, y_variables, y_waits, y_at, y_world, y_steps, y_blame, y_result, y_sort, y_one, y_two, y_from, y_to, y_label, y_held, y_around, y_waiting, y_operand, y_outer, y_kept) => y_blame
def gy_sp (D : gy_D) : Int32 := match D with | (y_values, y_variables, y_waits, y_at, y_world, y_steps, y_blame, y_result, y_sort, y_one, y_two, y_from, y_to, y_label, y_held, y_around, y_waiting, y_operand, y_outer, y_kept) => y_steps
def gy_fr (D : gy_D) (j : Nat) : Int32 × Int32 × Int32 × Int32 := match D with | (y_values, y_variables, y_waits, y_at, y_world, y_steps, y_blame, y_result, y_sort, y_one, y_two, y_from, y_to, y_label, y_held, y_around, y_waiting, y_operand, y_outer, y_kept) => (y_waiting j, y_operand j, y_outer j, y_kept j)
def gy_A (wc : Nat) (D D' : gy_D) : Prop := ∀ j, j < wc → gy_fr D' j = gy_fr D j
theorem gy_A_refl (wc : Nat) (D : gy_D) : gy_A wc D D := fun _ _ => rfl
theorem gy_A_trans {wc wc' : Nat} {D D' D'' : gy_D} (h : gy_A wc D D') (g : gy_A wc' D' D'') (l : wc ≤ wc') : gy_A wc D D'' := fun j hj => (g j (by omega)).trans (h j hj)
/-- only cells were added -/
def gy_Sm (D D' : gy_D) : Prop := gy_wt D' = gy_wt D ∧ gy_at D' = gy_at D ∧ gy_wd D' = gy_wd D ∧ gy_rs D' = gy_rs D ∧ ∀ j, gy_fr D' j = gy_fr D j
theorem gy_Sm_refl (D : gy_D) : gy_Sm D D := ⟨rfl, rfl, rfl, rfl, fun _ => rfl⟩
theorem gy_Sm_trans {D D' D'' : gy_D} (h : gy_Sm D D') (g : gy_Sm D' D'') : gy_Sm D D'' := ⟨g.1.trans h.1, g.2.1.trans h.2.1, g.2.2.1.trans h.2.2.1, g.2.2.2.1.trans h.2.2.2.1, fun j => (g.2.2.2.2 j).trans (h.2.2.2.2 j)⟩
/-- ended with this answer -/
def gy_clr (D : gy_D) : gy_D := match D with | (y_values, y_variables, y_waits, y_at, y_world, y_steps, y_blame, y_result, y_sort, y_one, y_two, y_from, y_to, y_label, y_held, y_around, y_waiting, y_operand, y_outer, y_kept) => (y_values, y_variables, y_waits, y_at, y_world, y_steps, 0, y_result, y_sort, y_one, y_two, y_from, y_to, y_label, y_held, y_around, y_waiting, y_operand, y_outer, y_kept)
def gy_E (ty : Nat → Int32) (out : gm_O) (D : gy_D) : Prop := gy_sp D = nI (gm_T out.2.2.2) ∧ (out.1 = 4 → gy_bl D = gm_lb out.2.2.1 ∧ gm_PB out.2.2.1) ∧ (out.1 = 5 → gy_bl D = 0) ∧ gy_H ty out.2.2.2 (gy_clr D)
def gy_lp (post : Int32 → SY → Prop) (y_parts y_count y_place y_where y_given : Int32) (y_ty y_part y_kind y_end y_state y_with y_runKind y_runEnd y_runWith : Nat → Int32) (N : Nat) (b m : Int32) (D : gy_D) : Prop := match D with | (y_values, y_variables, y_waits, y_at, y_world, y_steps, y_blame, y_result, y_sort, y_one, y_two, y_from, y_to, y_label, y_held, y_around, y_waiting, y_operand, y_outer, y_kept) => wY_run_146 post N b m y_parts y_count y_place y_where y_values y_variables y_waits y_at y_world y_steps y_blame y_result y_given y_ty y_part y_kind y_end y_state y_with y_runKind y_runEnd y_runWith y_sort y_one y_two y_from y_to y_label y_held y_around y_waiting y_operand y_outer y_kept
def gy_go (post : Int32 → SY → Prop) (y_parts y_count y_place y_where y_given : Int32) (y_ty y_part y_kind y_end y_state y_with y_runKind y_runEnd y_runWith : Nat → Int32) (C : Nat) (b m : Int32) (s : gm_S) (D : gy_D) : Prop := ∀ N, C ≤ N + 2 * gm_u s → gy_lp post y_parts y_count y_place y_where y_given y_ty y_part y_kind y_end y_state y_with y_runKind y_runEnd y_runWith N b m D
def gy_mo (wc : Nat) : Int32 := if wc = 0 then 0 else 1
def gy_M (wp : (Int32 → SY → Prop) → SY → Prop) (y_parts y_count y_place y_where y_given : Int32) (y_ty y_part y_kind y_end y_state y_with y_runKind y_runEnd y_runWith : Nat → Int32) (D : gy_D) (C : Int32 → gy_D → Prop) : Prop := ∀ P : Int32 → SY → Prop, (∀ r D', C r D' → P r (gy_Y y_parts y_count y_place y_where y_given y_ty y_part y_kind y_end y_state y_with y_runKind y_runEnd y_runWith D')) → wp P (gy_Y y_parts y_count y_place y_where y_given y_ty y_part y_kind y_end y_state y_with y_runKind y_runEnd y_runWith D)
def gy_K0 (post : Int32 → SY → Prop) (y_parts y_count y_place y_where y_given : Int32) (y_ty y_part y_kind y_end y_state y_with y_runKind y_runEnd y_runWith : Nat → Int32) (C wc : Nat) (D : gy_D) (out : gm_O) : Prop := ∀ D', out.1 = 0 → gy_H y_ty out.2.2.2 D' → gy_wt D' = nI wc → gy_A wc D D' → gy_rs D' = nI out.2.1 → gy_go post y_parts y_count y_place y_where y_given y_ty y_part y_kind y_end y_state y_with y_runKind y_runEnd y_runWith C 1 (gy_mo wc) out.2.2.2 D'
def gy_KB (post : Int32 → SY → Prop) (y_parts y_count y_place y_where y_given : Int32) (y_ty y_part y_kind y_end y_state y_with y_runKind y_runEnd y_runWith : Nat → Int32) (out : gm_O) : Prop := out.1 ≠ 0 → ∀ D', gy_E y_ty out D' → post (nI out.1) (gy_Y y_parts y_count y_place y_where y_given y_ty y_part y_kind y_end y_state y_with y_runKind y_runEnd y_runWith D')
/-- the loop of an unwinding with j casts to go -/
def gy_un (R0 : Int32 → SY → Prop) (y_parts y_count y_place y_where y_given : Int32) (y_ty y_part y_kind y_end y_state y_with y_runKind y_runEnd y_runWith : Nat → Int32) (f8 part j v : Nat) (D : gy_D) : Prop := match D with | (y_values, y_variables, y_waits, y_at, y_world, y_steps, y_blame, y_result, y_sort, y_one, y_two, y_from, y_to, y_label, y_held, y_around, y_waiting, y_operand, y_outer, y_kept) => ∀ n, j < n → wY_unwind_6 R0 (nI f8) (nI part) n (nI v) (nI j) y_parts y_count y_place y_where y_values y_variables y_waits y_at y_world y_steps y_blame y_result y_given y_ty y_part y_kind y_end y_state y_with y_runKind y_runEnd y_runWith y_sort y_one y_two y_from y_to y_label y_held y_around y_waiting y_operand y_outer y_kept
def gy_pt (part : Nat) (t : Lean.RArray Nat) : Lean.RArray Nat := if part = 1 then gd_lf t else gd_rt t
section
variable {y_parts y_count y_place y_where y_values y_variables y_waits y_at y_world y_steps y_blame y_result y_given : Int32} {y_ty y_part y_kind y_end y_state y_with y_runKind y_runEnd y_runWith y_sort y_one y_two y_from y_to y_label y_held y_around y_waiting y_operand y_outer y_kept : Nat → Int32}
variable {post : Int32 → SY → Prop}
theorem gy_un0 {R0 : Int32 → SY → Prop} {f8 part v : Nat} {D : gy_D} (h : R0 (nI v) (gy_Y y_parts y_count y_place y_where y_given y_ty y_part y_kind y_end y_state y_with y_runKind y_runEnd y_runWith D)) : gy_un R0 y_parts y_count y_place y_where y_given y_ty y_part y_kind y_end y_state y_with y_runKind y_runEnd y_runWith f8 part 0 v D := by
  obtain ⟨y_values, y_variables, y_waits, y_at, y_world, y_steps, y_blame, y_result, y_sort, y_one, y_two, y_from, y_to, y_label, y_held, y_around, y_waiting, y_operand, y_outer, y_kept⟩ := D
  intro n hn
  obtain ⟨n, rfl⟩ : ∃ k, n = k + 1 := ⟨n - 1, by omega⟩
  exact br_t (by rw [nI_0]; exact Int32.le_refl 0) h
theorem gy_unwind {R0 : Int32 → SY → Prop} {f8 part j v : Nat} {D : gy_D} (h : gy_un R0 y_parts y_count y_place y_where y_given y_ty y_part y_kind y_end y_state y_with y_runKind y_runEnd y_runWith f8 part j v D) : wpY_unwind R0 (gy_Y y_parts y_count y_place y_where y_given y_ty y_part y_kind y_end y_state y_with y_runKind y_runEnd y_runWith D) (nI v) (nI f8) (nI j) (nI part) := by
  obtain ⟨y_values, y_variables, y_waits, y_at, y_world, y_steps, y_blame, y_result, y_sort, y_one, y_two, y_from, y_to, y_label, y_held, y_around, y_waiting, y_operand, y_outer, y_kept⟩ := D
  exact Exists.intro (j + 1) (h (j + 1) (Nat.lt_succ_self j))
theorem gy_Sp_l {ty : Nat → Int32} {h i : Nat} {a b : Lean.RArray Nat} (s : gd_Sp ty (.branch h a b) i) (r : gy_RG i (.branch h a b)) : gd_Sp ty a (i + 1) ∧ gy_RG (i + 1) a := by
  unfold gy_RG at *
  simp only [gd_sz] at r
  exact ⟨s.2.1, by omega, by omega⟩
theorem gy_Sp_r {ty : Nat → Int32} {h i : Nat} {a b : Lean.RArray Nat} (s : gd_Sp ty (.branch h a b) i) (r : gy_RG i (.branch h a b)) : gd_Sp ty b (i + 1 + gd_sz a) ∧ gy_RG (i + 1 + gd_sz a) b := by
  unfold gy_RG at *
  simp only [gd_sz] at r
  exact ⟨s.2.2, by omega, by omega⟩
theorem gy_un_walk {R0 : Int32 → SY → Prop} {J6 : Int32 → Int32 → Int32 → Int32 → Int32 → Int32 → Int32 → Int32 → Int32 → Int32 → Int32 → Int32 → Int32 → Int32 → Int32 → (Nat → Int32) → (Nat → Int32) → (Nat → Int32) → (Nat → Int32) → (Nat → Int32) → (Nat → Int32) → (Nat → Int32) → (Nat → Int32) → (Nat → Int32) → (Nat → Int32) → (Nat → Int32) → (Nat → Int32) → (Nat → Int32) → (Nat → Int32) → (Nat → Int32) → (Nat → Int32) → (Nat → Int32) → (Nat → Int32) → (Nat → Int32) → (Nat → Int32) → (Nat → Int32) → Prop} {f8 part j v : Nat} {s : gm_S} (hs : gm_n s ≤ 5000) (h1 : ∀ c, c < gm_n s → gm_ck (gm_h s c) = 4 ∨ gm_ck (gm_h s c) = 6 → y_one c = nI (gm_ca (gm_h s c))) (j5 : j < 1000000)
    (E : ∀ c, gm_wlk s j f8 = c → c < gm_n s → wY_unwind_24 R0 J6 (nI f8) (nI part) (nI v) (nI (j + 1)) y_parts y_count y_place y_where y_values y_variables y_waits y_at y_world y_steps y_blame y_result y_given y_ty y_part y_kind y_end y_state y_with y_runKind y_runEnd y_runWith y_sort y_one y_two y_from y_to y_label y_held y_around y_waiting y_operand y_outer y_kept 1 (nI c) (nI (j + 1))) : ∀ d x c, x + d = j + 1 → 1 ≤ x → gm_wlk s d c = gm_wlk s j f8 → (∀ i, i ≤ d → gm_wlk s i c < gm_n s ∧ (gm_ck (gm_h s (gm_wlk s i c)) = 4 ∨ gm_ck (gm_h s (gm_wlk s i c)) = 6)) → (∀ i, i < d → gm_ca (gm_h s (gm_wlk s i c)) / 8 < 5001) → wY_unwind_24 R0 J6 (nI f8) (nI part) (nI v) (nI (j + 1)) y_parts y_count y_place y_where y_values y_variables y_waits y_at y_world y_steps y_blame y_result y_given y_ty y_part y_kind y_end y_state y_with y_runKind y_runEnd y_runWith y_sort y_one y_two y_from y_to y_label y_held y_around y_waiting y_operand y_outer y_kept (d + 1) (nI c) (nI x) := by
  intro d
  induction d with
  | zero =>
    intro x c hx _ hw hc _
    have e : x = j + 1 := by omega
    subst e
    exact E c hw.symm (hc 0 (Nat.le_refl _)).1
  | succ d ih =>
    intro x c hx x1 hw hc hq
    have c0 := hc 0 (Nat.zero_le _)
    have c0' : c < gm_n s ∧ (gm_ck (gm_h s c) = 4 ∨ gm_ck (gm_h s c) = 6) := c0
    refine br_f (nI_ge (by omega) (by omega)) ?_
    have q0 : gm_ca (gm_h s c) / 8 < 5001 := hq 0 (by omega)
    rw [nI_clamp (show c < 2 ^ 31 by omega), h1 c c0'.1 c0'.2]
    refine And.intro (vp_in_nI (by omega) (by decide)) (And.intro (by decide) (nm_r (gy_div q0) (nm_r (nI_1 x) ?_)))
    exact ih (x + 1) (gm_ca (gm_h s c) / 8) (by omega) (by omega) hw (fun i hi => hc (i + 1) (by omega)) (fun i hi => hq (i + 1) (by omega))
end
end
section
/-! ===== 23: unwinding and taking ===== -/
section
variable {y_parts y_count y_place y_where y_values y_variables y_waits y_at y_world y_steps y_blame y_result y_given : Int32} {y_ty y_part y_kind y_end y_state y_with y_runKind y_runEnd y_runWith y_sort y_one y_two y_from y_to y_label y_held y_around y_waiting y_operand y_outer y_kept : Nat → Int32}
variable {post : Int32 → SY → Prop}
theorem gy_cast_eq {post : Int32 → SY → Prop} {f t : Lean.RArray Nat} {i j : Nat} {v p : Int32} (hf : gd_TY f) (ht : gd_TY t) (e : gd_en f = gd_en t) (sf : gd_Sp y_ty f i) (st : gd_Sp y_ty t j) (ri : gy_RG i f) (rj : gy_RG j t) (P : post v (y_parts, y_count, y_place, y_where, y_values, y_variables, y_waits, y_at, y_world, y_steps, y_blame, y_result, y_given, y_ty, y_part, y_kind, y_end, y_state, y_with, y_runKind, y_runEnd, y_runWith, y_sort, y_one, y_two, y_from, y_to, y_label, y_held, y_around, y_waiting, y_operand, y_outer, y_kept)) : wpY_cast post (y_parts, y_count, y_place, y_where, y_values, y_variables, y_waits, y_at, y_world, y_steps, y_blame, y_result, y_given, y_ty, y_part, y_kind, y_end, y_state, y_with, y_runKind, y_runEnd, y_runWith, y_sort, y_one, y_two, y_from, y_to, y_label, y_held, y_around, y_waiting, y_operand, y_outer, y_kept) v (nI i) (nI j) p := by
  have zf := gd_sz_pos f
  have zt := gd_sz_pos t
  obtain ⟨ri1, ri2⟩ := ri
  obtain ⟨rj1, rj2⟩ := rj
  exact gy_same hf ht sf st (by omega) (by omega) (fun _ => br_f (show ¬ (1 : Int32) = 0 by decide) P) (fun z => absurd ((gy_en hf ht).mpr e) z)
/-- the cast of a frame, in the reference -/
theorem gy_fcast {post : Int32 → SY → Prop} {s : gm_S} {D : gy_D} {h v i j : Nat} {f t : Lean.RArray Nat} {p : Int} {out : gm_O} (H : gm_fc s h v f t p = some out) (hK : gy_K y_ty) (hf : gd_TY f) (ht : gd_TY t) (sf : gd_Sp y_ty f i) (st : gd_Sp y_ty t j) (ri : gy_RG i f) (rj : gy_RG j t) (hp : gm_PB p) (hH : gy_H y_ty s D)
    (K : out.1 = 0 → ∀ D', gy_H y_ty out.2.2.2 D' → gy_Sm D D' → post (nI out.2.1) (gy_Y y_parts y_count y_place y_where y_given y_ty y_part y_kind y_end y_state y_with y_runKind y_runEnd y_runWith D'))
    (B : out.1 ≠ 0 → ∀ x D', gy_E y_ty out D' → gy_Sm D D' → post x (gy_Y y_parts y_count y_place y_where y_given y_ty y_part y_kind y_end y_state y_with y_runKind y_runEnd y_runWith D')) : wpY_cast post (gy_Y y_parts y_count y_place y_where y_given y_ty y_part y_kind y_end y_state y_with y_runKind y_runEnd y_runWith D) (nI v) (nI i) (nI j) (gm_lb p) := by
  unfold gm_fc at H
  obtain ⟨y_values, y_variables, y_waits, y_at, y_world, y_steps, y_blame, y_result, y_sort, y_one, y_two, y_from, y_to, y_label, y_held, y_around, y_waiting, y_operand, y_outer, y_kept⟩ := D
  by_cases e : gd_en f = gd_en t
  · rw [if_pos e] at H
    injection H with H
    subst H
    exact gy_cast_eq hf ht e sf st ri rj (K rfl _ hH (gy_Sm_refl _))
  · rw [if_neg e] at H
    obtain ⟨_, H⟩ := gm_tick_e H
    have same := gm_cast_same H
    obtain ⟨h0, h1, h2, h3, h4, h5, h6, h7⟩ := hH
    refine gy_cast (s := gm_tk s) H h0 hK sf st ri rj hp ?_ ?_
    · intro w s' vs so o1 o2 fr to lb eo hH'
      subst eo
      obtain ⟨m1, m2, m3, m4⟩ := same
      refine K rfl (vs, y_variables, y_waits, y_at, y_world, y_steps, y_blame, y_result, so, o1, o2, fr, to, lb, y_held, y_around, y_waiting, y_operand, y_outer, y_kept) ⟨hH', ?_, ?_, ?_, ?_, ?_, h6, ?_⟩ ⟨rfl, rfl, rfl, rfl, fun _ => rfl⟩
      · rw [h1]
        exact congrArg (fun k => nI (k - 1)) m1.symm
      · show 1 ≤ gm_m s'
        rw [show gm_m s' = gm_m s from m1]; exact h2
      · show gm_m s' ≤ 64
        rw [show gm_m s' = gm_m s from m1]; exact h3
      · exact h4.trans (congrArg nI m3.symm)
      · show gm_T s' ≤ 40
        rw [show gm_T s' = gm_T s from m3]; exact h5
      · intro w' a b
        show y_held (w' - 1) = nI (gm_e s' w').1 ∧ y_around (w' - 1) = nI (gm_e s' w').2 - 1
        rw [show gm_e s' = gm_e s from m2]
        exact h7 w' a (by rw [← show gm_m s' = gm_m s from m1]; exact b)
    · intro eo
      subst eo
      exact B (show (4 : Nat) ≠ 0 by decide) _ (y_values, y_variables, y_waits, y_at, y_world, y_steps, gm_lb p, y_result, y_sort, y_one, y_two, y_from, y_to, y_label, y_held, y_around, y_waiting, y_operand, y_outer, y_kept) ⟨h4, fun _ => ⟨rfl, hp⟩, fun z => absurd (show (4 : Nat) = 5 from z) (by decide), h0, h1, h2, h3, h4, h5, rfl, h7⟩ ⟨rfl, rfl, rfl, rfl, fun _ => rfl⟩
theorem gy_un_step {R0 : Int32 → SY → Prop} {f8 part j h u c : Nat} {s : gm_S} {out : gm_O} {D : gy_D} (H : gm_fc s h u (gy_pt part (gm_cf (gm_h s c))) (gy_pt part (gm_ct (gm_h s c))) (gm_cp (gm_h s c)) = some out) (hw : gm_wlk s j f8 = c) (hc : ∀ i, i ≤ j → gm_wlk s i f8 < gm_n s ∧ (gm_ck (gm_h s (gm_wlk s i f8)) = 4 ∨ gm_ck (gm_h s (gm_wlk s i f8)) = 6)) (hp3 : part < 3) (j5 : j < 1000000) (hK : gy_K y_ty) (hH : gy_H y_ty s D)
    (K : out.1 = 0 → ∀ D', gy_H y_ty out.2.2.2 D' → gy_Sm D D' → gy_un R0 y_parts y_count y_place y_where y_given y_ty y_part y_kind y_end y_state y_with y_runKind y_runEnd y_runWith f8 part j out.2.1 D')
    (B : out.1 ≠ 0 → ∀ x D', gy_E y_ty out D' → gy_rs D' = gy_rs D → R0 x (gy_Y y_parts y_count y_place y_where y_given y_ty y_part y_kind y_end y_state y_with y_runKind y_runEnd y_runWith D')) : gy_un R0 y_parts y_count y_place y_where y_given y_ty y_part y_kind y_end y_state y_with y_runKind y_runEnd y_runWith f8 part (j + 1) u D := by
  obtain ⟨y_values, y_variables, y_waits, y_at, y_world, y_steps, y_blame, y_result, y_sort, y_one, y_two, y_from, y_to, y_label, y_held, y_around, y_waiting, y_operand, y_outer, y_kept⟩ := D
  intro n hn
  obtain ⟨n, rfl⟩ : ∃ k, n = k + 1 := ⟨n - 1, by omega⟩
  have hH0 := hH
  obtain ⟨h0, h1, h2, h3, h4, h5, h6, h7⟩ := hH
  obtain ⟨v0, v5, vc⟩ := h0
  subst h6
  refine br_f (nI_nle (by omega) (by omega)) (br_t rfl (Exists.intro (j + 1) ?_))
  have hcc : c < gm_n s ∧ (gm_ck (gm_h s c) = 4 ∨ gm_ck (gm_h s c) = 6) := by
    have := hc j (Nat.le_refl _)
    rw [hw] at this
    exact this
  refine gy_un_walk (s := s) v5 (fun x hx hk => ((vc x hx).2.2.2.2.2 hk).1) j5 ?_ j 1 f8 (by omega) (Nat.le_refl _) rfl hc ?_
  · intro c' hw' hlt
    have ec : c' = c := hw'.symm.trans hw
    subst ec
    obtain ⟨q1, q2, q3, q4, q5, i0, j0, q6, q7, q8, q9, q10, q11, k, a, b, a', b', ef, et⟩ := (vc c' hcc.1).2.2.2.2.2 hcc.2
    refine br_t (Int32.le_refl _) ?_
    have vin : vp_in (nI c') 5000 := vp_in_nI (by omega) (by decide)
    have zf := gd_sz_pos (gm_cf (gm_h s c'))
    have zt := gd_sz_pos (gm_ct (gm_h s c'))
    obtain ⟨g1, g2⟩ := id q10
    obtain ⟨g3, g4⟩ := id q11
    have fin : ∀ x y : Nat, gd_Sp y_ty (gy_pt part (gm_cf (gm_h s c'))) x → gy_RG x (gy_pt part (gm_cf (gm_h s c'))) → gd_Sp y_ty (gy_pt part (gm_ct (gm_h s c'))) y → gy_RG y (gy_pt part (gm_ct (gm_h s c'))) → gd_TY (gy_pt part (gm_cf (gm_h s c'))) → gd_TY (gy_pt part (gm_ct (gm_h s c'))) → wY_unwind_113 R0 (wY_unwind_6 R0 (nI f8) (nI part) n) (nI f8) (nI part) (nI u) (nI (j + 1)) (nI c') (nI x) (nI y) y_parts y_count y_place y_where y_values y_variables y_waits y_at y_world y_steps 0 y_result y_given y_ty y_part y_kind y_end y_state y_with y_runKind y_runEnd y_runWith y_sort y_one y_two y_from y_to y_label y_held y_around y_waiting y_operand y_outer y_kept := by
      intro x y sx rx sy ry tx ty'
      unfold wY_unwind_113
      rw [nI_clamp (show c' < 2 ^ 31 by omega), q2]
      refine And.intro vin ?_
      refine gy_fcast (D := (y_values, y_variables, y_waits, y_at, y_world, y_steps, 0, y_result, y_sort, y_one, y_two, y_from, y_to, y_label, y_held, y_around, y_waiting, y_operand, y_outer, y_kept)) H hK tx ty' sx sy rx ry q3 hH0 ?_ ?_
      · intro z D' hD' hS
        have k0 := K z D' hD' hS
        obtain ⟨y_values, y_variables, y_waits, y_at, y_world, y_steps, y_blame, y_result, y_sort, y_one, y_two, y_from, y_to, y_label, y_held, y_around, y_waiting, y_operand, y_outer, y_kept⟩ := D'
        exact nm_r (pk_m1 j) (k0 n (by omega))
      · intro z x' D' hE hS
        have b0 := B z x' D' hE hS.2.2.2.1
        have nb : ¬ gy_bl D' = 0 := by
          by_cases c4 : out.1 = 4
          · rw [(hE.2.1 c4).1]
            exact gm_lb_ne (hE.2.1 c4).2
          · exfalso
            exact gm_fc_code H z c4
        obtain ⟨y_values, y_variables, y_waits, y_at, y_world, y_steps, y_blame, y_result, y_sort, y_one, y_two, y_from, y_to, y_label, y_held, y_around, y_waiting, y_operand, y_outer, y_kept⟩ := D'
        obtain ⟨n, rfl⟩ : ∃ k, n = k + 1 := ⟨n - 1, by omega⟩
        exact nm_r (pk_m1 j) (br_c (fun _ => b0) (fun _ => br_f nb b0))
    have e1 : nI i0 + 1 = nI (i0 + 1) := nI_1 i0
    have e2 : nI j0 + 1 = nI (j0 + 1) := nI_1 j0
    have m2 : ∀ x : Nat, gd_Sp y_ty (gy_pt part (gm_cf (gm_h s c'))) x → gy_RG x (gy_pt part (gm_cf (gm_h s c'))) → gd_TY (gy_pt part (gm_cf (gm_h s c'))) → wY_unwind_80 R0 (wY_unwind_6 R0 (nI f8) (nI part) n) (nI f8) (nI part) (nI u) (nI (j + 1)) (nI c') (nI x) y_parts y_count y_place y_where y_values y_variables y_waits y_at y_world y_steps 0 y_result y_given y_ty y_part y_kind y_end y_state y_with y_runKind y_runEnd y_runWith y_sort y_one y_two y_from y_to y_label y_held y_around y_waiting y_operand y_outer y_kept := by
      intro x sx rx tx
      unfold wY_unwind_80
      rw [nI_clamp (show c' < 2 ^ 31 by omega), q7, e2]
      rw [et] at q9 q11 q5
      have l := gy_Sp_l q9 q11
      have r := gy_Sp_r q9 q11
      refine pk_eq part 1 (fun z => And.intro vin ?_) (fun z => And.intro vin ?_)
      · have ep : gy_pt part (gm_ct (gm_h s c')) = a' := by unfold gy_pt; rw [if_pos z, et]; rfl
        exact fin x (j0 + 1) sx rx (by rw [ep]; exact l.1) (by rw [ep]; exact l.2) tx (by rw [ep]; exact gd_TY_l q5)
      · have ep : gy_pt part (gm_ct (gm_h s c')) = b' := by unfold gy_pt; rw [if_neg z, et]; rfl
        refine gy_behind (gd_TY_l q5) l.1 (by have := l.2.2; omega) ?_
        exact fin x (j0 + 1 + gd_sz a') sx rx (by rw [ep]; exact r.1) (by rw [ep]; exact r.2) tx (by rw [ep]; exact gd_TY_r q5)
    rw [nI_clamp (show c' < 2 ^ 31 by omega), q6, e1]
    rw [ef] at q8 q10 q4
    have l := gy_Sp_l q8 q10
    have r := gy_Sp_r q8 q10
    refine pk_eq part 1 (fun z => And.intro vin ?_) (fun z => And.intro vin ?_)
    · have ep : gy_pt part (gm_cf (gm_h s c')) = a := by unfold gy_pt; rw [if_pos z, ef]; rfl
      exact m2 (i0 + 1) (by rw [ep]; exact l.1) (by rw [ep]; exact l.2) (by rw [ep]; exact gd_TY_l q4)
    · have ep : gy_pt part (gm_cf (gm_h s c')) = b := by unfold gy_pt; rw [if_neg z, ef]; rfl
      refine gy_behind (gd_TY_l q4) l.1 (by have := l.2.2; omega) ?_
      exact m2 (i0 + 1 + gd_sz a) (by rw [ep]; exact r.1) (by rw [ep]; exact r.2) (by rw [ep]; exact gd_TY_r q4)
  · intro i hi
    have := (hc (i + 1) (by omega)).1
    rw [gm_wlk_s] at this
    omega
end
end
section
/-! ===== 24: the parts of a pair, and what follows a step of the loop ===== -/
theorem gm_take_lt {side n h v : Nat} {s : gm_S} {out : gm_O} (H : gm_take side n h v s = some out) : v / 8 < gm_n s := by
  cases n with
  | zero =>
    simp only [gm_take] at H
    exact (gm_if_e (gm_tick_e H).2).1.1
  | succ n =>
    simp only [gm_take] at H
    exact (gm_if_e (gm_tick_e H).2).1.1
theorem gm_take_u {side : Nat} : ∀ (n h v : Nat) (s : gm_S) (out : gm_O), gm_take side n h v s = some out → gm_u s + n < 1000000 := by
  intro n
  induction n with
  | zero =>
    intro h v s out H
    simp only [gm_take] at H
    exact (gm_tick_e H).1.1
  | succ n ih =>
    intro h v s out H
    simp only [gm_take] at H
    obtain ⟨_, H⟩ := gm_if_e (gm_tick_e H).2
    have e : gm_u (gm_tk s) = gm_u s + 1 := rfl
    refine gm_bd_e H ?_ ?_
    · intro u p s1 e1 _
      have := ih _ _ _ _ e1
      omega
    · intro e1 _
      have := ih _ _ _ _ e1
      omega
theorem gm_call_lt {f : Nat → Nat → Nat → gm_S → Option gm_O} {n h g a : Nat} {s : gm_S} {out : gm_O} (H : gm_call f n h g a s = some out) : g / 8 < gm_n s := by
  cases n with
  | zero =>
    simp only [gm_call] at H
    exact (gm_if_e (gm_tick_e H).2).1.1
  | succ n =>
    simp only [gm_call] at H
    exact (gm_if_e (gm_tick_e H).2).1.1
theorem gm_call_n {f : Nat → Nat → Nat → gm_S → Option gm_O} {n h g a : Nat} {s : gm_S} {out : gm_O} (H : gm_call f n h g a s = some out) : gm_n s ≤ 5000 := by
  cases n with
  | zero =>
    simp only [gm_call] at H
    exact (gm_tick_e H).1.2.1
  | succ n =>
    simp only [gm_call] at H
    exact (gm_tick_e H).1.2.1
/-- the first j cells of the chain are casts -/
def gm_CC (s : gm_S) (c j : Nat) : Prop := ∀ i, i < j → gm_wlk s i c < gm_n s ∧ (gm_ck (gm_h s (gm_wlk s i c)) = 4 ∨ gm_ck (gm_h s (gm_wlk s i c)) = 6)
theorem gm_CC_CH {s : gm_S} {c j : Nat} (h : gm_CC s c j) : gm_CH s c j := fun i hi => (h i hi).1
theorem gm_CC_le {s s' : gm_S} (h : gm_le s s') {c j : Nat} (H : gm_CC s c j) : gm_CC s' c j := by
  intro i hi
  have a := H i hi
  rw [gm_wlk_le h c i (fun x hx => (H x (by omega)).1), h.2.1 _ a.1]
  exact ⟨Nat.lt_of_lt_of_le a.1 h.1, a.2⟩
theorem gm_CC_s {s : gm_S} {c j : Nat} (H : gm_CC s c j) (h : gm_wlk s j c < gm_n s) (k : gm_ck (gm_h s (gm_wlk s j c)) = 4 ∨ gm_ck (gm_h s (gm_wlk s j c)) = 6) : gm_CC s c (j + 1) := by
  intro i hi
  by_cases e : i = j
  · rw [e]; exact ⟨h, k⟩
  · exact H i (by omega)
def gy_R1 (post : Int32 → SY → Prop) (M : Nat) : Int32 → SY → Prop := fun r u => match u with | (y_parts, y_count, y_place, y_where, y_values, y_variables, y_waits, y_at, y_world, y_steps, y_blame, y_result, y_given, y_ty, y_part, y_kind, y_end, y_state, y_with, y_runKind, y_runEnd, y_runWith, y_sort, y_one, y_two, y_from, y_to, y_label, y_held, y_around, y_waiting, y_operand, y_outer, y_kept) => wY_run_180 post (wY_run_146 post M) r y_parts y_count y_place y_where y_values y_variables y_waits y_at y_world y_steps y_blame y_result y_given y_ty y_part y_kind y_end y_state y_with y_runKind y_runEnd y_runWith y_sort y_one y_two y_from y_to y_label y_held y_around y_waiting y_operand y_outer y_kept
def gy_R2 (post : Int32 → SY → Prop) (M : Nat) : Int32 → SY → Prop := fun r u => narrow .boolean (.int r) = .int r ∧ gy_R1 post M r u
def gy_R3 (post : Int32 → SY → Prop) (M : Nat) : Int32 → SY → Prop := fun r u => wpY_give (gy_R2 post M) u r
def gy_setr (D : gy_D) (x : Int32) : gy_D := match D with | (y_values, y_variables, y_waits, y_at, y_world, y_steps, y_blame, y_result, y_sort, y_one, y_two, y_from, y_to, y_label, y_held, y_around, y_waiting, y_operand, y_outer, y_kept) => (y_values, y_variables, y_waits, y_at, y_world, y_steps, y_blame, x, y_sort, y_one, y_two, y_from, y_to, y_label, y_held, y_around, y_waiting, y_operand, y_outer, y_kept)
section
variable {y_parts y_count y_place y_where y_values y_variables y_waits y_at y_world y_steps y_blame y_result y_given : Int32} {y_ty y_part y_kind y_end y_state y_with y_runKind y_runEnd y_runWith y_sort y_one y_two y_from y_to y_label y_held y_around y_waiting y_operand y_outer y_kept : Nat → Int32}
variable {post : Int32 → SY → Prop}
theorem gy_R1_0 {M : Nat} {D : gy_D} (hb : gy_bl D = 0) (h : gy_lp post y_parts y_count y_place y_where y_given y_ty y_part y_kind y_end y_state y_with y_runKind y_runEnd y_runWith M 0 1 D) : gy_R1 post M 0 (gy_Y y_parts y_count y_place y_where y_given y_ty y_part y_kind y_end y_state y_with y_runKind y_runEnd y_runWith D) := by
  obtain ⟨y_values, y_variables, y_waits, y_at, y_world, y_steps, y_blame, y_result, y_sort, y_one, y_two, y_from, y_to, y_label, y_held, y_around, y_waiting, y_operand, y_outer, y_kept⟩ := D
  exact br_t hb (br_t rfl h)
theorem gy_R1_1 {M wc : Nat} {D : gy_D} (hw : wc < 300) (hb : gy_bl D = 0) (hwt : gy_wt D = nI wc) (h : gy_lp post y_parts y_count y_place y_where y_given y_ty y_part y_kind y_end y_state y_with y_runKind y_runEnd y_runWith M 1 (gy_mo wc) D) : gy_R1 post M 1 (gy_Y y_parts y_count y_place y_where y_given y_ty y_part y_kind y_end y_state y_with y_runKind y_runEnd y_runWith D) := by
  obtain ⟨y_values, y_variables, y_waits, y_at, y_world, y_steps, y_blame, y_result, y_sort, y_one, y_two, y_from, y_to, y_label, y_held, y_around, y_waiting, y_operand, y_outer, y_kept⟩ := D
  have e : y_waits = nI wc := hwt
  subst e
  refine br_t hb (br_f (show ¬ (1 : Int32) = 0 by decide) ?_)
  unfold gy_mo at h
  refine pk_le wc 0 (fun z => ?_) (fun z => ?_)
  · rw [if_pos (by omega)] at h; exact h
  · rw [if_neg (by omega)] at h; exact h
theorem gy_R1_B {M : Nat} {x : Int32} {D : gy_D} (hb : ¬ gy_bl D = 0) (h : post 4 (gy_Y y_parts y_count y_place y_where y_given y_ty y_part y_kind y_end y_state y_with y_runKind y_runEnd y_runWith D)) : gy_R1 post M x (gy_Y y_parts y_count y_place y_where y_given y_ty y_part y_kind y_end y_state y_with y_runKind y_runEnd y_runWith D) := by
  obtain ⟨y_values, y_variables, y_waits, y_at, y_world, y_steps, y_blame, y_result, y_sort, y_one, y_two, y_from, y_to, y_label, y_held, y_around, y_waiting, y_operand, y_outer, y_kept⟩ := D
  exact br_f hb h
theorem gy_R3_1 {M wc : Nat} {v : Nat} {D : gy_D} (hw : wc < 300) (hb : gy_bl D = 0) (hwt : gy_wt D = nI wc) (h : gy_lp post y_parts y_count y_place y_where y_given y_ty y_part y_kind y_end y_state y_with y_runKind y_runEnd y_runWith M 1 (gy_mo wc) (gy_setr D (nI v))) : gy_R3 post M (nI v) (gy_Y y_parts y_count y_place y_where y_given y_ty y_part y_kind y_end y_state y_with y_runKind y_runEnd y_runWith D) := by
  have := gy_R1_1 (post := post) (D := gy_setr D (nI v)) (M := M) hw (by obtain ⟨y_values, y_variables, y_waits, y_at, y_world, y_steps, y_blame, y_result, y_sort, y_one, y_two, y_from, y_to, y_label, y_held, y_around, y_waiting, y_operand, y_outer, y_kept⟩ := D; exact hb) (by obtain ⟨y_values, y_variables, y_waits, y_at, y_world, y_steps, y_blame, y_result, y_sort, y_one, y_two, y_from, y_to, y_label, y_held, y_around, y_waiting, y_operand, y_outer, y_kept⟩ := D; exact hwt) h
  obtain ⟨y_values, y_variables, y_waits, y_at, y_world, y_steps, y_blame, y_result, y_sort, y_one, y_two, y_from, y_to, y_label, y_held, y_around, y_waiting, y_operand, y_outer, y_kept⟩ := D
  exact And.intro rfl this
theorem gy_R3_B {M : Nat} {x : Int32} {D : gy_D} (hb : ¬ gy_bl D = 0) (h : post 4 (gy_Y y_parts y_count y_place y_where y_given y_ty y_part y_kind y_end y_state y_with y_runKind y_runEnd y_runWith (gy_setr D x))) : gy_R3 post M x (gy_Y y_parts y_count y_place y_where y_given y_ty y_part y_kind y_end y_state y_with y_runKind y_runEnd y_runWith D) := by
  have := gy_R1_B (post := post) (D := gy_setr D x) (M := M) (x := 1) (by obtain ⟨y_values, y_variables, y_waits, y_at, y_world, y_steps, y_blame, y_result, y_sort, y_one, y_two, y_from, y_to, y_label, y_held, y_around, y_waiting, y_operand, y_outer, y_kept⟩ := D; exact hb) h
  obtain ⟨y_values, y_variables, y_waits, y_at, y_world, y_steps, y_blame, y_result, y_sort, y_one, y_two, y_from, y_to, y_label, y_held, y_around, y_waiting, y_operand, y_outer, y_kept⟩ := D
  exact And.intro rfl this
theorem gy_take_l {R0 : Int32 → SY → Prop} {side x1 : Nat} (h2 : side < 2) (hx1 : x1 / 8 < 5001) (hK : gy_K y_ty) : ∀ (n j h v : Nat) (s : gm_S) (out : gm_O) (D : gy_D), gm_take side n h v s = some out → gm_wlk s j (x1 / 8) = v / 8 → gm_CC s (x1 / 8) j → gy_H y_ty s D → j + n < 1000000 →
    (out.1 = 0 → ∀ D', gy_H y_ty out.2.2.2 D' → gy_Sm D D' → gy_un R0 y_parts y_count y_place y_where y_given y_ty y_part y_kind y_end y_state y_with y_runKind y_runEnd y_runWith (x1 / 8) (if side = 0 then 1 else 2) j out.2.1 D') → (out.1 ≠ 0 → ∀ x D', gy_E y_ty out D' → gy_rs D' = gy_rs D → R0 x (gy_Y y_parts y_count y_place y_where y_given y_ty y_part y_kind y_end y_state y_with y_runKind y_runEnd y_runWith D')) →
    ∀ N, n < N → (match D with | (y_values, y_variables, y_waits, y_at, y_world, y_steps, y_blame, y_result, y_sort, y_one, y_two, y_from, y_to, y_label, y_held, y_around, y_waiting, y_operand, y_outer, y_kept) => wY_partOf_8 R0 (nI x1) (if side = 0 then 1 else 0) y_parts y_count y_place y_where y_values y_variables y_waits y_at y_world y_steps y_blame y_result y_given y_ty y_part y_kind y_end y_state y_with y_runKind y_runEnd y_runWith y_sort y_one y_two y_from y_to y_label y_held y_around y_waiting y_operand y_outer y_kept N (nI (v / 8)) (nI j)) := by
  intro n
  induction n with
  | zero =>
    intro j h v s out D H hw hC hH hj K B N hN
    simp only [gm_take] at H
    obtain ⟨_, H⟩ := gm_tick_e H
    obtain ⟨⟨hv, hk⟩, H⟩ := gm_if_e H
    injection H with H
    subst H
    have k0 := K rfl D hH (gy_Sm_refl D)
    have un := gy_unwind k0
    obtain ⟨y_values, y_variables, y_waits, y_at, y_world, y_steps, y_blame, y_result, y_sort, y_one, y_two, y_from, y_to, y_label, y_held, y_around, y_waiting, y_operand, y_outer, y_kept⟩ := D
    obtain ⟨N, rfl⟩ : ∃ k, N = k + 1 := ⟨N - 1, by omega⟩
    obtain ⟨⟨v0, v5, vc⟩, _⟩ := hH
    have hv' : v / 8 < gm_n s := hv
    have hk' : gm_ck (gm_h s (v / 8)) = 5 := hk
    have cv := vc _ hv'
    have vin : vp_in (nI (v / 8)) 5000 := vp_in_nI (by omega) (by decide)
    have c5 := cv.2.2.2.2.1 hk'
    show vp_in (nI (v / 8)) 5000 ∧ _
    rw [nI_clamp (show v / 8 < 2 ^ 31 by omega), cv.1, c5.1, c5.2, hk']
    refine And.intro vin (br_f (show ¬ nI 5 = 6 by decide) ?_)
    by_cases hs : side = 0
    · rw [if_pos hs]
      rw [if_pos hs] at un
      refine br_f (show ¬ (1 : Int32) = 0 by decide) (And.intro vin (And.intro (by decide) (br_f (show ¬ (1 : Int32) = 0 by decide) ?_)))
      rw [gy_div hx1]
      simp only [if_pos hs] at un
      exact un
    · rw [if_neg hs]
      rw [if_neg hs] at un
      refine br_t rfl (And.intro vin (And.intro (by decide) (br_t rfl ?_)))
      rw [gy_div hx1]
      simp only [if_neg hs] at un
      exact un
  | succ n ih =>
    intro j h v s out D H hw hC hH hj K B N hN
    simp only [gm_take] at H
    obtain ⟨_, H⟩ := gm_tick_e H
    obtain ⟨⟨hv, hk⟩, H⟩ := gm_if_e H
    have hv' : v / 8 < gm_n s := hv
    have hk' : gm_ck (gm_h s (v / 8)) = 6 := hk
    have hCs : gm_CC s (x1 / 8) (j + 1) := gm_CC_s hC (by rw [hw]; exact hv') (by rw [hw]; exact Or.inr hk')
    have wtk : ∀ i, i ≤ j + 1 → gm_wlk (gm_tk s) i (x1 / 8) = gm_wlk s i (x1 / 8) := fun i hi => gm_wlk_le (gm_le_tk s) _ i (fun x hx => (hCs x (by omega)).1)
    have hw1 : gm_wlk (gm_tk s) (j + 1) (x1 / 8) = gm_ca (gm_h s (v / 8)) / 8 := by rw [wtk (j + 1) (Nat.le_refl _), gm_wlk_s, hw]
    have hC1 : gm_CC (gm_tk s) (x1 / 8) (j + 1) := gm_CC_le (gm_le_tk s) hCs
    have main : ∀ N, n < N → (match D with | (y_values, y_variables, y_waits, y_at, y_world, y_steps, y_blame, y_result, y_sort, y_one, y_two, y_from, y_to, y_label, y_held, y_around, y_waiting, y_operand, y_outer, y_kept) => wY_partOf_8 R0 (nI x1) (if side = 0 then 1 else 0) y_parts y_count y_place y_where y_values y_variables y_waits y_at y_world y_steps y_blame y_result y_given y_ty y_part y_kind y_end y_state y_with y_runKind y_runEnd y_runWith y_sort y_one y_two y_from y_to y_label y_held y_around y_waiting y_operand y_outer y_kept N (nI (gm_ca (gm_h s (v / 8)) / 8)) (nI (j + 1))) ∧ gm_ca (gm_h s (v / 8)) / 8 < gm_n s := by
      intro N hN
      refine gm_bd_e H ?_ ?_
      · intro u p s1 e1 H2
        refine ⟨ih (j + 1) (h + 1) (gm_ca (gm_h s (v / 8))) (gm_tk s) (0, u, p, s1) D e1 hw1 hC1 hH (by omega) ?_ (fun z => absurd rfl z) N hN, gm_take_lt (s := gm_tk s) e1⟩
        intro _ D' hD' hS
        have le1 : gm_le (gm_tk s) s1 := (gm_LE_take _ _ _ _ _ e1).1
        have eh : gm_h s1 (v / 8) = gm_h s (v / 8) := le1.2.1 _ hv
        have wj : gm_wlk s1 j (x1 / 8) = v / 8 := by rw [gm_wlk_le le1 _ j (fun x hx => (hC1 x (by omega)).1), wtk j (by omega), hw]
        have hCC := gm_CC_le le1 hC1
        refine gy_un_step (s := s1) (h := h + 1) (c := v / 8) (out := out) ?_ wj (fun i hi => hCC i (by omega)) (by split <;> decide) (by omega) hK hD' ?_ (fun z x D'' hE hr => B z x D'' hE (hr.trans hS.2.2.2.1))
        · rw [eh]
          unfold gy_pt
          by_cases hs : side = 0
          · simp only [if_pos hs] at H2 ⊢
            exact H2
          · simp only [if_neg hs] at H2 ⊢
            exact H2
        · intro z D'' hD'' hS'
          exact K z D'' hD'' (gy_Sm_trans hS hS')
      · intro e1 nz
        exact ⟨ih (j + 1) (h + 1) (gm_ca (gm_h s (v / 8))) (gm_tk s) out D e1 hw1 hC1 hH (by omega) (fun z => absurd z nz) B N hN, gm_take_lt (s := gm_tk s) e1⟩
    obtain ⟨y_values, y_variables, y_waits, y_at, y_world, y_steps, y_blame, y_result, y_sort, y_one, y_two, y_from, y_to, y_label, y_held, y_around, y_waiting, y_operand, y_outer, y_kept⟩ := D
    obtain ⟨N, rfl⟩ : ∃ k, N = k + 1 := ⟨N - 1, by omega⟩
    obtain ⟨m1, m2⟩ := main N (by omega)
    obtain ⟨⟨v0, v5, vc⟩, _⟩ := hH
    have cv := vc _ hv'
    have vin : vp_in (nI (v / 8)) 5000 := vp_in_nI (by omega) (by decide)
    show vp_in (nI (v / 8)) 5000 ∧ _
    rw [nI_clamp (show v / 8 < 2 ^ 31 by omega), cv.1, hk', (cv.2.2.2.2.2 (Or.inr hk')).1]
    exact And.intro vin (br_t rfl (And.intro vin (And.intro (by decide) (nm_r (gy_div (by omega)) (nm_r (nI_1 j) m1)))))
theorem gy_partOf {R0 : Int32 → SY → Prop} {side n h v : Nat} {s : gm_S} {out : gm_O} {D : gy_D} (h2 : side < 2) (hK : gy_K y_ty) (H : gm_take side n h v s = some out) (hH : gy_H y_ty s D)
    (K : out.1 = 0 → ∀ D', gy_H y_ty out.2.2.2 D' → gy_Sm D D' → R0 (nI out.2.1) (gy_Y y_parts y_count y_place y_where y_given y_ty y_part y_kind y_end y_state y_with y_runKind y_runEnd y_runWith D')) (B : out.1 ≠ 0 → ∀ x D', gy_E y_ty out D' → gy_rs D' = gy_rs D → R0 x (gy_Y y_parts y_count y_place y_where y_given y_ty y_part y_kind y_end y_state y_with y_runKind y_runEnd y_runWith D')) : wpY_partOf R0 (gy_Y y_parts y_count y_place y_where y_given y_ty y_part y_kind y_end y_state y_with y_runKind y_runEnd y_runWith D) (nI v) (if side = 0 then 1 else 0) := by
  have lt := gm_take_lt H
  have hn := gm_take_u _ _ _ _ _ H
  have n5 : gm_n s ≤ 5000 := by
    obtain ⟨y_values, y_variables, y_waits, y_at, y_world, y_steps, y_blame, y_result, y_sort, y_one, y_two, y_from, y_to, y_label, y_held, y_around, y_waiting, y_operand, y_outer, y_kept⟩ := D
    exact hH.1.2.1
  have main := gy_take_l (R0 := R0) (x1 := v) h2 (by omega) hK n 0 h v s out D H rfl (fun i hi => absurd hi (Nat.not_lt_zero _)) hH (by omega) (fun z D' a b => gy_un0 (K z D' a b)) B (n + 1) (Nat.lt_succ_self n)
  obtain ⟨y_values, y_variables, y_waits, y_at, y_world, y_steps, y_blame, y_result, y_sort, y_one, y_two, y_from, y_to, y_label, y_held, y_around, y_waiting, y_operand, y_outer, y_kept⟩ := D
  exact And.intro (by decide) (nm_r (gy_div (by omega)) (Exists.intro (n + 1) main))
end
end
section
/-! ===== 25: calls in the reference ===== -/
def gy_setw (D : gy_D) (x : Int32) : gy_D := match D with | (y_values, y_variables, y_waits, y_at, y_world, y_steps, y_blame, y_result, y_sort, y_one, y_two, y_from, y_to, y_label, y_held, y_around, y_waiting, y_operand, y_outer, y_kept) => (y_values, y_variables, x, y_at, y_world, y_steps, y_blame, y_result, y_sort, y_one, y_two, y_from, y_to, y_label, y_held, y_around, y_waiting, y_operand, y_outer, y_kept)
/-- what is known of the evaluator with less fuel -/
def gy_IH (post : Int32 → SY → Prop) (y_parts y_count y_place y_where y_given : Int32) (y_ty y_part y_kind y_end y_state y_with y_runKind y_runEnd y_runWith : Nat → Int32) (f : Nat → Nat → Nat → gm_S → Option gm_O) : Prop :=
  ∀ (h i w : Nat) (s : gm_S) (out : gm_O) (D : gy_D) (C wc : Nat), f h i w s = some out → 2000004 ≤ C → gm_u s ≤ 1000000 → gy_H y_ty s D → gy_wt D = nI wc → wc ≤ gm_T s → gy_at D = nI i → gy_wd D = nI w - 1 → gy_K0 post y_parts y_count y_place y_where y_given y_ty y_part y_kind y_end y_state y_with y_runKind y_runEnd y_runWith C wc D out → gy_KB post y_parts y_count y_place y_where y_given y_ty y_part y_kind y_end y_state y_with y_runKind y_runEnd y_runWith out → gy_go post y_parts y_count y_place y_where y_given y_ty y_part y_kind y_end y_state y_with y_runKind y_runEnd y_runWith C 0 1 s D
section
variable {y_parts y_count y_place y_where y_values y_variables y_waits y_at y_world y_steps y_blame y_result y_given : Int32} {y_ty y_part y_kind y_end y_state y_with y_runKind y_runEnd y_runWith y_sort y_one y_two y_from y_to y_label y_held y_around y_waiting y_operand y_outer y_kept : Nat → Int32}
variable {post : Int32 → SY → Prop}
theorem gy_ret {C wc J f8 v : Nat} {s : gm_S} {D : gy_D} (hu : gm_u s ≤ 1000000) (hC : 2000004 ≤ C) (hwt : gy_wt D = nI (wc + 1)) (hw : wc < 299) (hfr : gy_fr D wc = (-1, 0, nI f8, nI J)) (hrs : gy_rs D = nI v) (U : ∀ M, C ≤ M + 2 * gm_u s → gy_un (gy_R3 post M) y_parts y_count y_place y_where y_given y_ty y_part y_kind y_end y_state y_with y_runKind y_runEnd y_runWith f8 0 J v (gy_setw D (nI wc))) : gy_go post y_parts y_count y_place y_where y_given y_ty y_part y_kind y_end y_state y_with y_runKind y_runEnd y_runWith (C + 1) 1 (gy_mo (wc + 1)) s D := by
  intro N hN
  obtain ⟨N, rfl⟩ : ∃ k, N = k + 1 := ⟨N - 1, by omega⟩
  have un := gy_unwind (U N (by omega))
  obtain ⟨y_values, y_variables, y_waits, y_at, y_world, y_steps, y_blame, y_result, y_sort, y_one, y_two, y_from, y_to, y_label, y_held, y_around, y_waiting, y_operand, y_outer, y_kept⟩ := D
  have e1 : y_waits = nI (wc + 1) := hwt
  have e2 : y_result = nI v := hrs
  subst e1 e2
  have hfr' : (y_waiting wc, y_operand wc, y_outer wc, y_kept wc) = ((-1 : Int32), (0 : Int32), nI f8, nI J) := hfr
  injection hfr' with f0 f1
  injection f1 with f1 f2
  injection f2 with f2 f3
  have vin : vp_in (nI wc) 300 := vp_in_nI (by omega) (by decide)
  have em : gy_mo (wc + 1) = 1 := by unfold gy_mo; rw [if_neg (by omega)]
  rw [em]
  refine br_f (show ¬ (1 : Int32) = 0 by decide) (br_f (show ¬ (1 : Int32) = 0 by decide) (br_f (show ¬ (1 : Int32) = 0 by decide) (nm_r (nI_pred wc) ?_)))
  rw [nI_clamp (show wc < 2 ^ 31 by omega), f0, f2, f3]
  exact And.intro vin (nm_e (br_f (show ¬ (0 : Int32) ≤ -1 by decide) (And.intro vin (And.intro vin un))))
theorem gy_later {post : SY → Prop} {wc : Nat} (hw : wc < 300) {a b c d : Int32} (ha : vp_nar .byte a.toInt8.toInt32 = a) (hb : vp_nar .byte b.toInt8.toInt32 = b) (P : post (y_parts, y_count, y_place, y_where, y_values, y_variables, nI (wc + 1), y_at, y_world, y_steps, y_blame, y_result, y_given, y_ty, y_part, y_kind, y_end, y_state, y_with, y_runKind, y_runEnd, y_runWith, y_sort, y_one, y_two, y_from, y_to, y_label, y_held, y_around, upd y_waiting wc a, upd y_operand wc b, upd y_outer wc c, upd y_kept wc d)) : wpY_later post (y_parts, y_count, y_place, y_where, y_values, y_variables, nI wc, y_at, y_world, y_steps, y_blame, y_result, y_given, y_ty, y_part, y_kind, y_end, y_state, y_with, y_runKind, y_runEnd, y_runWith, y_sort, y_one, y_two, y_from, y_to, y_label, y_held, y_around, y_waiting, y_operand, y_outer, y_kept) a b c d := by
  have e : (nI wc).toNatClampNeg = wc := nI_clamp (by omega)
  have vin : vp_in (nI wc) 300 := vp_in_nI hw (by decide)
  have e1 : upd y_waiting (nI wc).toNatClampNeg (vp_nar .byte a.toInt8.toInt32) = upd y_waiting wc a := by rw [e, ha]
  have e2 : upd y_operand (nI wc).toNatClampNeg (vp_nar .byte b.toInt8.toInt32) = upd y_operand wc b := by rw [e, hb]
  exact And.intro vin (nm_r e1 (And.intro vin (nm_r e2 (And.intro vin (nm_r (congrArg (fun k => upd y_outer k c) e) (nm_r (nI_1 wc) (And.intro vin (nm_r (congrArg (fun k => upd y_kept k d) e) P))))))))
theorem gy_call_l {f : Nat → Nat → Nat → gm_S → Option gm_O} (hf : gy_IH post y_parts y_count y_place y_where y_given y_ty y_part y_kind y_end y_state y_with y_runKind y_runEnd y_runWith f) (hlf : gm_LF f) (hK : gy_K y_ty) {x1 C wc M : Nat} {D0 : gy_D} (hx1 : x1 / 8 < 5001) (hC : 2000004 ≤ C) (hwc : wc < 100) :
    ∀ (n j h g a : Nat) (s : gm_S) (out : gm_O) (D : gy_D), gm_call f n h g a s = some out → C + 1 ≤ M + 2 * gm_u s → wc + 1 ≤ gm_T s → gm_wlk s j (x1 / 8) = g / 8 → gm_CC s (x1 / 8) j → gy_H y_ty s D → gy_wt D = nI wc → gy_A wc D0 D → j + n < 1000000 →
    (j = 0 → gy_K0 post y_parts y_count y_place y_where y_given y_ty y_part y_kind y_end y_state y_with y_runKind y_runEnd y_runWith C wc D0 out) →
    (∀ M', C ≤ M' + 2 * gm_u out.2.2.2 → out.1 = 0 → ∀ D', gy_H y_ty out.2.2.2 D' → gy_wt D' = nI wc → gy_A wc D0 D' → gy_un (gy_R3 post M') y_parts y_count y_place y_where y_given y_ty y_part y_kind y_end y_state y_with y_runKind y_runEnd y_runWith (x1 / 8) 0 j out.2.1 D') →
    gy_KB post y_parts y_count y_place y_where y_given y_ty y_part y_kind y_end y_state y_with y_runKind y_runEnd y_runWith out →
    ∀ N, n < N → (match D with | (y_values, y_variables, y_waits, y_at, y_world, y_steps, y_blame, y_result, y_sort, y_one, y_two, y_from, y_to, y_label, y_held, y_around, y_waiting, y_operand, y_outer, y_kept) => wY_call_11 (gy_R2 post M) (nI x1) N (nI a) (nI (g / 8)) (nI j) y_parts y_count y_place y_where y_values y_variables y_waits y_at y_world y_steps y_blame y_result y_given y_ty y_part y_kind y_end y_state y_with y_runKind y_runEnd y_runWith y_sort y_one y_two y_from y_to y_label y_held y_around y_waiting y_operand y_outer y_kept) := by
  intro n
  induction n with
  | zero =>
    intro j h g a s out D H hM hT hw hCC hH hwt hA hj K0 KU KB N hN
    simp only [gm_call] at H
    obtain ⟨⟨r1, r2, r3, r4⟩, H⟩ := gm_tick_e H
    obtain ⟨⟨hv, hk⟩, H⟩ := gm_if_e H
    have hv' : g / 8 < gm_n s := hv
    have hk' : gm_ck (gm_h s (g / 8)) = 3 := hk
    have le1 := (hlf _ _ _ _ _ H)
    have goBody := fun D' C' wc' a1 a2 a3 a4 a5 a6 a7 a8 => hf h (gm_ca (gm_h s (g / 8)) + 1) (gm_m s) (gm_scope (gm_tk s) a (gm_cb (gm_h s (g / 8)))) out D' C' wc' H a1 a2 a3 a4 a5 a6 a7 a8 KB
    obtain ⟨y_values, y_variables, y_waits, y_at, y_world, y_steps, y_blame, y_result, y_sort, y_one, y_two, y_from, y_to, y_label, y_held, y_around, y_waiting, y_operand, y_outer, y_kept⟩ := D
    obtain ⟨N, rfl⟩ : ∃ k, N = k + 1 := ⟨N - 1, by omega⟩
    obtain ⟨⟨v0, v5, vc⟩, h1, h2, h3, h4, h5, h6, h7⟩ := hH
    have e1 : y_waits = nI wc := hwt
    subst e1 h1 h6
    have cv := vc _ hv'
    have c3 := cv.2.2.2.1 hk'
    have vin : vp_in (nI (g / 8)) 5000 := vp_in_nI (by omega) (by decide)
    have vinm : vp_in (nI (gm_m s - 1)) 100 := vp_in_nI (by omega) (by decide)
    have em : (nI (gm_m s - 1)).toNatClampNeg = gm_m s - 1 := nI_clamp (by omega)
    have em1 : nI (gm_m s - 1) + 1 = nI (gm_m s) := by rw [nI_1]; exact congrArg nI (by omega)
    have emw : nI (gm_m s) - 1 = nI (gm_m s - 1) := pk_sub (b := 1) h2
    have fin : ∀ (wt : Int32) (wa op ou ke : Nat → Int32), (gy_H y_ty (gm_scope (gm_tk s) a (gm_cb (gm_h s (g / 8)))) (y_values, nI (gm_m s), wt, nI (gm_ca (gm_h s (g / 8)) + 1), nI (gm_m s - 1), y_steps, 0, y_result, y_sort, y_one, y_two, y_from, y_to, y_label, upd y_held (gm_m s - 1) (nI a), upd y_around (gm_m s - 1) (nI (gm_cb (gm_h s (g / 8))) - 1), wa, op, ou, ke) → gy_lp post y_parts y_count y_place y_where y_given y_ty y_part y_kind y_end y_state y_with y_runKind y_runEnd y_runWith M 0 1 (y_values, nI (gm_m s), wt, nI (gm_ca (gm_h s (g / 8)) + 1), nI (gm_m s - 1), y_steps, 0, y_result, y_sort, y_one, y_two, y_from, y_to, y_label, upd y_held (gm_m s - 1) (nI a), upd y_around (gm_m s - 1) (nI (gm_cb (gm_h s (g / 8))) - 1), wa, op, ou, ke)) → wY_call_98 (gy_R2 post M) (nI a) (nI (g / 8)) y_parts y_count y_place y_where y_values (nI (gm_m s - 1)) wt y_at y_world y_steps 0 y_result y_given y_ty y_part y_kind y_end y_state y_with y_runKind y_runEnd y_runWith y_sort y_one y_two y_from y_to y_label y_held y_around wa op ou ke := by
      intro wt wa op ou ke hgo
      unfold wY_call_98
      rw [em, nI_clamp (show g / 8 < 2 ^ 31 by omega), c3.1, c3.2, em1]
      refine And.intro vinm (nm_e (And.intro vin (And.intro vinm (nm_e (nm_e (And.intro vin (nm_r (nI_1 _) ?_)))))))
      refine And.intro rfl (gy_R1_0 (D := (y_values, nI (gm_m s), wt, nI (gm_ca (gm_h s (g / 8)) + 1), nI (gm_m s - 1), y_steps, 0, y_result, y_sort, y_one, y_two, y_from, y_to, y_label, upd y_held (gm_m s - 1) (nI a), upd y_around (gm_m s - 1) (nI (gm_cb (gm_h s (g / 8))) - 1), wa, op, ou, ke)) rfl (hgo ?_))
      refine ⟨⟨v0, v5, vc⟩, ?_, ?_, ?_, h4, h5, rfl, ?_⟩
      · exact congrArg nI (show gm_m s = gm_m s + 1 - 1 by omega)
      · show 1 ≤ gm_m s + 1
        omega
      · show gm_m s + 1 ≤ 64
        have r3' : gm_m s < 64 := r3
        omega
      · intro w w0 w1
        have w1' : w < gm_m s + 1 := w1
        have eE : gm_e (gm_scope (gm_tk s) a (gm_cb (gm_h s (g / 8)))) w = if w = gm_m s then (a, gm_cb (gm_h s (g / 8))) else gm_e s w := rfl
        rw [eE]
        by_cases c : w = gm_m s
        · subst c
          rw [if_pos rfl, pk_us, pk_us]
          exact ⟨rfl, rfl⟩
        · rw [if_neg c, pk_un (by omega), pk_un (by omega)]
          exact h7 w w0 (by omega)
    show vp_in (nI (g / 8)) 5000 ∧ _
    rw [nI_clamp (show g / 8 < 2 ^ 31 by omega), cv.1, hk']
    have eu : gm_u (gm_scope (gm_tk s) a (gm_cb (gm_h s (g / 8)))) = gm_u s + 1 := rfl
    have eT : gm_T (gm_scope (gm_tk s) a (gm_cb (gm_h s (g / 8)))) = gm_T s := rfl
    refine And.intro vin (br_f (show ¬ nI 3 = 4 by decide) (pk_le j 0 (fun z => ?_) (fun z => ?_)))
    · have j0 : j = 0 := by omega
      refine fin _ _ _ _ _ (fun hD => ?_)
      refine goBody _ C wc hC (by omega) hD rfl (by omega) rfl emw.symm ?_ M (by omega)
      intro D' a1 a2 a3 a4 a5
      exact K0 j0 D' a1 a2 a3 (gy_A_trans hA a4 (Nat.le_refl _)) a5
    · rw [gy_div hx1]
      refine And.intro (by decide) (gy_later (by omega) (by decide) (by decide) ?_)
      refine fin _ _ _ _ _ (fun hD => ?_)
      refine goBody _ (C + 1) (wc + 1) (by omega) (by omega) hD rfl (by omega) rfl emw.symm ?_ M (by omega)
      intro D' a1 a2 a3 a4 a5
      have hfr : gy_fr D' wc = (-1, 0, nI (x1 / 8), nI j) := by
        rw [a4 wc (by omega)]
        show (upd y_waiting wc (-1) wc, upd y_operand wc 0 wc, upd y_outer wc (nI (x1 / 8)) wc, upd y_kept wc (nI j) wc) = _
        rw [pk_us, pk_us, pk_us, pk_us]
      refine gy_ret (C := C) (J := j) (le1.2.2.2 (show gm_u s + 1 ≤ 1000000 by omega)) hC a3 (by omega) hfr a5 ?_
      intro M' hM'
      refine KU M' hM' a1 (gy_setw D' (nI wc)) ?_ ?_ ?_
      · obtain ⟨y_values, y_variables, y_waits, y_at, y_world, y_steps, y_blame, y_result, y_sort, y_one, y_two, y_from, y_to, y_label, y_held, y_around, y_waiting, y_operand, y_outer, y_kept⟩ := D'
        exact a2
      · obtain ⟨y_values, y_variables, y_waits, y_at, y_world, y_steps, y_blame, y_result, y_sort, y_one, y_two, y_from, y_to, y_label, y_held, y_around, y_waiting, y_operand, y_outer, y_kept⟩ := D'
        rfl
      · intro q hq
        have q1 : gy_fr (gy_setw D' (nI wc)) q = gy_fr D' q := by
          obtain ⟨y_values, y_variables, y_waits, y_at, y_world, y_steps, y_blame, y_result, y_sort, y_one, y_two, y_from, y_to, y_label, y_held, y_around, y_waiting, y_operand, y_outer, y_kept⟩ := D'
          rfl
        rw [q1, a4 q (by omega), ← hA q hq]
        show (upd y_waiting wc (-1) q, upd y_operand wc 0 q, upd y_outer wc (nI (x1 / 8)) q, upd y_kept wc (nI j) q) = (y_waiting q, y_operand q, y_outer q, y_kept q)
        rw [pk_un (by omega), pk_un (by omega), pk_un (by omega), pk_un (by omega)]
  | succ n ih =>
    intro j h g a s out D H hM hT hw hCC hH hwt hA hj K0 KU KB N hN
    simp only [gm_call] at H
    obtain ⟨⟨r1, r2, r3, r4⟩, H⟩ := gm_tick_e H
    obtain ⟨⟨hv, hk⟩, H⟩ := gm_if_e H
    have hv' : g / 8 < gm_n s := hv
    have hk' : gm_ck (gm_h s (g / 8)) = 4 := hk
    obtain ⟨N, rfl⟩ : ∃ k, N = k + 1 := ⟨N - 1, by omega⟩
    have hCs : gm_CC s (x1 / 8) (j + 1) := gm_CC_s hCC (by rw [hw]; exact hv') (by rw [hw]; exact Or.inl hk')
    have hC1 : gm_CC (gm_tk s) (x1 / 8) (j + 1) := gm_CC_le (gm_le_tk s) hCs
    have wtk : ∀ i, i ≤ j + 1 → gm_wlk (gm_tk s) i (x1 / 8) = gm_wlk s i (x1 / 8) := fun i hi => gm_wlk_le (gm_le_tk s) _ i (fun x hx => (hCs x (by omega)).1)
    have hH0 := hH
    obtain ⟨y_values, y_variables, y_waits, y_at, y_world, y_steps, y_blame, y_result, y_sort, y_one, y_two, y_from, y_to, y_label, y_held, y_around, y_waiting, y_operand, y_outer, y_kept⟩ := D
    obtain ⟨⟨v0, v5, vc⟩, h1, h2, h3, h4, h5, h6, h7⟩ := hH
    have cv := vc _ hv'
    obtain ⟨q1, q2, q3, q4, q5, i0, j0, q6, q7, q8, q9, q10, q11, k, b, c, b', c', ef, et⟩ := cv.2.2.2.2.2 (Or.inl hk')
    have vin : vp_in (nI (g / 8)) 5000 := vp_in_nI (by omega) (by decide)
    show vp_in (nI (g / 8)) 5000 ∧ _
    rw [nI_clamp (show g / 8 < 2 ^ 31 by omega), cv.1, hk', q2, q6, q7, nI_1 j0, nI_1 i0, gm_lb_neg]
    have tf : gd_TY (.branch k b c) := ef ▸ q4
    have tt : gd_TY (.branch k b' c') := et ▸ q5
    have lf := gy_Sp_l (ef ▸ q8) (ef ▸ q10)
    have lt := gy_Sp_l (et ▸ q9) (et ▸ q11)
    refine And.intro vin (br_t rfl (And.intro vin (And.intro vin (And.intro vin ?_))))
    have efl : gd_lf (gm_cf (gm_h s (g / 8))) = b := by rw [ef]; rfl
    have etl : gd_lf (gm_ct (gm_h s (g / 8))) = b' := by rw [et]; rfl
    have castOut : ∀ o1 : gm_O, gm_cast (gm_tk s) a b' b (- gm_cp (gm_h s (g / 8))) = some o1 →
        (o1.1 = 0 → ∀ D', gy_H y_ty o1.2.2.2 D' → gy_Sm (y_values, y_variables, y_waits, y_at, y_world, y_steps, y_blame, y_result, y_sort, y_one, y_two, y_from, y_to, y_label, y_held, y_around, y_waiting, y_operand, y_outer, y_kept) D' → (match D' with | (y_values, y_variables, y_waits, y_at, y_world, y_steps, y_blame, y_result, y_sort, y_one, y_two, y_from, y_to, y_label, y_held, y_around, y_waiting, y_operand, y_outer, y_kept) => wY_call_11 (gy_R2 post M) (nI x1) N (nI o1.2.1) (nI (gm_ca (gm_h s (g / 8)) / 8)) (nI (j + 1)) y_parts y_count y_place y_where y_values y_variables y_waits y_at y_world y_steps y_blame y_result y_given y_ty y_part y_kind y_end y_state y_with y_runKind y_runEnd y_runWith y_sort y_one y_two y_from y_to y_label y_held y_around y_waiting y_operand y_outer y_kept) ∧ gm_ca (gm_h s (g / 8)) / 8 < 5001) →
        (o1.1 ≠ 0 → ∀ D', gy_E y_ty o1 D' → post 4 (gy_Y y_parts y_count y_place y_where y_given y_ty y_part y_kind y_end y_state y_with y_runKind y_runEnd y_runWith D')) → gm_ca (gm_h s (g / 8)) / 8 < 5001 ∨ o1.1 ≠ 0 → wpY_cast (fun r u => match u with | (y_parts, y_count, y_place, y_where, y_values, y_variables, y_waits, y_at, y_world, y_steps, y_blame, y_result, y_given, y_ty, y_part, y_kind, y_end, y_state, y_with, y_runKind, y_runEnd, y_runWith, y_sort, y_one, y_two, y_from, y_to, y_label, y_held, y_around, y_waiting, y_operand, y_outer, y_kept) => ((y_blame = 0 → (vp_in (nI (g / 8)) 5000 ∧ (¬ (8 : Int32) = 0 ∧ (∀ z : Int32, z = (y_one (g / 8)) / 8 → (∀ z' : Int32, z' = nI j + 1 → (wY_call_11 (gy_R2 post M) (nI x1) N r z z' y_parts y_count y_place y_where y_values y_variables y_waits y_at y_world y_steps y_blame y_result y_given y_ty y_part y_kind y_end y_state y_with y_runKind y_runEnd y_runWith y_sort y_one y_two y_from y_to y_label y_held y_around y_waiting y_operand y_outer y_kept)))))) ∧ (¬ y_blame = 0 → (gy_R2 post M 1 (y_parts, y_count, y_place, y_where, y_values, y_variables, y_waits, y_at, y_world, y_steps, y_blame, y_result, y_given, y_ty, y_part, y_kind, y_end, y_state, y_with, y_runKind, y_runEnd, y_runWith, y_sort, y_one, y_two, y_from, y_to, y_label, y_held, y_around, y_waiting, y_operand, y_outer, y_kept))))) (y_parts, y_count, y_place, y_where, y_values, y_variables, y_waits, y_at, y_world, y_steps, y_blame, y_result, y_given, y_ty, y_part, y_kind, y_end, y_state, y_with, y_runKind, y_runEnd, y_runWith, y_sort, y_one, y_two, y_from, y_to, y_label, y_held, y_around, y_waiting, y_operand, y_outer, y_kept) (nI a) (nI (j0 + 1)) (nI (i0 + 1)) (gm_lb (- gm_cp (gm_h s (g / 8)))) := by
      intro o1 e1 Kc Bc hca
      have same := gm_cast_same e1
      refine gy_cast (s := gm_tk s) e1 ⟨v0, v5, vc⟩ hK lt.1 lf.1 lt.2 lf.2 (gm_PB_neg q3) ?_ ?_
      · intro w s' vs so o1' o2 fr to lb eo hH'
        subst eo
        obtain ⟨m1, m2, m3, m4⟩ := same
        have hD' : gy_H y_ty s' (vs, y_variables, y_waits, y_at, y_world, y_steps, y_blame, y_result, so, o1', o2, fr, to, lb, y_held, y_around, y_waiting, y_operand, y_outer, y_kept) := by
          refine ⟨hH', ?_, ?_, ?_, ?_, ?_, h6, ?_⟩
          · rw [h1]
            exact congrArg (fun k => nI (k - 1)) m1.symm
          · show 1 ≤ gm_m s'
            rw [show gm_m s' = gm_m s from m1]; exact h2
          · show gm_m s' ≤ 64
            rw [show gm_m s' = gm_m s from m1]; exact h3
          · exact h4.trans (congrArg nI m3.symm)
          · show gm_T s' ≤ 40
            rw [show gm_T s' = gm_T s from m3]; exact h5
          · intro w' a1 b1
            show y_held (w' - 1) = nI (gm_e s' w').1 ∧ y_around (w' - 1) = nI (gm_e s' w').2 - 1
            rw [show gm_e s' = gm_e s from m2]
            exact h7 w' a1 (by rw [← show gm_m s' = gm_m s from m1]; exact b1)
        obtain ⟨k1, k2⟩ := Kc rfl _ hD' ⟨rfl, rfl, rfl, rfl, fun _ => rfl⟩
        have le2 := (gm_LE_cast e1).1
        have lt2 : g / 8 < gm_n s' := Nat.lt_of_lt_of_le hv le2.1
        have eh : gm_h s' (g / 8) = gm_h s (g / 8) := le2.2.1 _ hv
        have one' : o1' (g / 8) = nI (gm_ca (gm_h s (g / 8))) := by
          have := (hH'.2.2 _ lt2).2.2.2.2.2 (by rw [eh]; exact Or.inl hk')
          rw [eh] at this
          exact this.1
        refine br_t h6 (And.intro vin (And.intro (by decide) ?_))
        rw [one']
        exact nm_r (gy_div k2) (nm_r (nI_1 j) k1)
      · intro eo
        subst eo
        refine br_f (gm_lb_ne (gm_PB_neg q3)) (And.intro rfl ?_)
        exact gy_R1_B (D := (y_values, y_variables, y_waits, y_at, y_world, y_steps, gm_lb (- gm_cp (gm_h s (g / 8))), y_result, y_sort, y_one, y_two, y_from, y_to, y_label, y_held, y_around, y_waiting, y_operand, y_outer, y_kept)) (gm_lb_ne (gm_PB_neg q3)) (Bc (show (4 : Nat) ≠ 0 by decide) _ ⟨h4, fun _ => ⟨rfl, gm_PB_neg q3⟩, fun z => absurd (show (4 : Nat) = 5 from z) (by decide), ⟨v0, v5, vc⟩, h1, h2, h3, h4, h5, rfl, h7⟩)
    have H' : gm_bd (gm_cast (gm_tk s) a b' b (- gm_cp (gm_h s (g / 8)))) (fun a' s' =>
          gm_bd (gm_call f n (h + 1) (gm_ca (gm_h s (g / 8))) a' s') (fun u s'' =>
            gm_fc s'' (h + 1) u (gd_rt (gm_cf (gm_h s (g / 8)))) (gd_rt (gm_ct (gm_h s (g / 8)))) (gm_cp (gm_h s (g / 8))))) = some out := by
      rw [← efl, ← etl]
      exact H
    refine gm_bd_e H' ?_ ?_
    · intro a' p' s' e1 H1
      have same := gm_cast_same e1
      have le0 := gm_LE_cast e1
      have eu : gm_u s' = gm_u s + 1 := same.2.2.2
      have eT : gm_T s' = gm_T s := same.2.2.1
      have hC2 : gm_CC s' (x1 / 8) (j + 1) := gm_CC_le le0.1 hC1
      have hw2 : gm_wlk s' (j + 1) (x1 / 8) = gm_ca (gm_h s (g / 8)) / 8 := by rw [gm_wlk_le le0.1 _ (j + 1) (gm_CC_CH hC1), wtk (j + 1) (Nat.le_refl _), gm_wlk_s, hw]
      have hlt : gm_ca (gm_h s (g / 8)) / 8 < gm_n s' := by
        refine gm_bd_e H1 ?_ ?_
        · intro u p s1 e2 H2
          exact gm_call_lt e2
        · intro e2 nz
          exact gm_call_lt e2
      have hn5 : gm_n s' ≤ 5000 := by
        refine gm_bd_e H1 ?_ ?_
        · intro u p s1 e2 H2
          exact gm_call_n e2
        · intro e2 nz
          exact gm_call_n e2
      refine castOut (0, a', p', s') e1 ?_ (fun z => absurd rfl z) (Or.inl (by omega))
      intro _ D' hD' hS
      refine ⟨?_, by omega⟩
      have hwt' : gy_wt D' = nI wc := hS.1.trans hwt
      have hA' : gy_A wc D0 D' := gy_A_trans hA (fun q _ => hS.2.2.2.2 q) (Nat.le_refl _)
      refine gm_bd_e H1 ?_ ?_
      · intro u p s1 e2 H2
        have le2 := gm_LE_call hlf _ _ _ _ _ _ e2
        have le3 := gm_LE_fc H2
        refine ih (j + 1) (h + 1) (gm_ca (gm_h s (g / 8))) a' s' (0, u, p, s1) D' e2 (by omega) (by omega) hw2 hC2 hD' hwt' hA' (by omega) (fun z => by omega) ?_ (fun z => absurd rfl z) N (by omega)
        intro M' hM' _ D'' hD'' hwt'' hA''
        have eh : gm_h s1 (g / 8) = gm_h s (g / 8) := (le2.1.2.1 _ (Nat.lt_of_lt_of_le hv le0.1.1)).trans (le0.1.2.1 _ hv)
        have wj : gm_wlk s1 j (x1 / 8) = g / 8 := by
          rw [gm_wlk_le le2.1 _ j (fun x hx => (hC2 x (by omega)).1), gm_wlk_le le0.1 _ j (fun x hx => (hC1 x (by omega)).1), wtk j (by omega), hw]
        have hCC1 := gm_CC_le le2.1 hC2
        refine gy_un_step (s := s1) (h := h + 1) (c := g / 8) (out := out) (by rw [eh]; exact H2) wj (fun i hi => hCC1 i (by omega)) (by decide) (by omega) hK hD'' ?_ ?_
        · intro z D3 hD3 hS3
          have le3u := le3.2.2.1
          exact KU M' (by have : gm_u (0, u, p, s1).2.2.2 = gm_u s1 := rfl; omega) z D3 hD3 (hS3.1.trans hwt'') (gy_A_trans hA'' (fun q _ => hS3.2.2.2.2 q) (Nat.le_refl _))
        · intro z x D3 hE _
          have c4 : out.1 = 4 := by
            by_cases q : out.1 = 4
            · exact q
            · exact (gm_fc_code H2 z q).elim
          have b := hE.2.1 c4
          refine gy_R3_B (by rw [b.1]; exact gm_lb_ne b.2) ?_
          have := KB z (gy_setr D3 x) (by obtain ⟨y_values, y_variables, y_waits, y_at, y_world, y_steps, y_blame, y_result, y_sort, y_one, y_two, y_from, y_to, y_label, y_held, y_around, y_waiting, y_operand, y_outer, y_kept⟩ := D3; exact hE)
          rw [c4] at this
          exact this
      · intro e2 nz
        exact ih (j + 1) (h + 1) (gm_ca (gm_h s (g / 8))) a' s' out D' e2 (by omega) (by omega) hw2 hC2 hD' hwt' hA' (by omega) (fun z => by omega) (fun M' _ z => absurd z nz) KB N (by omega)
    · intro e1 nz
      have c4 : out.1 = 4 := by
        rcases gm_cast_code e1 with q | q
        · exact absurd q nz
        · exact q
      refine castOut out e1 (fun z => absurd z nz) ?_ (Or.inr nz)
      intro z D' hE
      have := KB z D' hE
      rw [c4] at this
      exact this
end
end
section
/-! ===== 26: what the reference does with an operand ===== -/
/-- the reference's copy of the program -/
def gy_P (P : gm_P) (ty runKind runEnd runWith : Nat → Int32) : Prop :=
  gm_cn P ≤ 36 ∧ gy_K ty ∧ ∀ i, i < gm_cn P → runKind i = nI (gm_kd P i) ∧ gm_kd P i < 12 ∧ runWith i = gm_vl P i ∧ gx_vn P i ∧ gd_TY (gm_ty P i) ∧ gd_Sp ty (gm_ty P i) (400 + 8 * i) ∧ gm_op P i 0 = i + 1 ∧
    (∀ k, k < gs_ar (gm_kd P i) → gm_op P i k < gm_cn P ∧ gd_TY (gm_tg P i k) ∧ gm_tg P i k = gs_tg (gm_kd P i) k (gm_ty P i) (gm_ty P (gm_op P i 0)) (gm_ty P (gm_op P i k))) ∧
    (∀ k, k + 1 < gs_ar (gm_kd P i) → runEnd (gm_op P i k) = nI (gm_op P i (k + 1))) ∧
    (gm_kd P i = 4 → gd_hd (gm_ty P (gm_op P i 0)) = 2 ∨ gd_hd (gm_ty P (gm_op P i 0)) = 3) ∧ (gm_kd P i = 5 → gm_ty P i = gm_ty P (gm_op P i 1))
theorem gy_RG8 {i : Nat} (hi : i < 36) {t : Lean.RArray Nat} (ht : gd_TY t) : gy_RG (400 + 8 * i) t := by
  have := ht.2
  unfold gy_RG
  omega
section
variable {y_parts y_count y_place y_where y_values y_variables y_waits y_at y_world y_steps y_blame y_result y_given : Int32} {y_ty y_part y_kind y_end y_state y_with y_runKind y_runEnd y_runWith y_sort y_one y_two y_from y_to y_label y_held y_around y_waiting y_operand y_outer y_kept : Nat → Int32}
variable {post : Int32 → SY → Prop}
theorem gy_piece_l {post : Int32 → Prop} {P : gm_P} {i K : Nat} (hP : gy_P P y_ty y_runKind y_runEnd y_runWith) (hi : i < gm_cn P) (hK : K < gs_ar (gm_kd P i)) (hK3 : K < 3) (H : post (nI (gm_op P i K))) : ∀ d k, k + d = K → wY_piece_7 post (nI K) y_parts y_count y_place y_where y_values y_variables y_waits y_at y_world y_steps y_blame y_result y_given y_ty y_part y_kind y_end y_state y_with y_runKind y_runEnd y_runWith y_sort y_one y_two y_from y_to y_label y_held y_around y_waiting y_operand y_outer y_kept (d + 1) (nI (gm_op P i k)) (nI k) := by
  obtain ⟨c36, hk, hP⟩ := hP
  obtain ⟨p1, p2, p3, p4, p5, p6, p7, p8, p9, p10, p11⟩ := hP i hi
  intro d
  induction d with
  | zero =>
    intro k e
    have e' : k = K := by omega
    subst e'
    exact br_t (Int32.le_refl _) H
  | succ d ih =>
    intro k e
    have o := (p8 k (by omega)).1
    refine br_f (nI_ge (by omega) (by omega)) ?_
    rw [nI_clamp (show gm_op P i k < 2 ^ 31 by omega), p9 k (by omega)]
    exact And.intro (vp_in_nI (by omega) (by decide)) (nm_e (nm_r (nI_1 k) (ih (k + 1) (by omega))))
theorem gy_piece {post : Int32 → Prop} {P : gm_P} {i k : Nat} (hP : gy_P P y_ty y_runKind y_runEnd y_runWith) (hi : i < gm_cn P) (hk : k < gs_ar (gm_kd P i)) (hk3 : k < 3) (H : post (nI (gm_op P i k))) : wpY_piece post (y_parts, y_count, y_place, y_where, y_values, y_variables, y_waits, y_at, y_world, y_steps, y_blame, y_result, y_given, y_ty, y_part, y_kind, y_end, y_state, y_with, y_runKind, y_runEnd, y_runWith, y_sort, y_one, y_two, y_from, y_to, y_label, y_held, y_around, y_waiting, y_operand, y_outer, y_kept) (nI i) (nI k) := by
  have main := gy_piece_l (y_parts := y_parts) (y_count := y_count) (y_place := y_place) (y_where := y_where) (y_values := y_values) (y_variables := y_variables) (y_waits := y_waits) (y_at := y_at) (y_world := y_world) (y_steps := y_steps) (y_blame := y_blame) (y_result := y_result) (y_given := y_given) (y_ty := y_ty) (y_part := y_part) (y_kind := y_kind) (y_end := y_end) (y_state := y_state) (y_with := y_with) (y_runKind := y_runKind) (y_runEnd := y_runEnd) (y_runWith := y_runWith) (y_sort := y_sort) (y_one := y_one) (y_two := y_two) (y_from := y_from) (y_to := y_to) (y_label := y_label) (y_held := y_held) (y_around := y_around) (y_waiting := y_waiting) (y_operand := y_operand) (y_outer := y_outer) (y_kept := y_kept) hP hi hk hk3 H k 0 (Nat.zero_add k)
  obtain ⟨c36, hK, hP⟩ := hP
  obtain ⟨p1, p2, p3, p4, p5, p6, p7, p8, p9, p10, p11⟩ := hP i hi
  refine nm_r (nI_1 i) (Exists.intro (k + 1) ?_)
  rw [p7] at main
  exact main
theorem gy_fit {R0 : Int32 → SY → Prop} {P : gm_P} {s : gm_S} {D : gy_D} {h v i k : Nat} {out : gm_O} (hP : gy_P P y_ty y_runKind y_runEnd y_runWith) (hi : i < gm_cn P) (h4 : 4 ≤ gm_kd P i) (hk : k < gs_ar (gm_kd P i)) (hk3 : k < 3) (H : gm_fc s h v (gm_ty P (gm_op P i k)) (gm_tg P i k) (3 * i + k + 1) = some out) (hH : gy_H y_ty s D)
    (K : out.1 = 0 → ∀ D', gy_H y_ty out.2.2.2 D' → gy_Sm D D' → R0 (nI out.2.1) (gy_Y y_parts y_count y_place y_where y_given y_ty y_part y_kind y_end y_state y_with y_runKind y_runEnd y_runWith D'))
    (B : out.1 ≠ 0 → ∀ x D', gy_E y_ty out D' → gy_Sm D D' → R0 x (gy_Y y_parts y_count y_place y_where y_given y_ty y_part y_kind y_end y_state y_with y_runKind y_runEnd y_runWith D')) : wpY_fitting R0 (gy_Y y_parts y_count y_place y_where y_given y_ty y_part y_kind y_end y_state y_with y_runKind y_runEnd y_runWith D) (nI i) (nI k) (nI v) := by
  have hP0 := hP
  obtain ⟨c36, hK, hP⟩ := hP
  obtain ⟨p1, p2, p3, p4, p5, p6, p7, p8, p9, p10, p11⟩ := hP i hi
  obtain ⟨o1, o2, o3⟩ := p8 k hk
  have qo := hP _ o1
  have z0 : 0 < gs_ar (gm_kd P i) := by omega
  obtain ⟨oo1, oo2, oo3⟩ := p8 0 z0
  have q0 := hP _ oo1
  have pb := gm_PB_op (show i < 36 by omega) hk3
  have lbl : gm_lb (3 * i + k + 1) = nI (3 * i + k + 1) := rfl
  have rgo : gy_RG (400 + 8 * gm_op P i k) (gm_ty P (gm_op P i k)) := gy_RG8 (by omega) qo.2.2.2.2.1
  have cast : ∀ j, gd_Sp y_ty (gm_tg P i k) j → gy_RG j (gm_tg P i k) → wpY_cast R0 (gy_Y y_parts y_count y_place y_where y_given y_ty y_part y_kind y_end y_state y_with y_runKind y_runEnd y_runWith D) (nI v) (nI (400 + 8 * gm_op P i k)) (nI j) (nI (3 * i + k + 1)) := by
    intro j sj rj
    rw [← lbl]
    exact gy_fcast H hK qo.2.2.2.2.1 o2 qo.2.2.2.2.2.1 sj rgo rj pb hH K B
  have keep : gm_tg P i k = gm_ty P (gm_op P i k) → R0 (nI v) (gy_Y y_parts y_count y_place y_where y_given y_ty y_part y_kind y_end y_state y_with y_runKind y_runEnd y_runWith D) := by
    intro e
    unfold gm_fc at H
    rw [if_pos (by rw [e])] at H
    injection H with H
    subst H
    exact K rfl D hH (gy_Sm_refl D)
  have e5 : (400 : Int32) + 8 * nI (gm_op P i k) = nI (400 + 8 * gm_op P i k) := by
    rw [show (8 : Int32) * nI (gm_op P i k) = nI (8 * gm_op P i k) from pk_mul 8 _]
    exact nI_add 400 _
  have e6 : (400 : Int32) + 8 * (nI i + 1) = nI (400 + 8 * (i + 1)) := by
    rw [nI_1, show (8 : Int32) * nI (i + 1) = nI (8 * (i + 1)) from pk_mul 8 _]
    exact nI_add 400 _
  have e7 : (3 : Int32) * nI i + nI k + 1 = nI (3 * i + k + 1) := by
    rw [show (3 : Int32) * nI i = nI (3 * i) from pk_mul 3 i, nI_add, nI_1]
  obtain ⟨y_values, y_variables, y_waits, y_at, y_world, y_steps, y_blame, y_result, y_sort, y_one, y_two, y_from, y_to, y_label, y_held, y_around, y_waiting, y_operand, y_outer, y_kept⟩ := D
  refine gy_piece hP0 hi hk hk3 (nm_r e5 (nm_r e6 (nm_r e7 ?_)))
  rw [nI_clamp (show i < 2 ^ 31 by omega), p1]
  refine And.intro (vp_in_nI (by omega) (by decide)) (nm_e (br_f (nI_nlt (b := 4) h4 (by omega)) (br_f (nI_nlt (a := 11) (b := gm_kd P i) (by omega) (by decide)) ?_)))
  have s0 : gd_Sp y_ty (gm_ty P (gm_op P i 0)) (400 + 8 * (i + 1)) := by
    have := q0.2.2.2.2.2.1
    rw [p7] at this ⊢
    exact this
  have t0 := q0.2.2.2.2.1
  have vf : vp_in (nI (400 + 8 * (i + 1))) 700 := vp_in_nI (by omega) (by decide)
  have h0 : y_ty (nI (400 + 8 * (i + 1))).toNatClampNeg = nI (gd_hd (gm_ty P (gm_op P i 0))) := by
    rw [nI_clamp (show 400 + 8 * (i + 1) < 2 ^ 31 by omega)]
    exact gd_sp_hd s0
  have lt0 := gd_hd_lt t0.1
  have f227 : gm_kd P i = 9 ∨ gm_kd P i = 10 → wY_fitting_227 R0 (nI v) (nI (400 + 8 * gm_op P i k)) (nI (400 + 8 * (i + 1))) (nI (3 * i + k + 1)) y_parts y_count y_place y_where y_values y_variables y_waits y_at y_world y_steps y_blame y_result y_given y_ty y_part y_kind y_end y_state y_with y_runKind y_runEnd y_runWith y_sort y_one y_two y_from y_to y_label y_held y_around y_waiting y_operand y_outer y_kept := by
    intro c
    have k0 : k = 0 := by
      have : gs_ar (gm_kd P i) = 1 := by rcases c with c | c <;> rw [c] <;> rfl
      omega
    subst k0
    rw [gs_tg9 c] at o3
    unfold wY_fitting_227
    rw [h0]
    refine And.intro vf (pk_eq (gd_hd (gm_ty P (gm_op P i 0))) 2 (fun z => ?_) (fun z => ?_))
    · rw [if_pos z] at o3
      exact cast 374 (by rw [o3]; exact gy_K_4 hK) (by rw [o3]; unfold gy_RG; decide)
    · rw [if_neg z] at o3
      exact keep o3
  refine pk_eq (gm_kd P i) 4 (fun c => ?_) (fun c4 => ?_)
  · have ar2 : gs_ar (gm_kd P i) = 2 := by rw [c]; rfl
    rw [h0]
    refine And.intro vf (pk_eq (gd_hd (gm_ty P (gm_op P i 0))) 2 (fun z => ?_) (fun z => ?_))
    · refine pk_eq k 0 (fun y => ?_) (fun y => ?_)
      · subst y
        rw [c, gs_tg40, if_pos z] at o3
        exact cast 371 (by rw [o3]; exact gy_K_3 hK) (by rw [o3]; unfold gy_RG; decide)
      · have y1 : k = 1 := by omega
        subst y1
        rw [c, gs_tg41, if_pos z] at o3
        exact cast 370 (by rw [o3]; exact gy_K_2 hK) (by rw [o3]; unfold gy_RG; decide)
    · refine pk_eq k 0 (fun y => ?_) (fun y => ?_)
      · subst y
        rw [c, gs_tg40, if_neg z] at o3
        exact keep o3
      · have y1 : k = 1 := by omega
        subst y1
        rw [c, gs_tg41, if_neg z] at o3
        have h3 : gd_hd (gm_ty P (gm_op P i 0)) = 3 := (p10 c).resolve_left z
        have eb := gs_hd3 t0.1 h3
        have sl := gy_Sp_l (eb ▸ s0) (eb ▸ (gy_RG8 (show i + 1 < 36 by have := q0; rw [p7] at oo1; omega) t0))
        rw [nI_1]
        exact cast (400 + 8 * (i + 1) + 1) (by rw [o3]; exact sl.1) (by rw [o3]; exact sl.2)
  refine pk_eq (gm_kd P i) 5 (fun c => ?_) (fun c5 => ?_)
  · have ar3 : gs_ar (gm_kd P i) = 3 := by rw [c]; rfl
    have ti := p11 c
    obtain ⟨oo11, oo12, oo13⟩ := p8 1 (by omega)
    refine gy_piece hP0 hi (k := 1) (by omega) (by decide) (pk_eq k 1 (fun y => ?_) (fun y => ?_))
    · subst y
      rw [c] at o3
      exact keep (o3.trans ti)
    · refine pk_eq k 0 (fun y0 => ?_) (fun y0 => ?_)
      · subst y0
        rw [c] at o3
        have o3' : gm_tg P i 0 = .leaf 1 := o3
        exact cast 369 (by rw [o3']; exact gy_K_1 hK) (by rw [o3']; unfold gy_RG; decide)
      · have y2 : k = 2 := by omega
        subst y2
        rw [c] at o3
        have o3' : gm_tg P i 2 = gm_ty P (gm_op P i 1) := o3.trans ti
        have q1 := hP _ oo11
        rw [show (8 : Int32) * nI (gm_op P i 1) = nI (8 * gm_op P i 1) from pk_mul 8 _, show (400 : Int32) + nI (8 * gm_op P i 1) = nI (400 + 8 * gm_op P i 1) from nI_add 400 _]
        exact cast (400 + 8 * gm_op P i 1) (by rw [o3']; exact q1.2.2.2.2.2.1) (by rw [o3']; exact gy_RG8 (by omega) q1.2.2.2.2.1)
  have c67 : gm_kd P i = 6 ∨ gm_kd P i = 7 → wY_fitting_194 R0 (nI v) (nI (400 + 8 * gm_op P i k)) (nI (3 * i + k + 1)) y_parts y_count y_place y_where y_values y_variables y_waits y_at y_world y_steps y_blame y_result y_given y_ty y_part y_kind y_end y_state y_with y_runKind y_runEnd y_runWith y_sort y_one y_two y_from y_to y_label y_held y_around y_waiting y_operand y_outer y_kept := by
    intro c
    have o3' : gm_tg P i k = .leaf 0 := by
      rcases c with c | c
      · rw [c] at o3; exact o3
      · rw [c] at o3; exact o3
    exact cast 368 (by rw [o3']; exact gy_K_0 hK) (by rw [o3']; unfold gy_RG; decide)
  refine pk_eq (gm_kd P i) 6 (fun c => c67 (Or.inl c)) (fun c6 => pk_eq (gm_kd P i) 7 (fun c => c67 (Or.inr c)) (fun c7 => pk_eq (gm_kd P i) 8 (fun c => ?_) (fun c8 => pk_eq (gm_kd P i) 9 (fun c => f227 (Or.inl c)) (fun c9 => pk_eq (gm_kd P i) 10 (fun c => f227 (Or.inr c)) (fun c10 => pk_eq (gm_kd P i) 11 (fun c => ?_) (fun c11 => by omega))))))
  · rw [c] at o3
    exact keep o3
  · rw [c] at o3
    rw [show (8 : Int32) * nI i = nI (8 * i) from pk_mul 8 _, show (400 : Int32) + nI (8 * i) = nI (400 + 8 * i) from nI_add 400 _]
    have o3' : gm_tg P i k = gm_ty P i := o3
    exact cast (400 + 8 * i) (by rw [o3']; exact p6) (by rw [o3']; exact gy_RG8 (by omega) p5)
end
end
section
/-! ===== 27: the reference's steps ===== -/
def gy_two (k : Nat) : Nat := if k = 4 ∨ 6 ≤ k ∧ k ≤ 8 then 1 else 0
def gy_G (post : Int32 → SY → Prop) (y_parts y_count y_place y_where y_given : Int32) (y_ty y_part y_kind y_end y_state y_with y_runKind y_runEnd y_runWith : Nat → Int32) (M i k v kd : Nat) (D : gy_D) : Prop := match D with | (y_values, y_variables, y_waits, y_at, y_world, y_steps, y_blame, y_result, y_sort, y_one, y_two, y_from, y_to, y_label, y_held, y_around, y_waiting, y_operand, y_outer, y_kept) => wY_goOn_121 (gy_R1 post M) (nI i) (nI k) (nI v) (nI kd) (nI (gy_two kd)) y_parts y_count y_place y_where y_values y_variables y_waits y_at y_world y_steps y_blame y_result y_given y_ty y_part y_kind y_end y_state y_with y_runKind y_runEnd y_runWith y_sort y_one y_two y_from y_to y_label y_held y_around y_waiting y_operand y_outer y_kept
/-- D' waits for operand k of i -/
def gy_W (ty : Nat → Int32) (P : gm_P) (s : gm_S) (D D' : gy_D) (wc i k w : Nat) (kept : Int32) : Prop :=
  gy_H ty s D' ∧ gy_A wc D D' ∧ gy_wt D' = nI (wc + 1) ∧ gy_fr D' wc = (nI i, nI k, nI w - 1, kept) ∧ gy_at D' = nI (gm_op P i k) ∧ gy_wd D' = nI w - 1
section
variable {y_parts y_count y_place y_where y_values y_variables y_waits y_at y_world y_steps y_blame y_result y_given : Int32} {y_ty y_part y_kind y_end y_state y_with y_runKind y_runEnd y_runWith y_sort y_one y_two y_from y_to y_label y_held y_around y_waiting y_operand y_outer y_kept : Nat → Int32}
variable {post : Int32 → SY → Prop}
theorem gy_goOn {P : gm_P} {s : gm_S} {D : gy_D} {h v i k wc C : Nat} {out : gm_O} (hP : gy_P P y_ty y_runKind y_runEnd y_runWith) (hi : i < gm_cn P) (h4 : 4 ≤ gm_kd P i) (hk : k < gs_ar (gm_kd P i)) (hk3 : k < 3) (hC : 2000004 ≤ C) (hu : gm_u s ≤ 1000000) (H : gm_fc s h v (gm_ty P (gm_op P i k)) (gm_tg P i k) (3 * i + k + 1) = some out) (hH : gy_H y_ty s D) (hwt : gy_wt D = nI (wc + 1)) (hw : wc < 299) (f0 : (gy_fr D wc).1 = nI i) (f1 : (gy_fr D wc).2.1 = nI k) (hrs : gy_rs D = nI v)
    (K : out.1 = 0 → ∀ M D', C ≤ M + 1 + 2 * gm_u s → gy_H y_ty out.2.2.2 D' → gy_wt D' = nI wc → (∀ j, gy_fr D' j = gy_fr D j) → gy_G post y_parts y_count y_place y_where y_given y_ty y_part y_kind y_end y_state y_with y_runKind y_runEnd y_runWith M i k out.2.1 (gm_kd P i) D') (KB : gy_KB post y_parts y_count y_place y_where y_given y_ty y_part y_kind y_end y_state y_with y_runKind y_runEnd y_runWith out) : gy_go post y_parts y_count y_place y_where y_given y_ty y_part y_kind y_end y_state y_with y_runKind y_runEnd y_runWith C 1 (gy_mo (wc + 1)) s D := by
  intro N hN
  obtain ⟨N, rfl⟩ : ∃ k, N = k + 1 := ⟨N - 1, by omega⟩
  have hP0 := hP
  obtain ⟨c36, hK, hP⟩ := hP
  obtain ⟨p1, p2, p3, p4, p5, p6, p7, p8, p9, p10, p11⟩ := hP i hi
  obtain ⟨y_values, y_variables, y_waits, y_at, y_world, y_steps, y_blame, y_result, y_sort, y_one, y_two, y_from, y_to, y_label, y_held, y_around, y_waiting, y_operand, y_outer, y_kept⟩ := D
  have e1 : y_waits = nI (wc + 1) := hwt
  have e2 : y_result = nI v := hrs
  subst e1 e2
  have g0 : y_waiting wc = nI i := f0
  have g1 : y_operand wc = nI k := f1
  have vin : vp_in (nI wc) 300 := vp_in_nI (by omega) (by decide)
  have em : gy_mo (wc + 1) = 1 := by unfold gy_mo; rw [if_neg (by omega)]
  rw [em]
  refine br_f (show ¬ (1 : Int32) = 0 by decide) (br_f (show ¬ (1 : Int32) = 0 by decide) (br_f (show ¬ (1 : Int32) = 0 by decide) (nm_r (nI_pred wc) ?_)))
  rw [nI_clamp (show wc < 2 ^ 31 by omega), g0, g1]
  refine And.intro vin (nm_e (br_t (nI_pos' (by omega)) (And.intro vin (nm_e ?_))))
  refine gy_fit (D := (y_values, y_variables, nI wc, y_at, y_world, y_steps, y_blame, nI v, y_sort, y_one, y_two, y_from, y_to, y_label, y_held, y_around, y_waiting, y_operand, y_outer, y_kept)) hP0 hi h4 hk hk3 H hH ?_ ?_
  · intro z D' hD' hS
    have g := K z N D' (by omega) hD' hS.1 (fun j => hS.2.2.2.2 j)
    have hb : gy_bl D' = 0 := by
      obtain ⟨y_values, y_variables, y_waits, y_at, y_world, y_steps, y_blame, y_result, y_sort, y_one, y_two, y_from, y_to, y_label, y_held, y_around, y_waiting, y_operand, y_outer, y_kept⟩ := D'
      exact hD'.2.2.2.2.2.2.1
    obtain ⟨y_values, y_variables, y_waits, y_at, y_world, y_steps, y_blame, y_result, y_sort, y_one, y_two, y_from, y_to, y_label, y_held, y_around, y_waiting, y_operand, y_outer, y_kept⟩ := D'
    refine br_t hb ?_
    rw [nI_clamp (show i < 2 ^ 31 by omega), p1]
    refine And.intro (vp_in_nI (by omega) (by decide)) (nm_e (pk_eq (gm_kd P i) 4 (fun c => ?_) (fun c4 => pk_lt (gm_kd P i) 6 (fun c => ?_) (fun c6 => pk_lt 8 (gm_kd P i) (fun c => ?_) (fun c8 => ?_)))))
    · have e : gy_two (gm_kd P i) = 1 := by unfold gy_two; rw [if_pos (Or.inl c)]
      simp only [gy_G, e] at g
      exact g
    · have e : gy_two (gm_kd P i) = 0 := by unfold gy_two; rw [if_neg (by omega)]
      simp only [gy_G, e] at g
      exact g
    · have e : gy_two (gm_kd P i) = 0 := by unfold gy_two; rw [if_neg (by omega)]
      simp only [gy_G, e] at g
      exact g
    · have e : gy_two (gm_kd P i) = 1 := by unfold gy_two; rw [if_pos (Or.inr ⟨c6, c8⟩)]
      simp only [gy_G, e] at g
      exact g
  · intro z x D' hE hS
    have c4 : out.1 = 4 := by
      by_cases q : out.1 = 4
      · exact q
      · exact (gm_fc_code H z q).elim
    have b := hE.2.1 c4
    have kb := KB z D' hE
    rw [c4] at kb
    have nb : ¬ gy_bl D' = 0 := by rw [b.1]; exact gm_lb_ne b.2
    have r := gy_R1_B (post := post) (M := N) (x := 1) nb kb
    obtain ⟨y_values, y_variables, y_waits, y_at, y_world, y_steps, y_blame, y_result, y_sort, y_one, y_two, y_from, y_to, y_label, y_held, y_around, y_waiting, y_operand, y_outer, y_kept⟩ := D'
    exact br_f nb r
theorem gy_fin {C wc M : Nat} {D0 D : gy_D} {out : gm_O} (K0 : gy_K0 post y_parts y_count y_place y_where y_given y_ty y_part y_kind y_end y_state y_with y_runKind y_runEnd y_runWith C wc D0 out) (z : out.1 = 0) (hH : gy_H y_ty out.2.2.2 D) (hwt : gy_wt D = nI wc) (hA : gy_A wc D0 D) (hM : C ≤ M + 2 * gm_u out.2.2.2) (hw : wc < 300) : gy_R3 post M (nI out.2.1) (gy_Y y_parts y_count y_place y_where y_given y_ty y_part y_kind y_end y_state y_with y_runKind y_runEnd y_runWith D) := by
  have hb : gy_bl D = 0 := by
    obtain ⟨y_values, y_variables, y_waits, y_at, y_world, y_steps, y_blame, y_result, y_sort, y_one, y_two, y_from, y_to, y_label, y_held, y_around, y_waiting, y_operand, y_outer, y_kept⟩ := D
    exact hH.2.2.2.2.2.2.1
  refine gy_R3_1 hw hb hwt (K0 (gy_setr D (nI out.2.1)) z ?_ ?_ ?_ ?_ M hM)
  · obtain ⟨y_values, y_variables, y_waits, y_at, y_world, y_steps, y_blame, y_result, y_sort, y_one, y_two, y_from, y_to, y_label, y_held, y_around, y_waiting, y_operand, y_outer, y_kept⟩ := D
    exact hH
  · obtain ⟨y_values, y_variables, y_waits, y_at, y_world, y_steps, y_blame, y_result, y_sort, y_one, y_two, y_from, y_to, y_label, y_held, y_around, y_waiting, y_operand, y_outer, y_kept⟩ := D
    exact hwt
  · intro j hj
    have := hA j hj
    obtain ⟨y_values, y_variables, y_waits, y_at, y_world, y_steps, y_blame, y_result, y_sort, y_one, y_two, y_from, y_to, y_label, y_held, y_around, y_waiting, y_operand, y_outer, y_kept⟩ := D
    exact this
  · obtain ⟨y_values, y_variables, y_waits, y_at, y_world, y_steps, y_blame, y_result, y_sort, y_one, y_two, y_from, y_to, y_label, y_held, y_around, y_waiting, y_operand, y_outer, y_kept⟩ := D
    rfl
theorem gy_finB {M : Nat} {D : gy_D} {x : Int32} {out : gm_O} (KB : gy_KB post y_parts y_count y_place y_where y_given y_ty y_part y_kind y_end y_state y_with y_runKind y_runEnd y_runWith out) (c4 : out.1 = 4) (hE : gy_E y_ty out D) : gy_R3 post M x (gy_Y y_parts y_count y_place y_where y_given y_ty y_part y_kind y_end y_state y_with y_runKind y_runEnd y_runWith D) := by
  have b := hE.2.1 c4
  refine gy_R3_B (by rw [b.1]; exact gm_lb_ne b.2) ?_
  have := KB (by rw [c4]; decide) (gy_setr D x) (by obtain ⟨y_values, y_variables, y_waits, y_at, y_world, y_steps, y_blame, y_result, y_sort, y_one, y_two, y_from, y_to, y_label, y_held, y_around, y_waiting, y_operand, y_outer, y_kept⟩ := D; exact hE)
  rw [c4] at this
  exact this
theorem gy_165 {P : gm_P} {s : gm_S} {D0 D : gy_D} {i k v w wc M : Nat} {hd : Int32} (hP : gy_P P y_ty y_runKind y_runEnd y_runWith) (hi : i < gm_cn P) (hk : k < gs_ar (gm_kd P i)) (hk3 : k < 3) (hw : wc < 299) (hH : gy_H y_ty s D) (hwt : gy_wt D = nI wc) (hfr : (gy_fr D wc).2.2.1 = nI w - 1) (hA : gy_A wc D0 D)
    (G : ∀ D', gy_W y_ty P s D0 D' wc i k w (nI v) → gy_lp post y_parts y_count y_place y_where y_given y_ty y_part y_kind y_end y_state y_with y_runKind y_runEnd y_runWith M 0 1 D') : (match D with | (y_values, y_variables, y_waits, y_at, y_world, y_steps, y_blame, y_result, y_sort, y_one, y_two, y_from, y_to, y_label, y_held, y_around, y_waiting, y_operand, y_outer, y_kept) => wY_goOn_165 (gy_R1 post M) (nI i) (nI v) (nI k) y_parts y_count y_place y_where y_values y_variables y_waits y_at y_world y_steps y_blame y_result y_given y_ty y_part y_kind y_end y_state y_with y_runKind y_runEnd y_runWith y_sort y_one y_two y_from y_to y_label y_held y_around y_waiting y_operand y_outer y_kept) := by
  have c36 : gm_cn P ≤ 36 := hP.1
  obtain ⟨y_values, y_variables, y_waits, y_at, y_world, y_steps, y_blame, y_result, y_sort, y_one, y_two, y_from, y_to, y_label, y_held, y_around, y_waiting, y_operand, y_outer, y_kept⟩ := D
  have e1 : y_waits = nI wc := hwt
  subst e1
  have g2 : y_outer wc = nI w - 1 := hfr
  have hb : y_blame = 0 := hH.2.2.2.2.2.2.1
  show vp_in (nI wc) 300 ∧ _
  rw [nI_clamp (show wc < 2 ^ 31 by omega), g2]
  refine And.intro (vp_in_nI (by omega) (by decide)) (nm_e (gy_later (by omega) (gy_nb i (by omega)) (gy_nb k (by omega)) (gy_piece hP hi hk hk3 ?_)))
  refine gy_R1_0 (D := (y_values, y_variables, nI (wc + 1), nI (gm_op P i k), nI w - 1, y_steps, y_blame, y_result, y_sort, y_one, y_two, y_from, y_to, y_label, y_held, y_around, upd y_waiting wc (nI i), upd y_operand wc (nI k), upd y_outer wc (nI w - 1), upd y_kept wc (nI v))) hb (G _ ⟨hH, ?_, rfl, ?_, rfl, rfl⟩)
  · intro q hq
    rw [← hA q hq]
    show (upd y_waiting wc (nI i) q, upd y_operand wc (nI k) q, upd y_outer wc (nI w - 1) q, upd y_kept wc (nI v) q) = (y_waiting q, y_operand q, y_outer q, y_kept q)
    rw [pk_un (by omega), pk_un (by omega), pk_un (by omega), pk_un (by omega)]
  · show (upd y_waiting wc (nI i) wc, upd y_operand wc (nI k) wc, upd y_outer wc (nI w - 1) wc, upd y_kept wc (nI v) wc) = _
    rw [pk_us, pk_us, pk_us, pk_us]
theorem gy_joined {R0 : Int32 → SY → Prop} {s : gm_S} {D : gy_D} {k v v' r : Nat} {t : Lean.RArray Nat} {out : gm_O} (hH : gy_H y_ty s D)
    (H : (if k = 6 then gm_num s v (fun x => gm_num s v' (fun y => gm_new s (1, x + y, 0, 0, .leaf 0, .leaf 0, 0, 0, 0, 0, 0) 0))
    else if k = 7 then gm_num s v (fun x => gm_num s v' (fun y => gm_new s (2, if x < y then 1 else 0, 0, 0, .leaf 1, .leaf 1, 0, 0, 0, 0, 0) 0))
    else if k = 8 then (if v / 8 < gm_n s ∧ v' / 8 < gm_n s then gm_new s (5, 0, v, v', t, t, 0, 0, 0, 0, r) 0 else none) else none) = some out)
    (K : out.1 = 0 → ∀ D', gy_H y_ty out.2.2.2 D' → gy_Sm D D' → R0 (nI out.2.1) (gy_Y y_parts y_count y_place y_where y_given y_ty y_part y_kind y_end y_state y_with y_runKind y_runEnd y_runWith D')) : wpY_joined R0 (gy_Y y_parts y_count y_place y_where y_given y_ty y_part y_kind y_end y_state y_with y_runKind y_runEnd y_runWith D) (nI k) (nI v) (nI v') := by
  obtain ⟨y_values, y_variables, y_waits, y_at, y_world, y_steps, y_blame, y_result, y_sort, y_one, y_two, y_from, y_to, y_label, y_held, y_around, y_waiting, y_operand, y_outer, y_kept⟩ := D
  obtain ⟨h0, h1, h2, h3, h4, h5, h6, h7⟩ := hH
  have hH1 := h0
  obtain ⟨rfl, v5, vc⟩ := h0
  have hvv : v / 8 < gm_n s ∧ v' / 8 < gm_n s := by
    by_cases k6 : k = 6
    · rw [if_pos k6] at H
      have a := gm_num_e H
      exact ⟨a.1.1, (gm_num_e a.2).1.1⟩
    rw [if_neg k6] at H
    by_cases k7 : k = 7
    · rw [if_pos k7] at H
      have a := gm_num_e H
      exact ⟨a.1.1, (gm_num_e a.2).1.1⟩
    rw [if_neg k7] at H
    exact (gm_if_e (gm_if_e H).2).1
  obtain ⟨hv, hv'⟩ := hvv
  have vin : vp_in (nI (v / 8)) 5000 := vp_in_nI (by omega) (by decide)
  have vin' : vp_in (nI (v' / 8)) 5000 := vp_in_nI (by omega) (by decide)
  have fin : ∀ (c : gm_Cell) (p0 : Nat) (p1 p2 : Int32), p0 < 128 → (∀ o3 o4 o5, gy_C y_ty c (nI p0) p1 p2 o3 o4 o5) → gm_new s c 0 = some out → wpY_make R0 (y_parts, y_count, y_place, y_where, nI (gm_n s), y_variables, y_waits, y_at, y_world, y_steps, y_blame, y_result, y_given, y_ty, y_part, y_kind, y_end, y_state, y_with, y_runKind, y_runEnd, y_runWith, y_sort, y_one, y_two, y_from, y_to, y_label, y_held, y_around, y_waiting, y_operand, y_outer, y_kept) (nI p0) p1 p2 := by
    intro c p0 p1 p2 hp hc hn
    obtain ⟨n5, e⟩ := gm_new_e hn
    subst e
    refine gy_make (by omega) hp ?_
    refine K rfl (nI (gm_n s + 1), y_variables, y_waits, y_at, y_world, y_steps, y_blame, y_result, upd y_sort (gm_n s) (nI p0), upd y_one (gm_n s) p1, upd y_two (gm_n s) p2, y_from, y_to, y_label, y_held, y_around, y_waiting, y_operand, y_outer, y_kept) ⟨gy_H0_push hH1 n5 (by rw [pk_us, pk_us, pk_us]; exact hc _ _ _) (fun j hj => by rw [pk_un hj, pk_un hj, pk_un hj]; exact ⟨rfl, rfl, rfl, rfl, rfl, rfl⟩), h1, h2, h3, h4, h5, h6, h7⟩ ⟨rfl, rfl, rfl, rfl, fun _ => rfl⟩
  have num : ∀ {u : Nat} {g : Int32 → Option gm_O}, gm_num s u g = some out → y_one (u / 8) = gm_ci (gm_h s (u / 8)) ∧ g (gm_ci (gm_h s (u / 8))) = some out := by
    intro u g hu
    obtain ⟨⟨a, b⟩, c⟩ := gm_num_e hu
    exact ⟨(vc _ a).2.2.1 b, c⟩
  have cn : ∀ (c : gm_Cell) (k : Nat) (o1 o2 o3 o4 o5 : Int32), gm_ck c = k → k < 3 → o1 = gm_ci c → gy_C y_ty c (nI k) o1 o2 o3 o4 o5 := by
    intro c k o1 o2 o3 o4 o5 hk k3 e
    unfold gy_C
    rw [hk]
    exact ⟨rfl, by omega, fun _ => e, fun z => by omega, fun z => by omega, fun z => by omega⟩
  show ¬ (8 : Int32) = 0 ∧ _
  rw [gy_div (show v / 8 < 5001 by omega), gy_div (show v' / 8 < 5001 by omega), nI_clamp (show v / 8 < 2 ^ 31 by omega), nI_clamp (show v' / 8 < 2 ^ 31 by omega)]
  refine And.intro (by decide) (And.intro vin ?_)
  by_cases k6 : k = 6
  · subst k6
    rw [if_pos rfl] at H
    obtain ⟨a2, H⟩ := num H
    obtain ⟨b2, H⟩ := num H
    rw [a2, b2]
    refine nm_e (And.intro (by decide) (And.intro vin' (nm_e (br_t rfl ?_))))
    exact fin _ 1 _ _ (by decide) (fun o3 o4 o5 => cn _ 1 _ _ _ _ _ rfl (by decide) rfl) H
  rw [if_neg k6] at H
  by_cases k7 : k = 7
  · subst k7
    rw [if_pos rfl] at H
    obtain ⟨a2, H⟩ := num H
    obtain ⟨b2, H⟩ := num H
    rw [a2, b2]
    refine nm_e (And.intro (by decide) (And.intro vin' (nm_e (br_f (show ¬ nI 7 = 6 by decide) (br_t rfl (br_c (fun z => ?_) (fun z => ?_)))))))
    · rw [if_neg (Int32.not_lt.mpr z)] at H
      exact fin _ 2 _ _ (by decide) (fun o3 o4 o5 => cn _ 2 _ _ _ _ _ rfl (by decide) rfl) H
    · rw [if_pos (Int32.not_le.mp z)] at H
      exact fin _ 2 _ _ (by decide) (fun o3 o4 o5 => cn _ 2 _ _ _ _ _ rfl (by decide) rfl) H
  rw [if_neg k7] at H
  obtain ⟨k8, H8⟩ := gm_if_e H
  obtain ⟨_, H9⟩ := gm_if_e H8
  subst k8
  refine nm_e (And.intro (by decide) (And.intro vin' (nm_e (br_f (show ¬ nI 8 = 6 by decide) (br_f (show ¬ nI 8 = 7 by decide) ?_)))))
  refine fin _ 5 _ _ (by decide) (fun o3 o4 o5 => ?_) H9
  exact ⟨rfl, show (5 : Nat) < 7 by decide, fun z => absurd (show (5 : Nat) < 3 from z) (by decide), fun z => absurd (show (5 : Nat) = 3 from z) (by decide), fun _ => ⟨rfl, rfl⟩, fun z => absurd (show (5 : Nat) = 4 ∨ (5 : Nat) = 6 from z) (by decide)⟩
end
end
section
/-! ===== 28: the reference's run follows the evaluator ===== -/
section
variable {y_parts y_count y_place y_where y_values y_variables y_waits y_at y_world y_steps y_blame y_result y_given : Int32} {y_ty y_part y_kind y_end y_state y_with y_runKind y_runEnd y_runWith y_sort y_one y_two y_from y_to y_label y_held y_around y_waiting y_operand y_outer y_kept : Nat → Int32}
variable {post : Int32 → SY → Prop}
theorem gy_b0 {s : gm_S} {D : gy_D} {C : Nat} (hC : 2000004 ≤ C) (hu : gm_u s ≤ 1000000) (hT : gm_T s < 40) (hH : gy_H y_ty s D) (G : ∀ M, C ≤ M + 1 + 2 * gm_u s → wpY_begin (gy_R1 post M) (gy_Y y_parts y_count y_place y_where y_given y_ty y_part y_kind y_end y_state y_with y_runKind y_runEnd y_runWith D)) : gy_go post y_parts y_count y_place y_where y_given y_ty y_part y_kind y_end y_state y_with y_runKind y_runEnd y_runWith C 0 1 s D := by
  intro N hN
  obtain ⟨N, rfl⟩ : ∃ k, N = k + 1 := ⟨N - 1, by omega⟩
  have g := G N (by omega)
  obtain ⟨y_values, y_variables, y_waits, y_at, y_world, y_steps, y_blame, y_result, y_sort, y_one, y_two, y_from, y_to, y_label, y_held, y_around, y_waiting, y_operand, y_outer, y_kept⟩ := D
  obtain ⟨h0, h1, h2, h3, h4, h5, h6, h7⟩ := hH
  have nsteps : ¬ y_steps = 40 := by
    rw [h4]
    intro z
    have := (nI_eq (a := gm_T s) (b := 40) (by omega) (by decide)).mp z
    omega
  exact br_f (show ¬ (1 : Int32) = 0 by decide) (br_t rfl (br_f nsteps (br_t rfl g)))
theorem gy_bLong {s : gm_S} {D : gy_D} {C : Nat} (hC : 2000004 ≤ C) (hu : gm_u s ≤ 1000000) (hT : 40 ≤ gm_T s) (hH : gy_H y_ty s D) (KB : gy_KB post y_parts y_count y_place y_where y_given y_ty y_part y_kind y_end y_state y_with y_runKind y_runEnd y_runWith (5, 0, 0, gm_tk s)) : gy_go post y_parts y_count y_place y_where y_given y_ty y_part y_kind y_end y_state y_with y_runKind y_runEnd y_runWith C 0 1 s D := by
  intro N hN
  obtain ⟨N, rfl⟩ : ∃ k, N = k + 1 := ⟨N - 1, by omega⟩
  have kb := KB (show (5 : Nat) ≠ 0 by decide) D
  obtain ⟨y_values, y_variables, y_waits, y_at, y_world, y_steps, y_blame, y_result, y_sort, y_one, y_two, y_from, y_to, y_label, y_held, y_around, y_waiting, y_operand, y_outer, y_kept⟩ := D
  obtain ⟨h0, h1, h2, h3, h4, h5, h6, h7⟩ := hH
  have e40 : gm_T s = 40 := by omega
  have steps : y_steps = 40 := by rw [h4, e40]; rfl
  exact br_f (show ¬ (1 : Int32) = 0 by decide) (br_t rfl (br_t steps (kb ⟨h4, fun z => absurd (show (5 : Nat) = 4 from z) (by decide), fun _ => h6, h0, h1, h2, h3, h4, h5, rfl, h7⟩)))
theorem gy_bOp {P : gm_P} {s : gm_S} {D : gy_D} {i w wc M : Nat} (hP : gy_P P y_ty y_runKind y_runEnd y_runWith) (hi : i < gm_cn P) (h4 : 4 ≤ gm_kd P i) (hT : gm_T s < 40) (hw : wc < 299) (hH : gy_H y_ty s D) (hwt : gy_wt D = nI wc) (hat : gy_at D = nI i) (hwd : gy_wd D = nI w - 1) (G : ∀ D', gy_W y_ty P (gm_st s) D D' wc i 0 w 0 → gy_lp post y_parts y_count y_place y_where y_given y_ty y_part y_kind y_end y_state y_with y_runKind y_runEnd y_runWith M 0 1 D') : wpY_begin (gy_R1 post M) (gy_Y y_parts y_count y_place y_where y_given y_ty y_part y_kind y_end y_state y_with y_runKind y_runEnd y_runWith D) := by
  obtain ⟨c36, hK, hP⟩ := hP
  obtain ⟨p1, p2, p3, p4, p5, p6, p7, p8, p9, p10, p11⟩ := hP i hi
  obtain ⟨y_values, y_variables, y_waits, y_at, y_world, y_steps, y_blame, y_result, y_sort, y_one, y_two, y_from, y_to, y_label, y_held, y_around, y_waiting, y_operand, y_outer, y_kept⟩ := D
  have e1 : y_waits = nI wc := hwt
  have e2 : y_at = nI i := hat
  have e3 : y_world = nI w - 1 := hwd
  subst e1 e2 e3
  obtain ⟨h0, h1, h2, h3, h4', h5, h6, h7⟩ := hH
  subst h4'
  refine nm_r (nI_1 _) ?_
  rw [nI_clamp (show i < 2 ^ 31 by omega), p1]
  refine And.intro (vp_in_nI (by omega) (by decide)) (nm_e (br_f (nI_pos (by omega)) (br_t (nI_lt (a := 3) (by omega) (by omega)) (gy_later (by omega) (gy_nb i (by omega)) (by decide) (nm_r (nI_1 i) ?_)))))
  refine gy_R1_0 (D := (y_values, y_variables, nI (wc + 1), nI (i + 1), nI w - 1, nI (gm_T s + 1), y_blame, y_result, y_sort, y_one, y_two, y_from, y_to, y_label, y_held, y_around, upd y_waiting wc (nI i), upd y_operand wc 0, upd y_outer wc (nI w - 1), upd y_kept wc 0)) h6 (G _ ⟨⟨h0, h1, h2, h3, rfl, hT, h6, h7⟩, ?_, rfl, ?_, ?_, rfl⟩)
  · intro q hq
    show (upd y_waiting wc (nI i) q, upd y_operand wc 0 q, upd y_outer wc (nI w - 1) q, upd y_kept wc 0 q) = (y_waiting q, y_operand q, y_outer q, y_kept q)
    rw [pk_un (by omega), pk_un (by omega), pk_un (by omega), pk_un (by omega)]
  · show (upd y_waiting wc (nI i) wc, upd y_operand wc 0 wc, upd y_outer wc (nI w - 1) wc, upd y_kept wc 0 wc) = _
    rw [pk_us, pk_us, pk_us, pk_us]
    rfl
  · rw [p7]; rfl
theorem gy_var_l {i K v M : Nat} {s : gm_S} (hi : i < 36) (hwi : y_runWith i = nI K) (hK : K < 100) (h64 : gm_m s ≤ 64) (hsc : ∀ w, 0 < w → w < gm_m s → y_held (w - 1) = nI (gm_e s w).1 ∧ y_around (w - 1) = nI (gm_e s w).2 - 1) (P : gy_R3 post M (nI v) (y_parts, y_count, y_place, y_where, y_values, y_variables, y_waits, y_at, y_world, y_steps, y_blame, y_result, y_given, y_ty, y_part, y_kind, y_end, y_state, y_with, y_runKind, y_runEnd, y_runWith, y_sort, y_one, y_two, y_from, y_to, y_label, y_held, y_around, y_waiting, y_operand, y_outer, y_kept)) : ∀ k w j : Nat, j + k = K → gm_var s k w = some v → wY_begin_92 (gy_R1 post M) (nI i) y_parts y_count y_place y_where y_values y_variables y_waits y_at y_world y_steps y_blame y_result y_given y_ty y_part y_kind y_end y_state y_with y_runKind y_runEnd y_runWith y_sort y_one y_two y_from y_to y_label y_held y_around y_waiting y_operand y_outer y_kept (k + 1) (nI w - 1) (nI j) := by
  intro k
  induction k with
  | zero =>
    intro w j hj H
    simp only [gm_var] at H
    by_cases c : 0 < w ∧ w < gm_m s
    · rw [if_pos c] at H
      injection H with H
      have ew : nI w - 1 = nI (w - 1) := pk_sub (b := 1) c.1
      have sc := hsc w c.1 c.2
      show vp_in (nI i) 36 ∧ _
      rw [ew, nI_clamp (show i < 2 ^ 31 by omega), hwi, nI_clamp (show w - 1 < 2 ^ 31 by omega), sc.1, H]
      exact And.intro (vp_in_nI hi (by decide)) (br_t (nI_le (by omega) (by omega)) (And.intro (vp_in_nI (by omega) (by decide)) P))
    · rw [if_neg c] at H
      exact absurd H (by simp)
  | succ k ih =>
    intro w j hj H
    simp only [gm_var] at H
    by_cases c : 0 < w ∧ w < gm_m s
    · rw [if_pos c] at H
      have ew : nI w - 1 = nI (w - 1) := pk_sub (b := 1) c.1
      have sc := hsc w c.1 c.2
      show vp_in (nI i) 36 ∧ _
      rw [ew, nI_clamp (show i < 2 ^ 31 by omega), hwi, nI_clamp (show w - 1 < 2 ^ 31 by omega), sc.2]
      exact And.intro (vp_in_nI hi (by decide)) (br_f (nI_ge (by omega) (by omega)) (And.intro (vp_in_nI (by omega) (by decide)) (nm_e (nm_r (nI_1 j) (ih (gm_e s w).2 (j + 1) (by omega) H)))))
    · rw [if_neg c] at H
      exact absurd H (by simp)
theorem gy_bNew {P : gm_P} {s : gm_S} {D : gy_D} {i w M : Nat} {out : gm_O} {t : Lean.RArray Nat} (hP : gy_P P y_ty y_runKind y_runEnd y_runWith) (hi : i < gm_cn P) (hT : gm_T s < 40) (hH : gy_H y_ty s D) (hat : gy_at D = nI i) (hwd : gy_wd D = nI w - 1)
    (H : (if gm_kd P i = 0 then gm_new (gm_st s) (1, gm_vl P i, 0, 0, .leaf 0, .leaf 0, 0, 0, 0, 0, 0) 0
          else if gm_kd P i = 1 then gm_new (gm_st s) (2, gm_vl P i, 0, 0, .leaf 1, .leaf 1, 0, 0, 0, 0, 0) 0
          else if gm_kd P i = 2 then (match gm_var (gm_st s) (gm_vl P i).toNatClampNeg w with | none => none | some v => some (0, v, 0, gm_st s))
          else if gm_kd P i = 3 then gm_new (gm_st s) (3, 0, i, w, t, t, 0, 0, 0, 0, 0) 0 else none) = some out)
    (K : out.1 = 0 → ∀ D', gy_H y_ty out.2.2.2 D' → gy_wt D' = gy_wt D → (∀ j, gy_fr D' j = gy_fr D j) → gy_R3 post M (nI out.2.1) (gy_Y y_parts y_count y_place y_where y_given y_ty y_part y_kind y_end y_state y_with y_runKind y_runEnd y_runWith D')) : wpY_begin (gy_R1 post M) (gy_Y y_parts y_count y_place y_where y_given y_ty y_part y_kind y_end y_state y_with y_runKind y_runEnd y_runWith D) := by
  obtain ⟨c36, hK, hP⟩ := hP
  obtain ⟨p1, p2, p3, p4, p5, p6, p7, p8, p9, p10, p11⟩ := hP i hi
  obtain ⟨y_values, y_variables, y_waits, y_at, y_world, y_steps, y_blame, y_result, y_sort, y_one, y_two, y_from, y_to, y_label, y_held, y_around, y_waiting, y_operand, y_outer, y_kept⟩ := D
  have e2 : y_at = nI i := hat
  have e3 : y_world = nI w - 1 := hwd
  subst e2 e3
  obtain ⟨h0, h1, h2, h3, h4, h5, h6, h7⟩ := hH
  subst h4
  have hH1 : gy_H0 y_ty (gm_st s) y_values y_sort y_one y_two y_from y_to y_label := h0
  obtain ⟨hc, hn, vc⟩ := h0
  subst hc
  have vin : vp_in (nI i) 36 := vp_in_nI (by omega) (by decide)
  have cn : ∀ (c : gm_Cell) (k : Nat) (o1 o2 o3 o4 o5 : Int32), gm_ck c = k → k < 3 → o1 = gm_ci c → gy_C y_ty c (nI k) o1 o2 o3 o4 o5 := by
    intro c k o1 o2 o3 o4 o5 hk k3 e
    unfold gy_C
    rw [hk]
    exact ⟨rfl, by omega, fun _ => e, fun z => by omega, fun z => by omega, fun z => by omega⟩
  have fin : ∀ (c : gm_Cell) (p0 : Nat) (p1 p2 : Int32), p0 < 128 → (∀ o3 o4 o5, gy_C y_ty c (nI p0) p1 p2 o3 o4 o5) → gm_new (gm_st s) c 0 = some out → wpY_make (gy_R3 post M) (y_parts, y_count, y_place, y_where, nI (gm_n s), y_variables, y_waits, nI i, nI w - 1, nI (gm_T s + 1), y_blame, y_result, y_given, y_ty, y_part, y_kind, y_end, y_state, y_with, y_runKind, y_runEnd, y_runWith, y_sort, y_one, y_two, y_from, y_to, y_label, y_held, y_around, y_waiting, y_operand, y_outer, y_kept) (nI p0) p1 p2 := by
    intro c p0 p1 p2 hp hc hnew
    obtain ⟨n5, e⟩ := gm_new_e hnew
    subst e
    have n5' : gm_n s < 5000 := n5
    refine gy_make (by omega) hp ?_
    have hnew' : gy_H0 y_ty (gm_push (gm_st s) c) (nI (gm_n s + 1)) (upd y_sort (gm_n s) (nI p0)) (upd y_one (gm_n s) p1) (upd y_two (gm_n s) p2) y_from y_to y_label := by
      refine gy_H0_push hH1 n5 ?_ ?_
      · show gy_C y_ty c (upd y_sort (gm_n s) (nI p0) (gm_n s)) (upd y_one (gm_n s) p1 (gm_n s)) (upd y_two (gm_n s) p2 (gm_n s)) (y_from (gm_n s)) (y_to (gm_n s)) (y_label (gm_n s))
        rw [pk_us, pk_us, pk_us]
        exact hc _ _ _
      · intro j hj
        have hj' : j ≠ gm_n s := hj
        rw [pk_un hj', pk_un hj', pk_un hj']
        exact ⟨rfl, rfl, rfl, rfl, rfl, rfl⟩
    exact K rfl (nI (gm_n s + 1), y_variables, y_waits, nI i, nI w - 1, nI (gm_T s + 1), y_blame, y_result, upd y_sort (gm_n s) (nI p0), upd y_one (gm_n s) p1, upd y_two (gm_n s) p2, y_from, y_to, y_label, y_held, y_around, y_waiting, y_operand, y_outer, y_kept) ⟨hnew', h1, h2, h3, rfl, hT, h6, h7⟩ rfl (fun _ => rfl)
  refine nm_r (nI_1 _) ?_
  rw [nI_clamp (show i < 2 ^ 31 by omega), p1]
  by_cases k0 : gm_kd P i = 0
  · rw [if_pos k0] at H
    rw [k0]
    refine And.intro vin (nm_e (br_f (by decide) (br_f (by decide) (br_t rfl ?_))))
    unfold wY_begin_52
    rw [nI_clamp (show i < 2 ^ 31 by omega), p1, k0]
    refine And.intro vin (br_t rfl ?_)
    unfold wY_begin_67
    rw [nI_clamp (show i < 2 ^ 31 by omega), p3]
    exact And.intro vin (fin _ 1 _ _ (by decide) (fun o3 o4 o5 => cn _ 1 _ _ _ _ _ rfl (by decide) rfl) H)
  rw [if_neg k0] at H
  by_cases k1 : gm_kd P i = 1
  · rw [if_pos k1] at H
    rw [k1]
    refine And.intro vin (nm_e (br_f (by decide) (br_f (by decide) (br_f (by decide) (br_t rfl ?_)))))
    unfold wY_begin_52
    rw [nI_clamp (show i < 2 ^ 31 by omega), p1, k1]
    refine And.intro vin (br_f (by decide) ?_)
    unfold wY_begin_67
    rw [nI_clamp (show i < 2 ^ 31 by omega), p3]
    exact And.intro vin (fin _ 2 _ _ (by decide) (fun o3 o4 o5 => cn _ 2 _ _ _ _ _ rfl (by decide) rfl) H)
  rw [if_neg k1] at H
  by_cases k2 : gm_kd P i = 2
  · rw [if_pos k2] at H
    obtain ⟨n, n10, en⟩ := p4 k2
    rw [k2]
    refine And.intro vin (nm_e (br_f (by decide) (br_f (by decide) (br_f (by decide) (br_f (by decide) (br_t rfl ?_))))))
    rw [en, nI_clamp (by omega)] at H
    cases hv : gm_var (gm_st s) n w with
    | none => rw [hv] at H; exact absurd H (by simp)
    | some v =>
      rw [hv] at H
      injection H with H
      subst H
      refine Exists.intro (n + 1) (gy_var_l (s := gm_st s) (v := v) (by omega) (p3.trans en) (by omega) h3 h7 ?_ n w 0 (Nat.zero_add n) hv)
      exact K rfl (nI (gm_n s), y_variables, y_waits, nI i, nI w - 1, nI (gm_T s + 1), y_blame, y_result, y_sort, y_one, y_two, y_from, y_to, y_label, y_held, y_around, y_waiting, y_operand, y_outer, y_kept) ⟨hH1, h1, h2, h3, rfl, hT, h6, h7⟩ rfl (fun _ => rfl)
  rw [if_neg k2] at H
  obtain ⟨k3, H3⟩ := gm_if_e H
  rw [k3]
  refine And.intro vin (nm_e (br_f (by decide) (br_f (by decide) (br_f (by decide) (br_f (by decide) (br_f (by decide) (br_t rfl ?_)))))))
  refine fin _ 3 _ _ (by decide) (fun o3 o4 o5 => ?_) H3
  exact ⟨rfl, show (3 : Nat) < 7 by decide, fun z => absurd (show (3 : Nat) < 3 from z) (by decide), fun _ => ⟨rfl, rfl⟩, fun z => absurd (show (3 : Nat) = 5 from z) (by decide), fun z => absurd (show (3 : Nat) = 4 ∨ (3 : Nat) = 6 from z) (by decide)⟩
theorem gy_opr_sim {P : gm_P} {f : Nat → Nat → Nat → gm_S → Option gm_O} (hP : gy_P P y_ty y_runKind y_runEnd y_runWith) (hf : gy_IH post y_parts y_count y_place y_where y_given y_ty y_part y_kind y_end y_state y_with y_runKind y_runEnd y_runWith f) (hlf : gm_LF f) {h i k w wc C : Nat} {s : gm_S} {out : gm_O} {D0 D : gy_D} {kept : Int32} (H : gm_opr P f h i k w s = some out) (hi : i < gm_cn P) (h4 : 4 ≤ gm_kd P i) (hk : k < gs_ar (gm_kd P i)) (hk3 : k < 3) (hC : 2000004 ≤ C) (hu : gm_u s ≤ 1000000) (hwc : wc + 1 ≤ gm_T s) (hW : gy_W y_ty P s D0 D wc i k w kept)
    (K : ∀ s2, out.1 = 0 → out.2.2.2 = gm_tk s2 → gm_T s ≤ gm_T s2 → gm_u s2 < 1000000 → ∀ M D2, C + 1 ≤ M + 2 * gm_u (gm_tk s2) → gy_H y_ty s2 D2 → gy_wt D2 = nI wc → gy_fr D2 wc = (nI i, nI k, nI w - 1, kept) → gy_A wc D0 D2 → gy_G post y_parts y_count y_place y_where y_given y_ty y_part y_kind y_end y_state y_with y_runKind y_runEnd y_runWith M i k out.2.1 (gm_kd P i) D2)
    (KB : gy_KB post y_parts y_count y_place y_where y_given y_ty y_part y_kind y_end y_state y_with y_runKind y_runEnd y_runWith out) : gy_go post y_parts y_count y_place y_where y_given y_ty y_part y_kind y_end y_state y_with y_runKind y_runEnd y_runWith C 0 1 s D := by
  obtain ⟨w1, w2, w3, w4, w5, w6⟩ := hW
  have T40 : gm_T s ≤ 40 := by
    obtain ⟨y_values, y_variables, y_waits, y_at, y_world, y_steps, y_blame, y_result, y_sort, y_one, y_two, y_from, y_to, y_label, y_held, y_around, y_waiting, y_operand, y_outer, y_kept⟩ := D
    exact w1.2.2.2.2.2.1
  unfold gm_opr at H
  refine gm_bd_e H ?_ ?_
  · intro v p s1 e1 H1
    have le1 := hlf _ _ _ _ _ e1
    refine hf (h + 2) _ w s (0, v, p, s1) D C (wc + 1) e1 hC hu w1 w3 hwc w5 w6 ?_ (fun z => absurd rfl z)
    intro D1 _ b1 b2 b3 b4
    have frc : gy_fr D1 wc = gy_fr D wc := b3 wc (by omega)
    have hu1 : gm_u s1 ≤ 1000000 := le1.2.2.2 hu
    have A1 : gy_A wc D0 D1 := gy_A_trans w2 b3 (by omega)
    have f0 : (gy_fr D1 wc).1 = nI i := by rw [frc, w4]
    have f1 : (gy_fr D1 wc).2.1 = nI k := by rw [frc, w4]
    refine gm_bd_e H1 ?_ ?_
    · intro v' p' s2 e2 H2
      obtain ⟨⟨r1, r2, r3, r4⟩, H2⟩ := gm_tick_e H2
      injection H2 with H2
      have le2 := gm_LE_fc e2
      refine gy_goOn (out := (0, v', p', s2)) hP hi h4 hk hk3 hC hu1 e2 b1 b2 (by omega) f0 f1 b4 ?_ (fun z => absurd rfl z)
      intro _ M D' hM hD' hwt' hfr'
      have eu : gm_u (gm_tk s2) = gm_u s2 + 1 := rfl
      have hM' : C ≤ M + 1 + 2 * gm_u s1 := hM
      have l2 : gm_u s1 ≤ gm_u s2 := le2.2.2.1
      have l1 : gm_T s ≤ gm_T s1 := le1.2.1
      have l3 : gm_T s1 ≤ gm_T s2 := le2.2.1
      have := K s2 (by rw [← H2]) (by rw [← H2]) (by omega) r1 M D' (by omega) hD' hwt' (by rw [hfr' wc, frc, w4]) (fun q hq => (hfr' q).trans (A1 q hq))
      rw [← H2] at this
      exact this
    · intro e2 nz
      exact gy_goOn hP hi h4 hk hk3 hC hu1 e2 b1 b2 (by omega) f0 f1 b4 (fun z => absurd z nz) KB
  · intro e1 nz
    exact hf (h + 2) _ w s out D C (wc + 1) e1 hC hu w1 w3 hwc w5 w6 (fun _ z => absurd z nz) KB
end
end
section
/-! ===== 29: the evaluator's tokens, in the reference ===== -/
section
variable {y_parts y_count y_place y_where y_values y_variables y_waits y_at y_world y_steps y_blame y_result y_given : Int32} {y_ty y_part y_kind y_end y_state y_with y_runKind y_runEnd y_runWith y_sort y_one y_two y_from y_to y_label y_held y_around y_waiting y_operand y_outer y_kept : Nat → Int32}
variable {post : Int32 → SY → Prop}
theorem gy_G_give {M i k v kd : Nat} {D : gy_D} (c4 : kd ≠ 4) (c9 : kd ≠ 9) (c10 : kd ≠ 10) (l12 : kd < 12) (h2 : gy_two kd = 0) (hk : kd = 5 → 0 < k) (hk3 : k < 3) (R : gy_R3 post M (nI v) (gy_Y y_parts y_count y_place y_where y_given y_ty y_part y_kind y_end y_state y_with y_runKind y_runEnd y_runWith D)) : gy_G post y_parts y_count y_place y_where y_given y_ty y_part y_kind y_end y_state y_with y_runKind y_runEnd y_runWith M i k v kd D := by
  obtain ⟨y_values, y_variables, y_waits, y_at, y_world, y_steps, y_blame, y_result, y_sort, y_one, y_two, y_from, y_to, y_label, y_held, y_around, y_waiting, y_operand, y_outer, y_kept⟩ := D
  have b : wY_goOn_205 (gy_R1 post M) (nI v) (nI kd) (nI 0) y_parts y_count y_place y_where y_values y_variables y_waits y_at y_world y_steps y_blame y_result y_given y_ty y_part y_kind y_end y_state y_with y_runKind y_runEnd y_runWith y_sort y_one y_two y_from y_to y_label y_held y_around y_waiting y_operand y_outer y_kept := pk_eq kd 4 (fun z => absurd z c4) (fun _ => pk_eq kd 9 (fun z => absurd z c9) (fun _ => pk_eq kd 10 (fun z => absurd z c10) (fun _ => br_t rfl R)))
  have c : wY_goOn_133 (gy_R1 post M) (nI i) (nI k) (nI v) (nI kd) (nI 0) y_parts y_count y_place y_where y_values y_variables y_waits y_at y_world y_steps y_blame y_result y_given y_ty y_part y_kind y_end y_state y_with y_runKind y_runEnd y_runWith y_sort y_one y_two y_from y_to y_label y_held y_around y_waiting y_operand y_outer y_kept := br_t rfl b
  show wY_goOn_121 (gy_R1 post M) (nI i) (nI k) (nI v) (nI kd) (nI (gy_two kd)) y_parts y_count y_place y_where y_values y_variables y_waits y_at y_world y_steps y_blame y_result y_given y_ty y_part y_kind y_end y_state y_with y_runKind y_runEnd y_runWith y_sort y_one y_two y_from y_to y_label y_held y_around y_waiting y_operand y_outer y_kept
  rw [h2]
  exact pk_eq kd 5 (fun z => pk_eq k 0 (fun y => absurd y (by have := hk z; omega)) (fun _ => c)) (fun _ => c)
theorem gy_G_two {M i k v kd : Nat} {D : gy_D} (h2 : gy_two kd = 1) (c5 : kd ≠ 5) (l12 : kd < 12) (hk3 : k < 3) (R : match D with | (y_values, y_variables, y_waits, y_at, y_world, y_steps, y_blame, y_result, y_sort, y_one, y_two, y_from, y_to, y_label, y_held, y_around, y_waiting, y_operand, y_outer, y_kept) => (k = 0 → wY_goOn_164 (gy_R1 post M) (nI i) (nI v) y_parts y_count y_place y_where y_values y_variables y_waits y_at y_world y_steps y_blame y_result y_given y_ty y_part y_kind y_end y_state y_with y_runKind y_runEnd y_runWith y_sort y_one y_two y_from y_to y_label y_held y_around y_waiting y_operand y_outer y_kept) ∧ (k ≠ 0 → wY_goOn_205 (gy_R1 post M) (nI v) (nI kd) 1 y_parts y_count y_place y_where y_values y_variables y_waits y_at y_world y_steps y_blame y_result y_given y_ty y_part y_kind y_end y_state y_with y_runKind y_runEnd y_runWith y_sort y_one y_two y_from y_to y_label y_held y_around y_waiting y_operand y_outer y_kept)) : gy_G post y_parts y_count y_place y_where y_given y_ty y_part y_kind y_end y_state y_with y_runKind y_runEnd y_runWith M i k v kd D := by
  obtain ⟨y_values, y_variables, y_waits, y_at, y_world, y_steps, y_blame, y_result, y_sort, y_one, y_two, y_from, y_to, y_label, y_held, y_around, y_waiting, y_operand, y_outer, y_kept⟩ := D
  obtain ⟨R0, R1⟩ := R
  show wY_goOn_121 (gy_R1 post M) (nI i) (nI k) (nI v) (nI kd) (nI (gy_two kd)) y_parts y_count y_place y_where y_values y_variables y_waits y_at y_world y_steps y_blame y_result y_given y_ty y_part y_kind y_end y_state y_with y_runKind y_runEnd y_runWith y_sort y_one y_two y_from y_to y_label y_held y_around y_waiting y_operand y_outer y_kept
  rw [h2]
  exact pk_eq kd 5 (fun z => absurd z c5) (fun _ => br_f (show ¬ (1 : Int32) = 0 by decide) (pk_eq k 0 (fun z => pk_eq kd 5 (fun z => absurd z c5) (fun _ => R0 z)) (fun z => R1 z)))
theorem gy_rest_sim {P : gm_P} {f : Nat → Nat → Nat → gm_S → Option gm_O} (hP : gy_P P y_ty y_runKind y_runEnd y_runWith) (hf : gy_IH post y_parts y_count y_place y_where y_given y_ty y_part y_kind y_end y_state y_with y_runKind y_runEnd y_runWith f) (hlf : gm_LF f) {h i w v wc C M : Nat} {s : gm_S} {out : gm_O} {D0 D : gy_D} {kept : Int32} (H : gm_rest P f h i w v (gm_tk s) = some out) (hi : i < gm_cn P) (h4 : 4 ≤ gm_kd P i) (hC : 2000004 ≤ C) (hu : gm_u s < 1000000) (hwc : wc + 1 ≤ gm_T s) (hM : C + 1 ≤ M + 2 * gm_u (gm_tk s)) (hH : gy_H y_ty s D) (hwt : gy_wt D = nI wc) (hfr : gy_fr D wc = (nI i, nI 0, nI w - 1, kept)) (hA : gy_A wc D0 D) (K0 : gy_K0 post y_parts y_count y_place y_where y_given y_ty y_part y_kind y_end y_state y_with y_runKind y_runEnd y_runWith C wc D0 out) (KB : gy_KB post y_parts y_count y_place y_where y_given y_ty y_part y_kind y_end y_state y_with y_runKind y_runEnd y_runWith out) : gy_G post y_parts y_count y_place y_where y_given y_ty y_part y_kind y_end y_state y_with y_runKind y_runEnd y_runWith M i 0 v (gm_kd P i) D := by
  have c36 : gm_cn P ≤ 36 := hP.1
  have hK : gy_K y_ty := hP.2.1
  have k12 : gm_kd P i < 12 := (hP.2.2 i hi).2.1
  have eu : gm_u (gm_tk s) = gm_u s + 1 := rfl
  have H0 : gy_H y_ty (gm_tk s) D := hH
  have T40 : gm_T s ≤ 40 := by
    obtain ⟨y_values, y_variables, y_waits, y_at, y_world, y_steps, y_blame, y_result, y_sort, y_one, y_two, y_from, y_to, y_label, y_held, y_around, y_waiting, y_operand, y_outer, y_kept⟩ := D
    exact hH.2.2.2.2.2.1
  have leO := gm_LE_rest hlf H
  have uO : gm_u (gm_tk s) ≤ gm_u out.2.2.2 := leO.2.2.1
  have hwc3 : wc < 299 := by omega
  have fo : (gy_fr D wc).2.2.1 = nI w - 1 := by rw [hfr]
  unfold gm_rest at H
  by_cases c9 : gm_kd P i = 9 ∨ gm_kd P i = 10
  · rw [if_pos c9] at H
    have code : out.1 ≠ 0 → out.1 = 4 := fun z => gm_take_code _ _ _ _ _ H z
    have t0 : gy_two (gm_kd P i) = 0 := by unfold gy_two; rw [if_neg (by omega)]
    have part : ∀ side, side = gm_kd P i - 9 → (match D with | (y_values, y_variables, y_waits, y_at, y_world, y_steps, y_blame, y_result, y_sort, y_one, y_two, y_from, y_to, y_label, y_held, y_around, y_waiting, y_operand, y_outer, y_kept) => wY_goOn_254 (gy_R1 post M) (nI (gm_kd P i)) (nI 0) (if side = 0 then 1 else 0) (nI v) y_parts y_count y_place y_where y_values y_variables y_waits y_at y_world y_steps y_blame y_result y_given y_ty y_part y_kind y_end y_state y_with y_runKind y_runEnd y_runWith y_sort y_one y_two y_from y_to y_label y_held y_around y_waiting y_operand y_outer y_kept) := by
      intro side es
      rw [← es] at H
      have g := gy_partOf (R0 := fun r u => match u with | (y_parts, y_count, y_place, y_where, y_values, y_variables, y_waits, y_at, y_world, y_steps, y_blame, y_result, y_given, y_ty, y_part, y_kind, y_end, y_state, y_with, y_runKind, y_runEnd, y_runWith, y_sort, y_one, y_two, y_from, y_to, y_label, y_held, y_around, y_waiting, y_operand, y_outer, y_kept) => wY_goOn_258 (gy_R1 post M) r (nI (gm_kd P i)) (nI 0) y_parts y_count y_place y_where y_values y_variables y_waits y_at y_world y_steps y_blame y_result y_given y_ty y_part y_kind y_end y_state y_with y_runKind y_runEnd y_runWith y_sort y_one y_two y_from y_to y_label y_held y_around y_waiting y_operand y_outer y_kept) (s := gm_tk s) (show side < 2 by omega) hK H H0 (fun z D' hD' hS => by
        have r := gy_fin (M := M) K0 z hD' (hS.1.trans hwt) (fun q hq => (hS.2.2.2.2 q).trans (hA q hq)) (by omega) (by omega)
        obtain ⟨y_values, y_variables, y_waits, y_at, y_world, y_steps, y_blame, y_result, y_sort, y_one, y_two, y_from, y_to, y_label, y_held, y_around, y_waiting, y_operand, y_outer, y_kept⟩ := D'
        exact br_t rfl r) (fun z x D' hE _ => by
        have r := gy_finB (M := M) (x := x) KB (code z) hE
        obtain ⟨y_values, y_variables, y_waits, y_at, y_world, y_steps, y_blame, y_result, y_sort, y_one, y_two, y_from, y_to, y_label, y_held, y_around, y_waiting, y_operand, y_outer, y_kept⟩ := D'
        exact br_t rfl r)
      obtain ⟨y_values, y_variables, y_waits, y_at, y_world, y_steps, y_blame, y_result, y_sort, y_one, y_two, y_from, y_to, y_label, y_held, y_around, y_waiting, y_operand, y_outer, y_kept⟩ := D
      exact g
    obtain ⟨y_values, y_variables, y_waits, y_at, y_world, y_steps, y_blame, y_result, y_sort, y_one, y_two, y_from, y_to, y_label, y_held, y_around, y_waiting, y_operand, y_outer, y_kept⟩ := D
    show wY_goOn_121 (gy_R1 post M) (nI i) (nI 0) (nI v) (nI (gm_kd P i)) (nI (gy_two (gm_kd P i))) y_parts y_count y_place y_where y_values y_variables y_waits y_at y_world y_steps y_blame y_result y_given y_ty y_part y_kind y_end y_state y_with y_runKind y_runEnd y_runWith y_sort y_one y_two y_from y_to y_label y_held y_around y_waiting y_operand y_outer y_kept
    rw [t0]
    refine pk_eq (gm_kd P i) 5 (fun z => by omega) (fun _ => br_t rfl (pk_eq (gm_kd P i) 4 (fun z => by omega) (fun _ => ?_)))
    rcases c9 with c | c
    · have p0 := part 0 (by omega)
      rw [c] at p0 ⊢
      exact br_t rfl (br_t rfl p0)
    · have p0 := part 1 (by omega)
      rw [c] at p0 ⊢
      exact br_f (show ¬ nI 10 = 9 by decide) (br_t rfl (br_f (show ¬ nI 10 = 9 by decide) p0))
  rw [if_neg c9] at H
  by_cases c5 : gm_kd P i = 5
  · rw [if_pos c5] at H
    obtain ⟨hv, H⟩ := gm_num_e H
    have hv' : v / 8 < gm_n s ∧ gm_ck (gm_h s (v / 8)) < 3 := hv
    have ar3 : gs_ar (gm_kd P i) = 3 := by rw [c5]; rfl
    have go : ∀ k D', (if gm_ci (gm_h (gm_tk s) (v / 8)) = 0 then 2 else 1) = k → gy_W y_ty P (gm_tk s) D0 D' wc i k w (nI v) → gy_lp post y_parts y_count y_place y_where y_given y_ty y_part y_kind y_end y_state y_with y_runKind y_runEnd y_runWith M 0 1 D' := by
      intro k D' ek hW
      rw [ek] at H
      have kk : k < 3 ∧ 0 < k := by rw [← ek]; split <;> decide
      refine gy_opr_sim hP hf hlf H hi h4 (by omega) kk.1 hC (by omega) hwc hW ?_ KB M (by omega)
      intro s2 o0 o1 o2 o3 M' D2 hM' g1 g2 g3 g4
      refine gy_G_give (by omega) (by omega) (by omega) k12 (by rw [c5]; rfl) (fun _ => kk.2) kk.1 ?_
      exact gy_fin K0 o0 (by rw [o1]; exact g1) g2 g4 (by rw [o1]; omega) (by omega)
    have s165 : ∀ k, (if gm_ci (gm_h (gm_tk s) (v / 8)) = 0 then 2 else 1) = k → (match D with | (y_values, y_variables, y_waits, y_at, y_world, y_steps, y_blame, y_result, y_sort, y_one, y_two, y_from, y_to, y_label, y_held, y_around, y_waiting, y_operand, y_outer, y_kept) => wY_goOn_165 (gy_R1 post M) (nI i) (nI v) (nI k) y_parts y_count y_place y_where y_values y_variables y_waits y_at y_world y_steps y_blame y_result y_given y_ty y_part y_kind y_end y_state y_with y_runKind y_runEnd y_runWith y_sort y_one y_two y_from y_to y_label y_held y_around y_waiting y_operand y_outer y_kept) := by
      intro k ek
      have kk : k < 3 := by rw [← ek]; split <;> decide
      exact gy_165 (hd := 0) hP hi (by omega) kk hwc3 H0 hwt fo hA (fun D' hW => go k D' ek hW)
    obtain ⟨y_values, y_variables, y_waits, y_at, y_world, y_steps, y_blame, y_result, y_sort, y_one, y_two, y_from, y_to, y_label, y_held, y_around, y_waiting, y_operand, y_outer, y_kept⟩ := D
    have one : y_one (v / 8) = gm_ci (gm_h s (v / 8)) := (hH.1.2.2 _ hv'.1).2.2.1 hv'.2
    have n5 : gm_n s ≤ 5000 := hH.1.2.1
    show wY_goOn_121 (gy_R1 post M) (nI i) (nI 0) (nI v) (nI (gm_kd P i)) (nI (gy_two (gm_kd P i))) y_parts y_count y_place y_where y_values y_variables y_waits y_at y_world y_steps y_blame y_result y_given y_ty y_part y_kind y_end y_state y_with y_runKind y_runEnd y_runWith y_sort y_one y_two y_from y_to y_label y_held y_around y_waiting y_operand y_outer y_kept
    rw [c5]
    refine br_t rfl (br_t rfl (br_t rfl ?_))
    rw [gy_div (by omega), nI_clamp (show v / 8 < 2 ^ 31 by omega), one]
    refine And.intro (by decide) (And.intro (vp_in_nI (by omega) (by decide)) (br_c (fun z => ?_) (fun z => ?_)))
    · exact s165 2 (by show (if gm_ci (gm_h s (v / 8)) = 0 then 2 else 1) = 2; rw [if_pos z])
    · exact s165 1 (by show (if gm_ci (gm_h s (v / 8)) = 0 then 2 else 1) = 1; rw [if_neg z])
  rw [if_neg c5] at H
  by_cases c11 : gm_kd P i = 11
  · rw [if_pos c11] at H
    injection H with H
    subst H
    refine gy_G_give (by omega) (by omega) (by omega) k12 (by rw [c11]; rfl) (fun z => absurd z c5) (by decide) ?_
    exact gy_fin K0 rfl H0 hwt hA (by show C ≤ M + 2 * gm_u (gm_tk s); omega) (by omega)
  rw [if_neg c11] at H
  have hk4 : gm_kd P i = 4 ∨ gm_kd P i = 6 ∨ gm_kd P i = 7 ∨ gm_kd P i = 8 := by omega
  have ar2 : gs_ar (gm_kd P i) = 2 := by rcases hk4 with c | c | c | c <;> rw [c] <;> rfl
  have t1 : gy_two (gm_kd P i) = 1 := by unfold gy_two; rw [if_pos (by omega)]
  have go : ∀ D', gy_W y_ty P (gm_tk s) D0 D' wc i 1 w (nI v) → gy_lp post y_parts y_count y_place y_where y_given y_ty y_part y_kind y_end y_state y_with y_runKind y_runEnd y_runWith M 0 1 D' := by
    intro D' hW
    refine gm_bd_e H ?_ ?_
    · intro v' p' s' e1 H1
      refine gy_opr_sim (out := (0, v', p', s')) hP hf hlf e1 hi h4 (by omega) (by decide) hC (by omega) hwc hW ?_ (fun z => absurd rfl z) M (by omega)
      intro s2 o0 o1 o2 o3 M' D2 hM' g1 g2 g3 g4
      have o1' : s' = gm_tk s2 := o1
      subst o1'
      have o2' : gm_T s ≤ gm_T s2 := o2
      have G2 : gy_H y_ty (gm_tk s2) D2 := g1
      have eu2 : gm_u (gm_tk s2) = gm_u s2 + 1 := rfl
      have n5 : gm_n s2 ≤ 5000 := by
        obtain ⟨y_values, y_variables, y_waits, y_at, y_world, y_steps, y_blame, y_result, y_sort, y_one, y_two, y_from, y_to, y_label, y_held, y_around, y_waiting, y_operand, y_outer, y_kept⟩ := D2
        exact g1.1.2.1
      refine gy_G_two t1 c5 k12 (by decide) ?_
      by_cases c4 : gm_kd P i = 4
      · rw [if_pos c4] at H1
        obtain ⟨q5, H1⟩ := gm_if_e H1
        have lt := gm_call_lt H1
        have lt' : v / 8 < gm_n s2 := lt
        have leC := gm_LE_call hlf _ _ _ _ _ _ H1
        have main := gy_call_l (x1 := v) (M := M') hf hlf hK (by omega) hC (by omega) _ 0 h v v' (gm_tk s2) out D2 H1 (by omega) (by show wc + 1 ≤ gm_T s2; omega) rfl (fun q hq => absurd hq (Nat.not_lt_zero _)) G2 g2 g4 (by omega) (fun _ => K0) (fun M'' hM'' z D' a1 a2 a3 => gy_un0 (gy_fin K0 z a1 a2 a3 hM'' (by omega))) KB _ (Nat.lt_succ_self _)
        obtain ⟨y_values, y_variables, y_waits, y_at, y_world, y_steps, y_blame, y_result, y_sort, y_one, y_two, y_from, y_to, y_label, y_held, y_around, y_waiting, y_operand, y_outer, y_kept⟩ := D2
        have e1 : y_waits = nI wc := g2
        subst e1
        have gk : (y_waiting wc, y_operand wc, y_outer wc, y_kept wc) = (nI i, nI 1, nI w - 1, nI v) := g3
        have kv : y_kept wc = nI v := congrArg (fun q => q.2.2.2) gk
        refine ⟨fun z => absurd z (by decide), fun _ => ?_⟩
        rw [c4]
        refine br_t rfl ?_
        rw [nI_clamp (show wc < 2 ^ 31 by omega), kv]
        exact And.intro (vp_in_nI (by omega) (by decide)) (And.intro (by decide) (nm_r (gy_div (by omega)) (Exists.intro _ main)))
      · rw [if_neg c4] at H1
        have eO : gm_u out.2.2.2 = gm_u (gm_tk s2) := by
          by_cases c6 : gm_kd P i = 6
          · rw [if_pos c6] at H1
            exact (gm_new_same (gm_num_e (gm_num_e H1).2).2).2.2.2
          rw [if_neg c6] at H1
          by_cases c7 : gm_kd P i = 7
          · rw [if_pos c7] at H1
            exact (gm_new_same (gm_num_e (gm_num_e H1).2).2).2.2.2
          rw [if_neg c7] at H1
          exact (gm_new_same (gm_if_e (gm_if_e H1).2).2).2.2.2
        have j := gy_joined (R0 := gy_R3 post M') (s := gm_tk s2) (v := v) (v' := v') G2 H1 (fun z D' a1 a2 => gy_fin K0 z a1 (a2.1.trans g2) (fun q hq => (a2.2.2.2.2 q).trans (g4 q hq)) (by rw [eO]; omega) (by omega))
        obtain ⟨y_values, y_variables, y_waits, y_at, y_world, y_steps, y_blame, y_result, y_sort, y_one, y_two, y_from, y_to, y_label, y_held, y_around, y_waiting, y_operand, y_outer, y_kept⟩ := D2
        have e1 : y_waits = nI wc := g2
        subst e1
        have gk : (y_waiting wc, y_operand wc, y_outer wc, y_kept wc) = (nI i, nI 1, nI w - 1, nI v) := g3
        have kv : y_kept wc = nI v := congrArg (fun q => q.2.2.2) gk
        refine ⟨fun z => absurd z (by decide), fun _ => ?_⟩
        refine pk_eq (gm_kd P i) 4 (fun z => absurd z c4) (fun _ => pk_eq (gm_kd P i) 9 (fun z => by omega) (fun _ => pk_eq (gm_kd P i) 10 (fun z => by omega) (fun _ => br_f (show ¬ (1 : Int32) = 0 by decide) ?_)))
        rw [nI_clamp (show wc < 2 ^ 31 by omega), kv]
        exact And.intro (vp_in_nI (by omega) (by decide)) j
    · intro e1 nz
      exact gy_opr_sim hP hf hlf e1 hi h4 (by omega) (by decide) hC (by omega) hwc hW (fun _ z => absurd z nz) KB M (by omega)
  refine gy_G_two t1 c5 k12 (by decide) ?_
  have s165 : (match D with | (y_values, y_variables, y_waits, y_at, y_world, y_steps, y_blame, y_result, y_sort, y_one, y_two, y_from, y_to, y_label, y_held, y_around, y_waiting, y_operand, y_outer, y_kept) => wY_goOn_165 (gy_R1 post M) (nI i) (nI v) (nI 1) y_parts y_count y_place y_where y_values y_variables y_waits y_at y_world y_steps y_blame y_result y_given y_ty y_part y_kind y_end y_state y_with y_runKind y_runEnd y_runWith y_sort y_one y_two y_from y_to y_label y_held y_around y_waiting y_operand y_outer y_kept) := gy_165 (hd := 0) hP hi (by omega) (by decide) hwc3 H0 hwt fo hA go
  obtain ⟨y_values, y_variables, y_waits, y_at, y_world, y_steps, y_blame, y_result, y_sort, y_one, y_two, y_from, y_to, y_label, y_held, y_around, y_waiting, y_operand, y_outer, y_kept⟩ := D
  exact ⟨fun _ => s165, fun z => absurd rfl z⟩
theorem gy_ev_sim {P : gm_P} (hP : gy_P P y_ty y_runKind y_runEnd y_runWith) : ∀ d, gy_IH post y_parts y_count y_place y_where y_given y_ty y_part y_kind y_end y_state y_with y_runKind y_runEnd y_runWith (gm_ev P d) := by
  intro d
  have c36 : gm_cn P ≤ 36 := hP.1
  induction d with
  | zero =>
    intro h i w s out D C wc H
    exact absurd H (by simp [gm_ev])
  | succ d ih =>
    intro h i w s out D C wc H hC hu0 hH hwt hwc hat hwd K0 KB
    have leO := gm_LE_ev (P := P) (d + 1) _ _ _ _ _ H
    simp only [gm_ev] at H
    obtain ⟨hi, H⟩ := gm_if_e H
    obtain ⟨⟨r1, r2, r3, r4⟩, H⟩ := gm_tick_e H
    have H0 : gy_H y_ty (gm_tk s) D := hH
    have eu : gm_u (gm_tk s) = gm_u s + 1 := rfl
    have i36 : i < 36 := by omega
    have T40 : gm_T s ≤ 40 := by
      obtain ⟨y_values, y_variables, y_waits, y_at, y_world, y_steps, y_blame, y_result, y_sort, y_one, y_two, y_from, y_to, y_label, y_held, y_around, y_waiting, y_operand, y_outer, y_kept⟩ := D
      exact hH.2.2.2.2.2.1
    by_cases hT : 40 ≤ gm_T (gm_tk s)
    · rw [if_pos hT] at H
      injection H with H
      subst H
      exact gy_bLong hC hu0 hT hH KB
    rw [if_neg hT] at H
    have hT' : gm_T s < 40 := Nat.lt_of_not_le hT
    by_cases k4 : 4 ≤ gm_kd P i
    · rw [if_neg (by omega), if_neg (by omega), if_neg (by omega), if_neg (by omega)] at H
      refine gy_b0 hC hu0 hT' hH (fun M hM => gy_bOp (s := gm_tk s) hP hi k4 hT' (by omega) H0 hwt hat hwd (fun D' hW => ?_))
      have ar : 0 < gs_ar (gm_kd P i) := gs_ar_k k4 (Or.inl rfl)
      have eT : gm_T (gm_st (gm_tk s)) = gm_T s + 1 := rfl
      have eu2 : gm_u (gm_st (gm_tk s)) = gm_u s + 1 := rfl
      refine gm_bd_e H ?_ ?_
      · intro v p s1 e1 H1
        refine gy_opr_sim (out := (0, v, p, s1)) hP ih (gm_LE_ev d) e1 hi k4 ar (by decide) hC (by omega) (by omega) hW ?_ (fun z => absurd rfl z) M (by omega)
        intro s2 o0 o1 o2 o3 M' D2 hM' g1 g2 g3 g4
        have o1' : s1 = gm_tk s2 := o1
        subst o1'
        exact gy_rest_sim hP ih (gm_LE_ev d) H1 hi k4 hC o3 (by omega) hM' g1 g2 g3 g4 K0 KB
      · intro e1 nz
        exact gy_opr_sim hP ih (gm_LE_ev d) e1 hi k4 ar (by decide) hC (by omega) (by omega) hW (fun _ z => absurd z nz) KB M (by omega)
    · have H' : (if gm_kd P i = 0 then gm_new (gm_st (gm_tk s)) (1, gm_vl P i, 0, 0, .leaf 0, .leaf 0, 0, 0, 0, 0, 0) 0
          else if gm_kd P i = 1 then gm_new (gm_st (gm_tk s)) (2, gm_vl P i, 0, 0, .leaf 1, .leaf 1, 0, 0, 0, 0, 0) 0
          else if gm_kd P i = 2 then (match gm_var (gm_st (gm_tk s)) (gm_vl P i).toNatClampNeg w with | none => none | some v => some (0, v, 0, gm_st (gm_tk s)))
          else if gm_kd P i = 3 then gm_new (gm_st (gm_tk s)) (3, 0, i, w, gm_ty P i, gm_ty P i, 0, 0, 0, 0, 0) 0 else none) = some out := by
        by_cases k0 : gm_kd P i = 0
        · rw [if_pos k0] at H ⊢; exact H
        rw [if_neg k0] at H ⊢
        by_cases k1 : gm_kd P i = 1
        · rw [if_pos k1] at H ⊢; exact H
        rw [if_neg k1] at H ⊢
        by_cases k2 : gm_kd P i = 2
        · rw [if_pos k2] at H ⊢; exact H
        rw [if_neg k2] at H ⊢
        have k3 : gm_kd P i = 3 := by omega
        rw [if_pos k3] at H ⊢
        exact H
      have uO : gm_u s + 1 ≤ gm_u out.2.2.2 := by
        by_cases k0 : gm_kd P i = 0
        · rw [if_pos k0] at H'
          exact Nat.le_of_eq (gm_new_same H').2.2.2.symm
        rw [if_neg k0] at H'
        by_cases k1 : gm_kd P i = 1
        · rw [if_pos k1] at H'
          exact Nat.le_of_eq (gm_new_same H').2.2.2.symm
        rw [if_neg k1] at H'
        by_cases k2 : gm_kd P i = 2
        · rw [if_pos k2] at H'
          cases hv : gm_var (gm_st (gm_tk s)) (gm_vl P i).toNatClampNeg w with
          | none => rw [hv] at H'; exact absurd H' (by simp)
          | some v => rw [hv] at H'; injection H' with H'; subst H'; exact Nat.le_refl _
        rw [if_neg k2] at H'
        exact Nat.le_of_eq (gm_new_same (gm_if_e H').2).2.2.2.symm
      refine gy_b0 hC hu0 hT' hH (fun M hM => gy_bNew (s := gm_tk s) hP hi hT' H0 hat hwd H' ?_)
      intro z D' a1 a2 a3
      exact gy_fin K0 z a1 (a2.trans hwt) (fun q hq => a3 q) (by omega) (by omega)
end
end
section
/-! ===== 30: the type of a token, and then its casts ===== -/
def gs_sel (j : Nat) (t0 t1 t2 : Lean.RArray Nat) : Lean.RArray Nat := if j = 0 then t0 else if j = 1 then t1 else t2
def gs_pre (nm : Nat → Lean.RArray Nat) (k v : Nat) (l : List Nat) (t0 t1 : Lean.RArray Nat) : Nat × Lean.RArray Nat :=
  if k = 0 ∨ k = 6 then (0, .leaf 0) else if k = 1 ∨ k = 7 then (0, .leaf 1) else if k = 2 then gs_var nm l[v]? else if k = 3 then gs_cmp 3 (nm v) t0
  else if k = 5 then (0, t1) else if k = 8 then gs_cmp 4 t0 t1 else if k = 11 then (0, nm v)
  else if gd_hd t0 = 2 then (0, .leaf 2) else if gd_hd t0 = (if k = 4 then 3 else 4) then (0, if k = 9 then gd_lf t0 else gd_rt t0) else (2, .leaf 0)
def gs_all (k : Nat) (ti t0 t1 t2 : Lean.RArray Nat) : Prop := ∀ j, j < gs_ar k → gd_cb (gs_sel j t0 t1 t2) (gs_tg k j ti t0 (gs_sel j t0 t1 t2)) = true
theorem gs_k12 {k : Nat} (h : k < 12) : k = 0 ∨ k = 1 ∨ k = 2 ∨ k = 3 ∨ k = 4 ∨ k = 5 ∨ k = 6 ∨ k = 7 ∨ k = 8 ∨ k = 9 ∨ k = 10 ∨ k = 11 := by omega
theorem gs_cbG {t : Lean.RArray Nat} (ht : gd_vt t) (g : Lean.RArray Nat) : gd_cb t (if gd_hd t = 2 then g else t) = true := by
  by_cases c : gd_hd t = 2
  · rw [if_pos c, gm_leaf_of ht (by omega), c]; exact gd_cb_any _
  · rw [if_neg c]; exact gd_cb_refl _
/-- the type has a fault -/
theorem gs_pre_bad {nm : Nat → Lean.RArray Nat} {k v : Nat} {l : List Nat} {t0 t1 t2 : Lean.RArray Nat} (hk : k < 12) (h : (gs_pre nm k v l t0 t1).1 ≠ 0) : (gs_typ nm k v l t0 t1 t2).1 = (gs_pre nm k v l t0 t1).1 := by
  rcases gs_k12 hk with e | e | e | e | e | e | e | e | e | e | e | e <;> subst e
  · exact absurd rfl h
  · exact absurd rfl h
  · rfl
  · rfl
  · rw [gs_typ4]
    show _ = (if gd_hd t0 = 2 then ((0 : Nat), Lean.RArray.leaf 2) else if gd_hd t0 = 3 then (0, gd_rt t0) else (2, .leaf 0)).1
    change (if gd_hd t0 = 2 then ((0 : Nat), Lean.RArray.leaf 2) else if gd_hd t0 = 3 then (0, gd_rt t0) else (2, .leaf 0)).1 ≠ 0 at h
    by_cases a : gd_hd t0 = 2
    · rw [if_pos a] at h; exact absurd rfl h
    · rw [if_neg a] at h
      rw [if_neg a, if_neg a]
      by_cases b : gd_hd t0 = 3
      · rw [if_pos b] at h; exact absurd rfl h
      · rw [if_neg b, if_neg b]
  · exact absurd rfl h
  · exact absurd rfl h
  · exact absurd rfl h
  · rfl
  · rfl
  · rfl
  · exact absurd rfl h
theorem gs_pre_ty {nm : Nat → Lean.RArray Nat} {k v : Nat} {l : List Nat} {t0 t1 t2 : Lean.RArray Nat} (hk : k < 12) (h : (gs_pre nm k v l t0 t1).1 = 0) : (gs_typ nm k v l t0 t1 t2).2 = (gs_pre nm k v l t0 t1).2 := by
  rcases gs_k12 hk with e | e | e | e | e | e | e | e | e | e | e | e <;> subst e
  · rfl
  · rfl
  · rfl
  · rfl
  · rw [gs_typ4]
    show _ = (if gd_hd t0 = 2 then ((0 : Nat), Lean.RArray.leaf 2) else if gd_hd t0 = 3 then (0, gd_rt t0) else (2, .leaf 0)).2
    by_cases a : gd_hd t0 = 2
    · rw [if_pos a, if_pos a]
    · rw [if_neg a, if_neg a]
      by_cases b : gd_hd t0 = 3
      · rw [if_pos b, if_pos b]
      · rw [if_neg b, if_neg b]
  · rfl
  · rfl
  · rfl
  · rfl
  · rfl
  · rfl
  · rfl
theorem gs_ite2 {p : Prop} [Decidable p] : ((if p then (0 : Nat) else 2) = 0 ↔ p) ∧ ((if p then (0 : Nat) else 2) ≠ 0 → (if p then (0 : Nat) else 2) = 2) := by
  by_cases c : p
  · rw [if_pos c]; exact ⟨⟨fun _ => c, fun _ => rfl⟩, fun z => absurd rfl z⟩
  · rw [if_neg c]; exact ⟨⟨fun z => absurd z (by decide), fun z => absurd z c⟩, fun _ => rfl⟩
/-- the type has none: then it is the casts that tell -/
theorem gs_pre_ok {nm : Nat → Lean.RArray Nat} {k v : Nat} {l : List Nat} {t0 t1 t2 : Lean.RArray Nat} (hk : k < 12) (h0 : gd_vt t0) (h : (gs_pre nm k v l t0 t1).1 = 0) : ((gs_typ nm k v l t0 t1 t2).1 = 0 ↔ gs_all k (gs_pre nm k v l t0 t1).2 t0 t1 t2) ∧ ((gs_typ nm k v l t0 t1 t2).1 ≠ 0 → (gs_typ nm k v l t0 t1 t2).1 = 2) := by
  have one : ∀ {q : Nat → Prop}, (∀ j, j < 1 → q j) ↔ q 0 := fun {q} => ⟨fun z => z 0 (by decide), fun z j hj => by rw [show j = 0 by omega]; exact z⟩
  have two : ∀ {q : Nat → Prop}, (∀ j, j < 2 → q j) ↔ q 0 ∧ q 1 := fun {q} => ⟨fun z => ⟨z 0 (by decide), z 1 (by decide)⟩, fun z j hj => by
    by_cases c : j = 0
    · rw [c]; exact z.1
    · rw [show j = 1 by omega]; exact z.2⟩
  have three : ∀ {q : Nat → Prop}, (∀ j, j < 3 → q j) ↔ q 0 ∧ q 1 ∧ q 2 := fun {q} => ⟨fun z => ⟨z 0 (by decide), z 1 (by decide), z 2 (by decide)⟩, fun z j hj => by
    by_cases c : j = 0
    · rw [c]; exact z.1
    · by_cases d : j = 1
      · rw [d]; exact z.2.1
      · rw [show j = 2 by omega]; exact z.2.2⟩
  rcases gs_k12 hk with e | e | e | e | e | e | e | e | e | e | e | e <;> subst e
  · exact ⟨⟨fun _ j hj => absurd hj (Nat.not_lt_zero _), fun _ => rfl⟩, fun z => absurd rfl z⟩
  · exact ⟨⟨fun _ j hj => absurd hj (Nat.not_lt_zero _), fun _ => rfl⟩, fun z => absurd rfl z⟩
  · exact ⟨⟨fun _ j hj => absurd hj (Nat.not_lt_zero _), fun _ => h⟩, fun z => absurd h z⟩
  · exact ⟨⟨fun _ => one.mpr (gd_cb_refl _), fun _ => h⟩, fun z => absurd h z⟩
  · have e1 : gs_all 4 (gs_pre nm 4 v l t0 t1).2 t0 t1 t2 ↔ gd_cb t0 (if gd_hd t0 = 2 then .branch 3 (.leaf 2) (.leaf 2) else t0) = true ∧ gd_cb t1 (if gd_hd t0 = 2 then .leaf 2 else gd_lf t0) = true := two
    rw [e1, gs_typ4]
    change (if gd_hd t0 = 2 then ((0 : Nat), Lean.RArray.leaf 2) else if gd_hd t0 = 3 then (0, gd_rt t0) else (2, .leaf 0)).1 = 0 at h
    have c0 := gs_cbG h0 (.branch 3 (.leaf 2) (.leaf 2))
    by_cases a : gd_hd t0 = 2
    · rw [if_pos a] at c0 ⊢
      rw [if_pos a, if_pos a]
      exact ⟨⟨fun _ => ⟨c0, gd_cb_any' _⟩, fun _ => rfl⟩, fun z => absurd rfl z⟩
    · rw [if_neg a] at h c0 ⊢
      rw [if_neg a, if_neg a]
      by_cases b : gd_hd t0 = 3
      · rw [if_pos b]
        have g := gs_ite2 (p := gd_cb t1 (gd_lf t0) = true)
        exact ⟨⟨fun z => ⟨c0, g.1.mp z⟩, fun z => g.1.mpr z.2⟩, g.2⟩
      · rw [if_neg b] at h
        exact absurd h (by decide)
  · have e1 : gs_all 5 (gs_pre nm 5 v l t0 t1).2 t0 t1 t2 ↔ gd_cb t0 (.leaf 1) = true ∧ gd_cb t1 t1 = true ∧ gd_cb t2 t1 = true := three
    rw [e1]
    have g := gs_ite2 (p := gd_cb t0 (.leaf 1) = true ∧ gd_cb t2 t1 = true)
    exact ⟨⟨fun z => ⟨(g.1.mp z).1, gd_cb_refl _, (g.1.mp z).2⟩, fun z => g.1.mpr ⟨z.1, z.2.2⟩⟩, g.2⟩
  · have e1 : gs_all 6 (gs_pre nm 6 v l t0 t1).2 t0 t1 t2 ↔ gd_cb t0 (.leaf 0) = true ∧ gd_cb t1 (.leaf 0) = true := two
    rw [e1]
    exact gs_ite2 (p := gd_cb t0 (.leaf 0) = true ∧ gd_cb t1 (.leaf 0) = true)
  · have e1 : gs_all 7 (gs_pre nm 7 v l t0 t1).2 t0 t1 t2 ↔ gd_cb t0 (.leaf 0) = true ∧ gd_cb t1 (.leaf 0) = true := two
    rw [e1]
    exact gs_ite2 (p := gd_cb t0 (.leaf 0) = true ∧ gd_cb t1 (.leaf 0) = true)
  · exact ⟨⟨fun _ => two.mpr ⟨gd_cb_refl _, gd_cb_refl _⟩, fun _ => h⟩, fun z => absurd h z⟩
  · exact ⟨⟨fun _ => one.mpr (gs_cbG h0 _), fun _ => h⟩, fun z => absurd h z⟩
  · exact ⟨⟨fun _ => one.mpr (gs_cbG h0 _), fun _ => h⟩, fun z => absurd h z⟩
  · have e1 : gs_all 11 (gs_pre nm 11 v l t0 t1).2 t0 t1 t2 ↔ gd_cb t0 (nm v) = true := one
    rw [e1]
    exact gs_ite2 (p := gd_cb t0 (nm v) = true)
theorem gs_pre_TY {nm : Nat → Lean.RArray Nat} (hn : ∀ n, gd_TY (nm n)) {k v : Nat} {l : List Nat} {t0 t1 : Lean.RArray Nat} (hk : k < 12) (h0 : gd_TY t0) (h1 : gd_TY t1) (h : (gs_pre nm k v l t0 t1).1 = 0) : gd_TY (gs_pre nm k v l t0 t1).2 := by
  rw [← gs_pre_ty (t2 := t1) hk h]
  exact gs_typ_TY hn h0 h1
theorem gs_D_le (kd : Nat → Nat) : ∀ i, gs_D kd i ≤ 2 * i + 1 := by
  intro i
  induction i with
  | zero => exact Nat.le_refl _
  | succ i ih =>
    have a : gs_ar (kd i) ≤ 3 := by unfold gs_ar; split <;> (try split) <;> (try split) <;> omega
    show gs_D kd i + gs_ar (kd i) - 1 ≤ _
    omega
theorem gs_ar3 (k : Nat) : gs_ar k ≤ 3 := by unfold gs_ar; split <;> (try split) <;> (try split) <;> omega
theorem gs_pre_n4 {nm : Nat → Lean.RArray Nat} {k v : Nat} {l : List Nat} {t0 t1 : Lean.RArray Nat} (hk : k < 12) (h : (gs_pre nm k v l t0 t1).1 = 4) : False := by
  have cm : ∀ h a b, (gs_cmp h a b).1 ≠ 4 := by
    intro h a b
    unfold gs_cmp
    by_cases c : 1 + gd_sz a + gd_sz b ≤ 7
    · rw [if_pos c]; exact (by decide : (0 : Nat) ≠ 4)
    · rw [if_neg c]; exact (by decide : (3 : Nat) ≠ 4)
  have p2 : ∀ y x, (if gd_hd t0 = 2 then ((0 : Nat), Lean.RArray.leaf 2) else if gd_hd t0 = y then (0, x) else (2, Lean.RArray.leaf 0)).1 ≠ 4 := by
    intro y x
    by_cases c : gd_hd t0 = 2
    · rw [if_pos c]; exact (by decide : (0 : Nat) ≠ 4)
    · rw [if_neg c]
      by_cases d : gd_hd t0 = y
      · rw [if_pos d]; exact (by decide : (0 : Nat) ≠ 4)
      · rw [if_neg d]; exact (by decide : (2 : Nat) ≠ 4)
  rcases gs_k12 hk with e | e | e | e | e | e | e | e | e | e | e | e <;> subst e
  · exact absurd (show (0 : Nat) = 4 from h) (by decide)
  · exact absurd (show (0 : Nat) = 4 from h) (by decide)
  · change (gs_var nm l[v]?).1 = 4 at h
    cases ho : l[v]? with
    | none => rw [ho] at h; exact absurd (show (2 : Nat) = 4 from h) (by decide)
    | some n => rw [ho] at h; exact absurd (show (0 : Nat) = 4 from h) (by decide)
  · exact cm _ _ _ h
  · exact p2 3 _ h
  · exact absurd (show (0 : Nat) = 4 from h) (by decide)
  · exact absurd (show (0 : Nat) = 4 from h) (by decide)
  · exact absurd (show (0 : Nat) = 4 from h) (by decide)
  · exact cm _ _ _ h
  · exact p2 4 _ h
  · exact p2 4 _ h
  · exact absurd (show (0 : Nat) = 4 from h) (by decide)
end
section
/-! ===== 31: X's check: form, operands, variables ===== -/
def gs_vr (kd : Nat → Nat) (vl : Nat → Int32) (i : Nat) : Prop := kd i = 2 ∨ kd i = 3 ∨ kd i = 11 → ∃ n, n < 10 ∧ vl i = nI n
/-- X's draft -/
def gx_DR (kd : Nat → Nat) (vl : Nat → Int32) (nm : Nat → Lean.RArray Nat) (cnt : Nat) (named kinds values : Nat → Int32) : Prop :=
  cnt ≤ 36 ∧ (∀ n, gd_TY (nm n)) ∧ (∀ n, n < 10 → named n = nI (gd_en (nm n))) ∧ ∀ i, i < cnt → kinds i = nI (kd i) ∧ kd i < 12 ∧ values i = vl i ∧ gs_vr kd vl i
theorem gx_am1 (n : Nat) : nI n + (-1) = nI n - 1 := (Int32.sub_eq_add_neg _ _).symm
theorem gx_am {a b : Nat} (h : 1 ≤ a + b) : nI a + (nI b - 1) = nI (a + b - 1) := by
  rw [Int32.sub_eq_add_neg, ← Int32.add_assoc, nI_add, ← Int32.sub_eq_add_neg]
  exact pk_sub (b := 1) h
section
variable {x_typeDraft x_typeCount x_count x_wrongAt x_keptPlace x_cellCount x_scopeCount x_frameCount x_mode x_atToken x_scope x_current x_callee x_side x_ending x_faultLabel x_stepsTaken x_runVerdict x_runBlame x_result : Int32} {x_named x_kinds x_values x_ends x_types x_operands x_targets x_cellShape x_cellLabel x_cellOne x_cellTwo x_cellThree x_scopeValue x_scopeOuter x_frameKind x_frameOne x_frameTwo x_frameThree : Nat → Int32}
variable {kd : Nat → Nat} {vl : Nat → Int32} {nm : Nat → Lean.RArray Nat} {cnt : Nat}
theorem gx_syn {post : Int32 → Prop} (hd : gx_DR kd vl nm cnt x_named x_kinds x_values) (A : gs_WF kd cnt → post (-1)) (B : ∀ i, gs_FA kd cnt i → post (nI i)) : ∀ d i, i + d = cnt → (∀ j, j < i → 0 < gs_D kd j) → wX_syntaxFault_4 post x_typeDraft x_typeCount (nI cnt) x_wrongAt x_keptPlace x_cellCount x_scopeCount x_frameCount x_mode x_atToken x_scope x_current x_callee x_side x_ending x_faultLabel x_stepsTaken x_runVerdict x_runBlame x_result x_named x_kinds x_values x_ends x_types x_operands x_targets x_cellShape x_cellLabel x_cellOne x_cellTwo x_cellThree x_scopeValue x_scopeOuter x_frameKind x_frameOne x_frameTwo x_frameThree 32768 32768 32768 32768 (d + 1) (nI (gs_D kd i)) (nI i) := by
  obtain ⟨c36, hn, hnm, hk⟩ := hd
  intro d
  induction d with
  | zero =>
    intro i e h
    have e' : i = cnt := by omega
    subst e'
    have dl := gs_D_le kd i
    exact br_t (Int32.le_refl _) (pk_eq (gs_D kd i) 0 (fun z => A ⟨h, z⟩) (fun z => B i ⟨h, Or.inr ⟨rfl, by omega⟩⟩))
  | succ d ih =>
    intro i e h
    have dl := gs_D_le kd i
    obtain ⟨k1, k2, k3, k4⟩ := hk i (by omega)
    refine br_f (nI_ge (by omega) (by omega)) (pk_eq (gs_D kd i) 0 (fun z => B i ⟨h, Or.inl ⟨by omega, z⟩⟩) (fun z => ?_))
    rw [nI_clamp (show i < 2 ^ 31 by omega), k1]
    refine And.intro (vp_in_nI (by omega) (by decide)) (gx_arity k2 (nm_r (gx_am (by omega)) (nm_r (nI_1 i) (ih (i + 1) (by omega) ?_))))
    intro j hj
    by_cases c : j = i
    · rw [c]; omega
    · exact h j (by omega)
theorem gx_syntaxFault {post : Int32 → Prop} (hd : gx_DR kd vl nm cnt x_named x_kinds x_values) (A : gs_WF kd cnt → post (-1)) (B : ∀ i, gs_FA kd cnt i → post (nI i)) : wpX_syntaxFault post (x_typeDraft, x_typeCount, nI cnt, x_wrongAt, x_keptPlace, x_cellCount, x_scopeCount, x_frameCount, x_mode, x_atToken, x_scope, x_current, x_callee, x_side, x_ending, x_faultLabel, x_stepsTaken, x_runVerdict, x_runBlame, x_result, x_named, x_kinds, x_values, x_ends, x_types, x_operands, x_targets, x_cellShape, x_cellLabel, x_cellOne, x_cellTwo, x_cellThree, x_scopeValue, x_scopeOuter, x_frameKind, x_frameOne, x_frameTwo, x_frameThree, 32768, 32768, 32768, 32768) :=
  Exists.intro (cnt + 1) (gx_syn hd A B cnt 0 (Nat.zero_add cnt) (fun j hj => absurd hj (Nat.not_lt_zero _)))
theorem gx_fo_in {post : SX → Prop} {J7 : Int32 → (Nat → Int32) → (Nat → Int32) → (Nat → Int32) → (Nat → Int32) → (Nat → Int32) → (Nat → Int32) → (Nat → Int32) → (Nat → Int32) → (Nat → Int32) → (Nat → Int32) → (Nat → Int32) → (Nat → Int32) → (Nat → Int32) → (Nat → Int32) → (Nat → Int32) → (Nat → Int32) → (Nat → Int32) → (Nat → Int32) → Prop} {i : Nat} {o0 : Nat → Int32} (W : gs_WF kd cnt) (c36 : cnt ≤ 36) (hi : i < cnt) (he : ∀ j, i < j → j < cnt → x_ends j = nI (gs_en kd cnt j))
    (G : ∀ o', (∀ m, m < gs_ar (kd i) → o' (3 * i + m) = nI (gs_op (gs_en kd cnt) i m)) → (∀ q, (q < 3 * i ∨ 3 * i + 3 ≤ q) → o' q = o0 q) → J7 (nI i - 1) x_named x_kinds x_values (upd x_ends i (nI (gs_en kd cnt i))) x_types o' x_targets x_cellShape x_cellLabel x_cellOne x_cellTwo x_cellThree x_scopeValue x_scopeOuter x_frameKind x_frameOne x_frameTwo x_frameThree) :
    ∀ d k, k + d = gs_ar (kd i) → ∀ o, (∀ m, m < k → o (3 * i + m) = nI (gs_op (gs_en kd cnt) i m)) → (∀ q, (q < 3 * i ∨ 3 * i + 3 ≤ q) → o q = o0 q) → wX_findOperands_28 post J7 (nI i) (nI (gs_ar (kd i))) x_typeDraft x_typeCount x_count x_wrongAt x_keptPlace x_cellCount x_scopeCount x_frameCount x_mode x_atToken x_scope x_current x_callee x_side x_ending x_faultLabel x_stepsTaken x_runVerdict x_runBlame x_result 32768 32768 32768 32768 (d + 1) (nI (gs_op (gs_en kd cnt) i k)) (nI k) x_named x_kinds x_values x_ends x_types o x_targets x_cellShape x_cellLabel x_cellOne x_cellTwo x_cellThree x_scopeValue x_scopeOuter x_frameKind x_frameOne x_frameTwo x_frameThree := by
  have a3 := gs_ar3 (kd i)
  intro d
  induction d with
  | zero =>
    intro k e o h1 h2
    have e' : k = gs_ar (kd i) := by omega
    subst e'
    refine br_t (Int32.le_refl _) ?_
    rw [nI_clamp (show i < 2 ^ 31 by omega), gs_op_end W hi]
    exact And.intro (vp_in_nI (by omega) (by decide)) (nm_e (nm_r (gx_am1 i) (G o h1 h2)))
  | succ d ih =>
    intro k e o h1 h2
    have ol := gs_op_lt W hi (show k < gs_ar (kd i) by omega)
    have e3 : (3 : Int32) * nI i + nI k = nI (3 * i + k) := by rw [show (3 : Int32) * nI i = nI (3 * i) from pk_mul 3 i, nI_add]
    refine br_f (nI_ge (by omega) (by omega)) ?_
    rw [e3, nI_clamp (show 3 * i + k < 2 ^ 31 by omega), nI_clamp (show gs_op (gs_en kd cnt) i k < 2 ^ 31 by omega), he _ ol.1 ol.2]
    refine And.intro (vp_in_nI (by omega) (by decide)) (nm_e (And.intro (vp_in_nI (by omega) (by decide)) (nm_e (nm_r (nI_1 k) (ih (k + 1) (by omega) (upd o (3 * i + k) (nI (gs_op (gs_en kd cnt) i k))) ?_ ?_)))))
    · intro m hm
      by_cases c : m = k
      · subst c; exact pk_us
      · rw [pk_un (by omega)]; exact h1 m (by omega)
    · intro q hq
      rw [pk_un (by omega)]
      exact h2 q hq
theorem gx_fo {post : SX → Prop} (W : gs_WF kd cnt) (hd : gx_DR kd vl nm cnt x_named x_kinds x_values) (P : ∀ e o, (∀ j, j < cnt → e j = nI (gs_en kd cnt j) ∧ ∀ m, m < gs_ar (kd j) → o (3 * j + m) = nI (gs_op (gs_en kd cnt) j m)) → post (x_typeDraft, x_typeCount, x_count, x_wrongAt, x_keptPlace, x_cellCount, x_scopeCount, x_frameCount, x_mode, x_atToken, x_scope, x_current, x_callee, x_side, x_ending, x_faultLabel, x_stepsTaken, x_runVerdict, x_runBlame, x_result, x_named, x_kinds, x_values, e, x_types, o, x_targets, x_cellShape, x_cellLabel, x_cellOne, x_cellTwo, x_cellThree, x_scopeValue, x_scopeOuter, x_frameKind, x_frameOne, x_frameTwo, x_frameThree, 32768, 32768, 32768, 32768)) :
    ∀ d, d ≤ cnt → ∀ e o, (∀ j, d ≤ j → j < cnt → e j = nI (gs_en kd cnt j) ∧ ∀ m, m < gs_ar (kd j) → o (3 * j + m) = nI (gs_op (gs_en kd cnt) j m)) → wX_findOperands_7 post x_typeDraft x_typeCount x_count x_wrongAt x_keptPlace x_cellCount x_scopeCount x_frameCount x_mode x_atToken x_scope x_current x_callee x_side x_ending x_faultLabel x_stepsTaken x_runVerdict x_runBlame x_result 32768 32768 32768 32768 (d + 1) (nI d - 1) x_named x_kinds x_values e x_types o x_targets x_cellShape x_cellLabel x_cellOne x_cellTwo x_cellThree x_scopeValue x_scopeOuter x_frameKind x_frameOne x_frameTwo x_frameThree := by
  obtain ⟨c36, hn, hnm, hk⟩ := hd
  intro d
  induction d with
  | zero =>
    intro _ e o h
    exact br_t (show nI 0 - 1 < 0 by decide) (P e o (fun j hj => h j (Nat.zero_le _) hj))
  | succ d ih =>
    intro hd e o h
    obtain ⟨k1, k2, k3, k4⟩ := hk d (by omega)
    have a3 := gs_ar3 (kd d)
    rw [nI_pred d]
    refine br_f (nI_pos (by omega)) (nm_r (nI_1 d) ?_)
    rw [nI_clamp (show d < 2 ^ 31 by omega), k1]
    refine And.intro (vp_in_nI (by omega) (by decide)) (gx_arity k2 (Exists.intro (gs_ar (kd d) + 1) ?_))
    refine gx_fo_in (x_ends := e) (o0 := o) W c36 (by omega) (fun j h1 h2 => (h j (by omega) h2).1) ?_ (gs_ar (kd d)) 0 (Nat.zero_add _) o (fun m hm => absurd hm (Nat.not_lt_zero _)) (fun q _ => rfl)
    intro o' g1 g2
    refine ih (by omega) (upd e d (nI (gs_en kd cnt d))) o' ?_
    intro j h1 h2
    by_cases c : j = d
    · subst c
      exact ⟨pk_us, g1⟩
    · obtain ⟨q1, q2⟩ := h j (by omega) h2
      refine ⟨by rw [pk_un c]; exact q1, ?_⟩
      intro m hm
      have a3' := gs_ar3 (kd j)
      rw [g2 (3 * j + m) (by omega)]
      exact q2 m hm
theorem gx_findOperands {post : SX → Prop} (W : gs_WF kd cnt) (hd : gx_DR kd vl nm cnt x_named x_kinds x_values) (P : ∀ e o, (∀ j, j < cnt → e j = nI (gs_en kd cnt j) ∧ ∀ m, m < gs_ar (kd j) → o (3 * j + m) = nI (gs_op (gs_en kd cnt) j m)) → post (x_typeDraft, x_typeCount, nI cnt, x_wrongAt, x_keptPlace, x_cellCount, x_scopeCount, x_frameCount, x_mode, x_atToken, x_scope, x_current, x_callee, x_side, x_ending, x_faultLabel, x_stepsTaken, x_runVerdict, x_runBlame, x_result, x_named, x_kinds, x_values, e, x_types, o, x_targets, x_cellShape, x_cellLabel, x_cellOne, x_cellTwo, x_cellThree, x_scopeValue, x_scopeOuter, x_frameKind, x_frameOne, x_frameTwo, x_frameThree, 32768, 32768, 32768, 32768)) : wpX_findOperands post (x_typeDraft, x_typeCount, nI cnt, x_wrongAt, x_keptPlace, x_cellCount, x_scopeCount, x_frameCount, x_mode, x_atToken, x_scope, x_current, x_callee, x_side, x_ending, x_faultLabel, x_stepsTaken, x_runVerdict, x_runBlame, x_result, x_named, x_kinds, x_values, x_ends, x_types, x_operands, x_targets, x_cellShape, x_cellLabel, x_cellOne, x_cellTwo, x_cellThree, x_scopeValue, x_scopeOuter, x_frameKind, x_frameOne, x_frameTwo, x_frameThree, 32768, 32768, 32768, 32768) :=
  nm_e (Exists.intro (cnt + 1) (gx_fo W hd P cnt (Nat.le_refl _) x_ends x_operands (fun j h1 h2 => absurd h2 (by omega))))
theorem gx_var_l {post : Int32 → Prop} {i : Nat} (hd : gx_DR kd vl nm cnt x_named x_kinds x_values) (hi : i < cnt) (he : ∀ j, j < cnt → x_ends j = nI (gs_en kd cnt j)) (en36 : ∀ j, j < cnt → gs_en kd cnt j ≤ 36) : ∀ d, d ≤ i → ∀ b, b < 40 →
    (∀ n, (gs_col kd (fun j => (vl j).toNatClampNeg) (gs_en kd cnt) i d)[b]? = some n → n < 10 → post (nI (gd_en (nm n)))) → ((gs_col kd (fun j => (vl j).toNatClampNeg) (gs_en kd cnt) i d)[b]? = none → post (-1)) → wX_variableType_11 post (nI i) x_typeDraft x_typeCount x_count x_wrongAt x_keptPlace x_cellCount x_scopeCount x_frameCount x_mode x_atToken x_scope x_current x_callee x_side x_ending x_faultLabel x_stepsTaken x_runVerdict x_runBlame x_result x_named x_kinds x_values x_ends x_types x_operands x_targets x_cellShape x_cellLabel x_cellOne x_cellTwo x_cellThree x_scopeValue x_scopeOuter x_frameKind x_frameOne x_frameTwo x_frameThree 32768 32768 32768 32768 (d + 1) (nI b) (nI d - 1) := by
  obtain ⟨c36, hn, hnm, hk⟩ := hd
  intro d
  induction d with
  | zero =>
    intro _ b _ A B
    exact br_t (show nI 0 - 1 < 0 by decide) (B (by simp [gs_col]))
  | succ d ih =>
    intro hd b hb A B
    obtain ⟨k1, k2, k3, k4⟩ := hk d (by omega)
    have e36 := en36 d (by omega)
    rw [nI_pred d]
    refine br_f (nI_pos (by omega)) ?_
    rw [nI_clamp (show d < 2 ^ 31 by omega), k1, he d (by omega)]
    have vin : vp_in (nI d) 36 := vp_in_nI (by omega) (by decide)
    have skip : ¬ (kd d = 3 ∧ i < gs_en kd cnt d) → wX_variableType_39 post (wX_variableType_11 post (nI i) x_typeDraft x_typeCount x_count x_wrongAt x_keptPlace x_cellCount x_scopeCount x_frameCount x_mode x_atToken x_scope x_current x_callee x_side x_ending x_faultLabel x_stepsTaken x_runVerdict x_runBlame x_result x_named x_kinds x_values x_ends x_types x_operands x_targets x_cellShape x_cellLabel x_cellOne x_cellTwo x_cellThree x_scopeValue x_scopeOuter x_frameKind x_frameOne x_frameTwo x_frameThree 32768 32768 32768 32768 (d + 1)) (nI i) (nI b) (nI d) x_typeDraft x_typeCount x_count x_wrongAt x_keptPlace x_cellCount x_scopeCount x_frameCount x_mode x_atToken x_scope x_current x_callee x_side x_ending x_faultLabel x_stepsTaken x_runVerdict x_runBlame x_result x_named x_kinds x_values x_ends x_types x_operands x_targets x_cellShape x_cellLabel x_cellOne x_cellTwo x_cellThree x_scopeValue x_scopeOuter x_frameKind x_frameOne x_frameTwo x_frameThree 32768 32768 32768 32768 := by
      intro nz
      simp only [gs_col] at A B
      rw [if_neg nz] at A B
      exact br_t rfl (br_t rfl (nm_r (show nI b - 0 = nI b from Int32.sub_zero _) (nm_r (gx_am1 d) (ih (by omega) b hb A B))))
    refine And.intro vin (pk_eq (kd d) 3 (fun c3 => And.intro vin (pk_le (gs_en kd cnt d) i (fun le => skip (by omega)) (fun lt => ?_))) (fun c3 => skip (by omega)))
    simp only [gs_col] at A B
    rw [if_pos ⟨c3, lt⟩] at A B
    obtain ⟨n, n10, en⟩ := k4 (Or.inr (Or.inl c3))
    have ecl : (vl d).toNatClampNeg = n := by rw [en]; exact nI_clamp (by omega)
    refine br_f (show ¬ (1 : Int32) = 0 by decide) (pk_eq b 0 (fun z => ?_) (fun z => ?_))
    · rw [nI_clamp (show d < 2 ^ 31 by omega), k3, en, nI_clamp (show n < 2 ^ 31 by omega), hnm n n10]
      refine And.intro vin (And.intro (vp_in_nI n10 (by decide)) ?_)
      subst z
      exact A n (by simp only [List.getElem?_cons_zero]; rw [ecl]) n10
    · obtain ⟨b', rfl⟩ : ∃ k, b = k + 1 := ⟨b - 1, by omega⟩
      simp only [List.getElem?_cons_succ] at A B
      exact br_f (show ¬ (1 : Int32) = 0 by decide) (nm_r (nI_pred b') (nm_r (gx_am1 d) (ih (by omega) b' (by omega) A B)))
end
end
section
/-! ===== 32: X's check: the type of a token ===== -/
abbrev gs_R (kd : Nat → Nat) (vl : Nat → Int32) (nm : Nat → Lean.RArray Nat) (cnt : Nat) : Nat → Nat × Lean.RArray Nat := gs_rho kd (fun j => (vl j).toNatClampNeg) nm cnt
def gs_t (kd : Nat → Nat) (vl : Nat → Int32) (nm : Nat → Lean.RArray Nat) (cnt i k : Nat) : Lean.RArray Nat := gs_tk (gs_en kd cnt) (gs_R kd vl nm cnt) i (gs_ar (kd i)) k
def gs_pr (kd : Nat → Nat) (vl : Nat → Int32) (nm : Nat → Lean.RArray Nat) (cnt i : Nat) : Nat × Lean.RArray Nat := gs_pre nm (kd i) (vl i).toNatClampNeg (gs_col kd (fun j => (vl j).toNatClampNeg) (gs_en kd cnt) i i) (gs_t kd vl nm cnt i 0) (gs_t kd vl nm cnt i 1)
theorem gs_t_k {kd : Nat → Nat} {vl : Nat → Int32} {nm : Nat → Lean.RArray Nat} {cnt i k : Nat} (h : k < gs_ar (kd i)) : gs_t kd vl nm cnt i k = (gs_R kd vl nm cnt (gs_op (gs_en kd cnt) i k)).2 := by
  unfold gs_t gs_tk
  rw [if_pos h]
theorem gs_t_TY {kd : Nat → Nat} {vl : Nat → Int32} {nm : Nat → Lean.RArray Nat} {cnt i : Nat} (W : gs_WF kd cnt) (hn : ∀ n, gd_TY (nm n)) (hi : i < cnt) (k : Nat) : gd_TY (gs_t kd vl nm cnt i k) := by
  by_cases c : k < gs_ar (kd i)
  · rw [gs_t_k c]
    exact gs_rTY W hn (gs_op_lt W hi c).2
  · unfold gs_t gs_tk
    rw [if_neg c]
    exact gs_TY0 0 (by decide)
/-- the operands of i are known -/
def gx_ST (kd : Nat → Nat) (vl : Nat → Int32) (nm : Nat → Lean.RArray Nat) (cnt : Nat) (types operands : Nat → Int32) (i : Nat) : Prop :=
  ∀ k, k < gs_ar (kd i) → operands (3 * i + k) = nI (gs_op (gs_en kd cnt) i k) ∧ types (gs_op (gs_en kd cnt) i k) = nI (gd_en (gs_t kd vl nm cnt i k))
section
variable {x_typeDraft x_typeCount x_count x_wrongAt x_keptPlace x_cellCount x_scopeCount x_frameCount x_mode x_atToken x_scope x_current x_callee x_side x_ending x_faultLabel x_stepsTaken x_runVerdict x_runBlame x_result : Int32} {x_named x_kinds x_values x_ends x_types x_operands x_targets x_cellShape x_cellLabel x_cellOne x_cellTwo x_cellThree x_scopeValue x_scopeOuter x_frameKind x_frameOne x_frameTwo x_frameThree : Nat → Int32}
variable {kd : Nat → Nat} {vl : Nat → Int32} {nm : Nat → Lean.RArray Nat} {cnt : Nat}
theorem gx_opT {post : Int32 → Prop} {i k : Nat} (W : gs_WF kd cnt) (c36 : cnt ≤ 36) (hi : i < cnt) (hk : k < gs_ar (kd i)) (st : gx_ST kd vl nm cnt x_types x_operands i) (P : post (nI (gd_en (gs_t kd vl nm cnt i k)))) : wpX_operandType post (x_typeDraft, x_typeCount, x_count, x_wrongAt, x_keptPlace, x_cellCount, x_scopeCount, x_frameCount, x_mode, x_atToken, x_scope, x_current, x_callee, x_side, x_ending, x_faultLabel, x_stepsTaken, x_runVerdict, x_runBlame, x_result, x_named, x_kinds, x_values, x_ends, x_types, x_operands, x_targets, x_cellShape, x_cellLabel, x_cellOne, x_cellTwo, x_cellThree, x_scopeValue, x_scopeOuter, x_frameKind, x_frameOne, x_frameTwo, x_frameThree, 32768, 32768, 32768, 32768) (nI i) (nI k) := by
  have a3 := gs_ar3 (kd i)
  obtain ⟨s1, s2⟩ := st k hk
  have ol := gs_op_lt W hi hk
  have e3 : (3 : Int32) * nI i + nI k = nI (3 * i + k) := by rw [show (3 : Int32) * nI i = nI (3 * i) from pk_mul 3 i, nI_add]
  show vp_in (3 * nI i + nI k) 108 ∧ _
  rw [e3, nI_clamp (show 3 * i + k < 2 ^ 31 by omega), s1, nI_clamp (show gs_op (gs_en kd cnt) i k < 2 ^ 31 by omega), s2]
  exact And.intro (vp_in_nI (by omega) (by decide)) (And.intro (vp_in_nI (by omega) (by decide)) P)
theorem gx_typeOf {post : Int32 → Prop} {i : Nat} (W : gs_WF kd cnt) (hd : gx_DR kd vl nm cnt x_named x_kinds x_values) (hi : i < cnt) (he : ∀ j, j < cnt → x_ends j = nI (gs_en kd cnt j)) (st : gx_ST kd vl nm cnt x_types x_operands i) (n4 : kd i ≠ 4) (n9 : kd i ≠ 9) (n10 : kd i ≠ 10)
    (P : (gs_pr kd vl nm cnt i).1 = 0 → post (nI (gd_en (gs_pr kd vl nm cnt i).2))) (Q2 : (gs_pr kd vl nm cnt i).1 = 2 → post (-1)) (Q3 : (gs_pr kd vl nm cnt i).1 = 3 → post (-2)) : wpX_typeOf post (x_typeDraft, x_typeCount, x_count, x_wrongAt, x_keptPlace, x_cellCount, x_scopeCount, x_frameCount, x_mode, x_atToken, x_scope, x_current, x_callee, x_side, x_ending, x_faultLabel, x_stepsTaken, x_runVerdict, x_runBlame, x_result, x_named, x_kinds, x_values, x_ends, x_types, x_operands, x_targets, x_cellShape, x_cellLabel, x_cellOne, x_cellTwo, x_cellThree, x_scopeValue, x_scopeOuter, x_frameKind, x_frameOne, x_frameTwo, x_frameThree, 32768, 32768, 32768, 32768) (nI i) := by
  have hd0 := hd
  obtain ⟨c36, hn, hnm, hk⟩ := hd
  obtain ⟨k1, k2, k3, k4⟩ := hk i hi
  have vin : vp_in (nI i) 36 := vp_in_nI (by omega) (by decide)
  have en36 : ∀ j, j < cnt → gs_en kd cnt j ≤ 36 := fun j hj => Nat.le_trans (gs_en_ok W hj).2.1 c36
  show vp_in (nI i) 36 ∧ _
  rw [nI_clamp (show i < 2 ^ 31 by omega), k1]
  refine And.intro vin (nm_e ?_)
  unfold gs_pr at P Q2 Q3
  have t0 := gs_t_TY (vl := vl) (nm := nm) W hn hi 0
  have t1 := gs_t_TY (vl := vl) (nm := nm) W hn hi 1
  have cmp : ∀ (h : Nat) (a b : Lean.RArray Nat) (R : Int32 → Prop), h = 3 ∨ h = 4 → gd_TY a → gd_TY b → (gs_pre nm (kd i) (vl i).toNatClampNeg (gs_col kd (fun j => (vl j).toNatClampNeg) (gs_en kd cnt) i i) (gs_t kd vl nm cnt i 0) (gs_t kd vl nm cnt i 1)) = gs_cmp h a b → (∀ r, post r → R r) → wpX_joined R (nI h) (nI (gd_en a)) (nI (gd_en b)) := by
    intro h a b R hh ta tb e hR
    rw [e] at P Q2 Q3
    refine gx_joined hh ta tb (fun z => hR _ ?_) (fun z => hR _ ?_)
    · unfold gs_cmp at P
      rw [if_pos z] at P
      exact P rfl
    · unfold gs_cmp at Q3
      rw [if_neg z] at Q3
      exact Q3 rfl
  have val : kd i = 3 ∨ kd i = 11 → ∃ n, n < 10 ∧ vl i = nI n ∧ (vl i).toNatClampNeg = n := by
    intro c
    obtain ⟨n, a, b⟩ := k4 (by omega)
    exact ⟨n, a, b, by rw [b]; exact nI_clamp (by omega)⟩
  rcases gs_k12 k2 with c | c | c | c | c | c | c | c | c | c | c | c
  · rw [c] at P ⊢
    exact br_f (by decide) (br_f (by decide) (br_t rfl (P rfl)))
  · rw [c] at P ⊢
    exact br_f (by decide) (br_f (by decide) (br_f (by decide) (br_t rfl (P rfl))))
  · obtain ⟨n, n10', en⟩ := k4 (Or.inl c)
    have ecl : (vl i).toNatClampNeg = n := by rw [en]; exact nI_clamp (by omega)
    rw [c, ecl] at P Q2
    rw [c]
    refine br_f (by decide) (br_f (by decide) (br_f (by decide) (br_f (by decide) (br_t rfl ?_))))
    show vp_in (nI i) 36 ∧ _
    rw [nI_clamp (show i < 2 ^ 31 by omega), k3, en]
    refine And.intro vin (nm_e (nm_e (Exists.intro (i + 1) (gx_var_l hd0 hi he en36 i (Nat.le_refl _) n (by omega) ?_ ?_))))
    · intro n' e' _
      have p := P (by show (gs_var nm _).1 = 0; rw [e']; rfl)
      change post (nI (gd_en (gs_var nm _).2)) at p
      rw [e'] at p
      exact p
    · intro e'
      exact Q2 (by show (gs_var nm _).1 = 2; rw [e']; rfl)
  · obtain ⟨n, n10', en, ecl⟩ := val (Or.inl c)
    have g := fun R => cmp 3 (nm n) (gs_t kd vl nm cnt i 0) R (Or.inl rfl) (hn n) t0 (by rw [c, ecl]; rfl)
    rw [c]
    refine br_f (by decide) (br_f (by decide) (br_f (by decide) (br_f (by decide) (br_f (by decide) (br_t rfl (gx_opT W c36 hi (by rw [c]; decide) st ?_))))))
    rw [k3, en, nI_clamp (show n < 2 ^ 31 by omega), hnm n n10']
    exact And.intro vin (And.intro (vp_in_nI n10' (by decide)) (g _ (fun r z => z)))
  · exact absurd c n4
  · rw [c] at P ⊢
    exact br_f (by decide) (br_f (by decide) (br_f (by decide) (br_f (by decide) (br_f (by decide) (br_f (by decide) (br_f (by decide) (br_t rfl (gx_opT W c36 hi (by rw [c]; decide) st (P rfl)))))))))
  · rw [c] at P ⊢
    exact br_f (by decide) (br_f (by decide) (br_f (by decide) (br_f (by decide) (br_f (by decide) (br_f (by decide) (br_f (by decide) (br_f (by decide) (br_t rfl (P rfl)))))))))
  · rw [c] at P ⊢
    exact br_f (by decide) (br_f (by decide) (br_f (by decide) (br_f (by decide) (br_f (by decide) (br_f (by decide) (br_f (by decide) (br_f (by decide) (br_f (by decide) (br_t rfl (P rfl))))))))))
  · have g := fun R => cmp 4 (gs_t kd vl nm cnt i 0) (gs_t kd vl nm cnt i 1) R (Or.inr rfl) t0 t1 (by rw [c]; rfl)
    rw [c]
    exact br_f (by decide) (br_f (by decide) (br_f (by decide) (br_f (by decide) (br_f (by decide) (br_f (by decide) (br_f (by decide) (br_f (by decide) (br_f (by decide) (br_f (by decide) (br_t rfl (gx_opT W c36 hi (by rw [c]; decide) st (gx_opT W c36 hi (by rw [c]; decide) st (g _ (fun r z => z))))))))))))))
  · exact absurd c n9
  · exact absurd c n10
  · obtain ⟨n, n10', en, ecl⟩ := val (Or.inr c)
    rw [c, ecl] at P
    rw [c]
    refine br_f (by decide) (br_t (by decide) ?_)
    show vp_in (nI i) 36 ∧ _
    rw [nI_clamp (show i < 2 ^ 31 by omega), k3, en, nI_clamp (show n < 2 ^ 31 by omega), hnm n n10']
    exact And.intro vin (And.intro (vp_in_nI n10' (by decide)) (P rfl))
theorem gx_partType {post : Int32 → Prop} {i : Nat} (W : gs_WF kd cnt) (hd : gx_DR kd vl nm cnt x_named x_kinds x_values) (hi : i < cnt) (st : gx_ST kd vl nm cnt x_types x_operands i) (hk4 : kd i = 4 ∨ kd i = 9 ∨ kd i = 10)
    (P : (gs_pr kd vl nm cnt i).1 = 0 → post (nI (gd_en (gs_pr kd vl nm cnt i).2))) (Q2 : (gs_pr kd vl nm cnt i).1 = 2 → post (-1)) : wpX_partType post (x_typeDraft, x_typeCount, x_count, x_wrongAt, x_keptPlace, x_cellCount, x_scopeCount, x_frameCount, x_mode, x_atToken, x_scope, x_current, x_callee, x_side, x_ending, x_faultLabel, x_stepsTaken, x_runVerdict, x_runBlame, x_result, x_named, x_kinds, x_values, x_ends, x_types, x_operands, x_targets, x_cellShape, x_cellLabel, x_cellOne, x_cellTwo, x_cellThree, x_scopeValue, x_scopeOuter, x_frameKind, x_frameOne, x_frameTwo, x_frameThree, 32768, 32768, 32768, 32768) (nI i) := by
  obtain ⟨c36, hn, hnm, hk⟩ := hd
  obtain ⟨k1, k2, k3, k4⟩ := hk i hi
  have vin : vp_in (nI i) 36 := vp_in_nI (by omega) (by decide)
  have t0 := gs_t_TY (vl := vl) (nm := nm) W hn hi 0
  have lt0 := gd_hd_lt t0.1
  have ar0 : 0 < gs_ar (kd i) := gs_ar_k (by omega) (Or.inl rfl)
  have epr : gs_pr kd vl nm cnt i = (if gd_hd (gs_t kd vl nm cnt i 0) = 2 then (0, .leaf 2) else if gd_hd (gs_t kd vl nm cnt i 0) = (if kd i = 4 then 3 else 4) then (0, if kd i = 9 then gd_lf (gs_t kd vl nm cnt i 0) else gd_rt (gs_t kd vl nm cnt i 0)) else (2, .leaf 0)) := by
    unfold gs_pr gs_pre
    rcases hk4 with c | c | c <;> rw [c] <;> rfl
  rw [epr] at P Q2
  unfold wpX_partType
  refine gx_opT (k := 0) W c36 hi ar0 st ?_
  by_cases h2 : gd_hd (gs_t kd vl nm cnt i 0) = 2
  · rw [if_pos h2] at P
    exact br_t ((gx_2 t0).mpr h2) (P rfl)
  rw [if_neg h2] at P Q2
  refine br_f (fun z => h2 ((gx_2 t0).mp z)) (gx_typeHead t0 ?_)
  have main : ∀ w, w = (if kd i = 4 then 3 else 4) → wX_partType_33 post (nI i) (nI (gd_en (gs_t kd vl nm cnt i 0))) (nI w) (nI (gd_hd (gs_t kd vl nm cnt i 0))) x_typeDraft x_typeCount x_count x_wrongAt x_keptPlace x_cellCount x_scopeCount x_frameCount x_mode x_atToken x_scope x_current x_callee x_side x_ending x_faultLabel x_stepsTaken x_runVerdict x_runBlame x_result x_named x_kinds x_values x_ends x_types x_operands x_targets x_cellShape x_cellLabel x_cellOne x_cellTwo x_cellThree x_scopeValue x_scopeOuter x_frameKind x_frameOne x_frameTwo x_frameThree 32768 32768 32768 32768 := by
    intro w ew
    rw [← ew] at P Q2
    have w5 : w < 5 := by rw [ew]; split <;> decide
    refine pk_eq (gd_hd (gs_t kd vl nm cnt i 0)) w (fun z => ?_) (fun z => ?_)
    · rw [if_pos z] at P
      have p := P rfl
      have h34 : 3 ≤ gd_hd (gs_t kd vl nm cnt i 0) := by rw [z, ew]; split <;> decide
      obtain ⟨l, r, e, _⟩ := gm_br_of h34 t0.1
      rw [nI_clamp (show i < 2 ^ 31 by omega), k1]
      refine And.intro vin ?_
      have tb : gd_TY (.branch (gd_hd (gs_t kd vl nm cnt i 0)) l r) := e ▸ t0
      refine pk_eq (kd i) 9 (fun c => ?_) (fun c => ?_)
      · rw [if_pos c] at p
        have el : gd_lf (gs_t kd vl nm cnt i 0) = l := by rw [e]; rfl
        rw [el] at p
        rw [e]
        exact gx_leftOf tb p
      · rw [if_neg c] at p
        have er : gd_rt (gs_t kd vl nm cnt i 0) = r := by rw [e]; rfl
        rw [er] at p
        rw [e]
        exact gx_rightOf tb p
    · rw [if_neg z] at Q2
      exact Q2 rfl
  rw [nI_clamp (show i < 2 ^ 31 by omega), k1]
  refine And.intro vin (pk_eq (kd i) 4 (fun c => main 3 (by rw [if_pos c])) (fun c => main 4 (by rw [if_neg c])))
theorem gx_targetOf {post : Int32 → Prop} {i k : Nat} {ti : Lean.RArray Nat} (W : gs_WF kd cnt) (hd : gx_DR kd vl nm cnt x_named x_kinds x_values) (hi : i < cnt) (hk : k < gs_ar (kd i)) (st : gx_ST kd vl nm cnt x_types x_operands i) (hti : x_types i = nI (gd_en ti)) (h4 : kd i = 4 → gd_hd (gs_t kd vl nm cnt i 0) = 2 ∨ gd_hd (gs_t kd vl nm cnt i 0) = 3)
    (P : post (nI (gd_en (gs_tg (kd i) k ti (gs_t kd vl nm cnt i 0) (gs_t kd vl nm cnt i k))))) : wpX_targetOf post (x_typeDraft, x_typeCount, x_count, x_wrongAt, x_keptPlace, x_cellCount, x_scopeCount, x_frameCount, x_mode, x_atToken, x_scope, x_current, x_callee, x_side, x_ending, x_faultLabel, x_stepsTaken, x_runVerdict, x_runBlame, x_result, x_named, x_kinds, x_values, x_ends, x_types, x_operands, x_targets, x_cellShape, x_cellLabel, x_cellOne, x_cellTwo, x_cellThree, x_scopeValue, x_scopeOuter, x_frameKind, x_frameOne, x_frameTwo, x_frameThree, 32768, 32768, 32768, 32768) (nI i) (nI k) := by
  obtain ⟨c36, hn, hnm, hk'⟩ := hd
  obtain ⟨k1, k2, k3, k4⟩ := hk' i hi
  have vin : vp_in (nI i) 36 := vp_in_nI (by omega) (by decide)
  have t0 := gs_t_TY (vl := vl) (nm := nm) W hn hi 0
  have tk := gs_t_TY (vl := vl) (nm := nm) W hn hi k
  have a3 := gs_ar3 (kd i)
  unfold wpX_targetOf
  refine gx_opT W c36 hi hk st ?_
  refine gx_opT (k := 0) W c36 hi (by omega) st ?_
  rw [nI_clamp (show i < 2 ^ 31 by omega), k1, hti]
  refine And.intro vin (nm_e ?_)
  have own : ∀ g : Lean.RArray Nat, post (nI (gd_en (if gd_hd (gs_t kd vl nm cnt i k) = 2 then g else gs_t kd vl nm cnt i k))) → (nI (gd_en (gs_t kd vl nm cnt i k)) = 2 → post (nI (gd_en g))) ∧ (¬ nI (gd_en (gs_t kd vl nm cnt i k)) = 2 → post (nI (gd_en (gs_t kd vl nm cnt i k)))) := by
    intro g p
    by_cases h2 : gd_hd (gs_t kd vl nm cnt i k) = 2
    · rw [if_pos h2] at p
      exact br_t ((gx_2 tk).mpr h2) p
    · rw [if_neg h2] at p
      exact br_f (fun z => h2 ((gx_2 tk).mp z)) p
  rcases gs_k12 k2 with c | c | c | c | c | c | c | c | c | c | c | c
  · rw [c] at hk; exact absurd (show k < 0 from hk) (Nat.not_lt_zero _)
  · rw [c] at hk; exact absurd (show k < 0 from hk) (Nat.not_lt_zero _)
  · rw [c] at hk; exact absurd (show k < 0 from hk) (Nat.not_lt_zero _)
  · rw [c] at P ⊢
    exact br_t (by decide) P
  · rw [c] at P ⊢
    refine br_f (by decide) (br_f (by decide) (br_t rfl (pk_eq k 0 (fun z => ?_) (fun z => ?_))))
    · subst z
      rw [gs_tg40] at P
      exact own _ P
    · have k1' : k = 1 := by rw [c] at hk; have : gs_ar 4 = 2 := rfl; omega
      subst k1'
      rw [gs_tg41] at P
      by_cases h2 : gd_hd (gs_t kd vl nm cnt i 0) = 2
      · rw [if_pos h2] at P
        exact br_t ((gx_2 t0).mpr h2) P
      · rw [if_neg h2] at P
        have h3 := (h4 c).resolve_left h2
        have eb := gs_hd3 t0.1 h3
        refine br_f (fun z => h2 ((gx_2 t0).mp z)) ?_
        rw [eb]
        rw [eb] at P
        exact gx_leftOf (eb ▸ t0) P
  · rw [c] at P ⊢
    refine br_f (by decide) (br_f (by decide) (br_f (by decide) (br_t rfl (pk_eq k 0 (fun z => ?_) (fun z => ?_)))))
    · subst z
      exact P
    · have e : gs_tg 5 k ti (gs_t kd vl nm cnt i 0) (gs_t kd vl nm cnt i k) = ti := by
        show (if k = 0 then _ else ti) = ti
        rw [if_neg z]
      rw [e] at P
      exact And.intro vin P
  · rw [c] at P ⊢
    exact br_f (by decide) (br_f (by decide) (br_f (by decide) (br_f (by decide) (br_t rfl P))))
  · rw [c] at P ⊢
    exact br_f (by decide) (br_f (by decide) (br_f (by decide) (br_f (by decide) (br_f (by decide) (br_t rfl P)))))
  · rw [c] at P ⊢
    exact br_f (by decide) (br_f (by decide) (br_f (by decide) (br_f (by decide) (br_f (by decide) (br_f (by decide) (br_t rfl P))))))
  · rw [c] at P ⊢
    exact br_f (by decide) (br_f (by decide) (br_f (by decide) (br_f (by decide) (br_f (by decide) (br_f (by decide) (br_f (by decide) (br_t rfl (own _ P))))))))
  · rw [c] at P ⊢
    exact br_f (by decide) (br_f (by decide) (br_f (by decide) (br_f (by decide) (br_f (by decide) (br_f (by decide) (br_f (by decide) (br_f (by decide) (br_t rfl (own _ P)))))))))
  · rw [c] at P ⊢
    exact br_f (by decide) (br_f (by decide) (br_f (by decide) (br_f (by decide) (br_f (by decide) (br_f (by decide) (br_f (by decide) (br_f (by decide) (br_f (by decide) (br_t rfl (And.intro vin P))))))))))
end
end
section
/-! ===== 33: X's check ===== -/
theorem gs_pr_rho {kd : Nat → Nat} {vl : Nat → Int32} {nm : Nat → Lean.RArray Nat} {cnt i : Nat} (W : gs_WF kd cnt) (hi : i < cnt) (ok : ∀ m, m < gs_ar (kd i) → (gs_R kd vl nm cnt (gs_op (gs_en kd cnt) i m)).1 = 0) : gs_R kd vl nm cnt i = gs_typ nm (kd i) (vl i).toNatClampNeg (gs_col kd (fun j => (vl j).toNatClampNeg) (gs_en kd cnt) i i) (gs_t kd vl nm cnt i 0) (gs_t kd vl nm cnt i 1) (gs_t kd vl nm cnt i 2) := gs_snd_rho W hi ok
theorem gs_sel_t {kd : Nat → Nat} {vl : Nat → Int32} {nm : Nat → Lean.RArray Nat} {cnt i k : Nat} (hk : k < 3) : gs_sel k (gs_t kd vl nm cnt i 0) (gs_t kd vl nm cnt i 1) (gs_t kd vl nm cnt i 2) = gs_t kd vl nm cnt i k := by
  unfold gs_sel
  by_cases a : k = 0
  · rw [if_pos a, a]
  · rw [if_neg a]
    by_cases b : k = 1
    · rw [if_pos b, b]
    · rw [if_neg b, show k = 2 by omega]
section
variable {x_typeDraft x_typeCount x_count x_wrongAt x_keptPlace x_cellCount x_scopeCount x_frameCount x_mode x_atToken x_scope x_current x_callee x_side x_ending x_faultLabel x_stepsTaken x_runVerdict x_runBlame x_result : Int32} {x_named x_kinds x_values x_ends x_types x_operands x_targets x_cellShape x_cellLabel x_cellOne x_cellTwo x_cellThree x_scopeValue x_scopeOuter x_frameKind x_frameOne x_frameTwo x_frameThree : Nat → Int32}
variable {kd : Nat → Nat} {vl : Nat → Int32} {nm : Nat → Lean.RArray Nat} {cnt : Nat}
theorem gx_se_l {post : Int32 → SX → Prop} {i : Nat} {ti : Lean.RArray Nat} {g0 : Nat → Int32} (W : gs_WF kd cnt) (hd : gx_DR kd vl nm cnt x_named x_kinds x_values) (hi : i < cnt) (st : gx_ST kd vl nm cnt x_types x_operands i) (hti : x_types i = nI (gd_en ti)) (tti : gd_TY ti) (h4 : kd i = 4 → gd_hd (gs_t kd vl nm cnt i 0) = 2 ∨ gd_hd (gs_t kd vl nm cnt i 0) = 3)
    (ttg : ∀ k, k < gs_ar (kd i) → gd_TY (gs_tg (kd i) k ti (gs_t kd vl nm cnt i 0) (gs_t kd vl nm cnt i k)))
    (OK : gs_all (kd i) ti (gs_t kd vl nm cnt i 0) (gs_t kd vl nm cnt i 1) (gs_t kd vl nm cnt i 2) → ∀ g', (∀ k, k < gs_ar (kd i) → g' (3 * i + k) = nI (gd_en (gs_tg (kd i) k ti (gs_t kd vl nm cnt i 0) (gs_t kd vl nm cnt i k)))) → (∀ q, (q < 3 * i ∨ 3 * i + 3 ≤ q) → g' q = g0 q) → post 0 (x_typeDraft, x_typeCount, x_count, x_wrongAt, x_keptPlace, x_cellCount, x_scopeCount, x_frameCount, x_mode, x_atToken, x_scope, x_current, x_callee, x_side, x_ending, x_faultLabel, x_stepsTaken, x_runVerdict, x_runBlame, x_result, x_named, x_kinds, x_values, x_ends, x_types, x_operands, g', x_cellShape, x_cellLabel, x_cellOne, x_cellTwo, x_cellThree, x_scopeValue, x_scopeOuter, x_frameKind, x_frameOne, x_frameTwo, x_frameThree, 32768, 32768, 32768, 32768))
    (BAD : ¬ gs_all (kd i) ti (gs_t kd vl nm cnt i 0) (gs_t kd vl nm cnt i 1) (gs_t kd vl nm cnt i 2) → ∀ g', post 2 (x_typeDraft, x_typeCount, x_count, x_wrongAt, x_keptPlace, x_cellCount, x_scopeCount, x_frameCount, x_mode, x_atToken, x_scope, x_current, x_callee, x_side, x_ending, x_faultLabel, x_stepsTaken, x_runVerdict, x_runBlame, x_result, x_named, x_kinds, x_values, x_ends, x_types, x_operands, g', x_cellShape, x_cellLabel, x_cellOne, x_cellTwo, x_cellThree, x_scopeValue, x_scopeOuter, x_frameKind, x_frameOne, x_frameTwo, x_frameThree, 32768, 32768, 32768, 32768)) :
    ∀ d k, k + d = gs_ar (kd i) → ∀ g, (∀ m, m < k → g (3 * i + m) = nI (gd_en (gs_tg (kd i) m ti (gs_t kd vl nm cnt i 0) (gs_t kd vl nm cnt i m))) ∧ gd_cb (gs_t kd vl nm cnt i m) (gs_tg (kd i) m ti (gs_t kd vl nm cnt i 0) (gs_t kd vl nm cnt i m)) = true) → (∀ q, (q < 3 * i ∨ 3 * i + 3 ≤ q) → g q = g0 q) → wX_settleType_84 post (nI i) (nI (gs_ar (kd i))) x_typeDraft x_typeCount x_count x_wrongAt x_keptPlace x_cellCount x_scopeCount x_frameCount x_mode x_atToken x_scope x_current x_callee x_side x_ending x_faultLabel x_stepsTaken x_runVerdict x_runBlame x_result 32768 32768 32768 32768 (d + 1) (nI k) x_named x_kinds x_values x_ends x_types x_operands g x_cellShape x_cellLabel x_cellOne x_cellTwo x_cellThree x_scopeValue x_scopeOuter x_frameKind x_frameOne x_frameTwo x_frameThree := by
  have hd0 := hd
  obtain ⟨c36, hn, hnm, hk'⟩ := hd
  have a3 := gs_ar3 (kd i)
  intro d
  induction d with
  | zero =>
    intro k e g h1 h2
    have e' : k = gs_ar (kd i) := by omega
    subst e'
    refine br_t (Int32.le_refl _) (OK ?_ g (fun m hm => (h1 m hm).1) h2)
    intro j hj
    rw [gs_sel_t (by omega)]
    exact (h1 j hj).2
  | succ d ih =>
    intro k e g h1 h2
    have kk : k < gs_ar (kd i) := by omega
    obtain ⟨s1, s2⟩ := st k kk
    have ol := gs_op_lt W hi kk
    have e3 : (3 : Int32) * nI i + nI k = nI (3 * i + k) := by rw [show (3 : Int32) * nI i = nI (3 * i) from pk_mul 3 i, nI_add]
    have vin : vp_in (nI (3 * i + k)) 108 := vp_in_nI (by omega) (by decide)
    refine br_f (nI_ge (by omega) (by omega)) (nm_r e3 (gx_targetOf W hd0 hi kk st hti h4 ?_))
    rw [nI_clamp (show 3 * i + k < 2 ^ 31 by omega), s1, nI_clamp (show gs_op (gs_en kd cnt) i k < 2 ^ 31 by omega), s2]
    refine And.intro vin (nm_e (And.intro vin (And.intro (vp_in_nI (by omega) (by decide)) (And.intro vin ?_))))
    rw [pk_us]
    refine gx_consistent (gs_t_TY W hn hi k) (ttg k kk) (fun z => ?_) (fun z => ?_)
    · refine br_f (show ¬ (1 : Int32) = 0 by decide) (nm_r (nI_1 k) (ih (k + 1) (by omega) _ ?_ ?_))
      · intro m hm
        by_cases c : m = k
        · subst c
          exact ⟨pk_us, z⟩
        · rw [pk_un (by omega)]
          exact h1 m (by omega)
      · intro q hq
        rw [pk_un (by omega)]
        exact h2 q hq
    · refine br_t rfl (BAD (fun all => ?_) _)
      have := all k kk
      rw [gs_sel_t (by omega), z] at this
      exact absurd this (by decide)
theorem gs_pr_hd4 {i : Nat} (c : kd i = 4) (h : (gs_pr kd vl nm cnt i).1 = 0) : gd_hd (gs_t kd vl nm cnt i 0) = 2 ∨ gd_hd (gs_t kd vl nm cnt i 0) = 3 := by
  unfold gs_pr at h
  rw [c] at h
  change (if gd_hd (gs_t kd vl nm cnt i 0) = 2 then ((0 : Nat), Lean.RArray.leaf 2) else if gd_hd (gs_t kd vl nm cnt i 0) = 3 then (0, gd_rt (gs_t kd vl nm cnt i 0)) else (2, .leaf 0)).1 = 0 at h
  by_cases a : gd_hd (gs_t kd vl nm cnt i 0) = 2
  · exact Or.inl a
  · rw [if_neg a] at h
    by_cases b : gd_hd (gs_t kd vl nm cnt i 0) = 3
    · exact Or.inr b
    · rw [if_neg b] at h
      exact absurd h (by decide)
theorem gs_tg_TY {k j : Nat} {ti t0 own : Lean.RArray Nat} (hi : gd_TY ti) (h0 : gd_TY t0) (ho : gd_TY own) : gd_TY (gs_tg k j ti t0 own) := by
  have L0 := gs_TY0 0 (by decide)
  have L1 := gs_TY0 1 (by decide)
  have L2 := gs_TY0 2 (by decide)
  unfold gs_tg
  by_cases c : k = 4
  · rw [if_pos c]
    by_cases d : j = 0
    · rw [if_pos d]
      split
      · exact ⟨⟨Or.inl rfl, L2.1, L2.1⟩, by decide⟩
      · exact ho
    · rw [if_neg d]
      split
      · exact L2
      · exact gs_lf_TY h0
  rw [if_neg c]
  by_cases c : k = 9 ∨ k = 10
  · rw [if_pos c]
    split
    · exact ⟨⟨Or.inr rfl, L2.1, L2.1⟩, by decide⟩
    · exact ho
  rw [if_neg c]
  by_cases c : k = 5
  · rw [if_pos c]
    split
    · exact L1
    · exact hi
  rw [if_neg c]
  by_cases c : k = 6 ∨ k = 7
  · rw [if_pos c]; exact L0
  rw [if_neg c]
  by_cases c : k = 11
  · rw [if_pos c]; exact hi
  · rw [if_neg c]; exact ho
theorem gx_settle {post : Int32 → SX → Prop} {i : Nat} (W : gs_WF kd cnt) (hd : gx_DR kd vl nm cnt x_named x_kinds x_values) (hi : i < cnt) (he : ∀ j, j < cnt → x_ends j = nI (gs_en kd cnt j)) (st : gx_ST kd vl nm cnt x_types x_operands i) (ok : ∀ m, m < gs_ar (kd i) → (gs_R kd vl nm cnt (gs_op (gs_en kd cnt) i m)).1 = 0)
    (OK : (gs_R kd vl nm cnt i).1 = 0 → ∀ g', (∀ k, k < gs_ar (kd i) → g' (3 * i + k) = nI (gd_en (gm_tg (gs_P kd vl nm cnt) i k))) → (∀ q, (q < 3 * i ∨ 3 * i + 3 ≤ q) → g' q = x_targets q) → post 0 (x_typeDraft, x_typeCount, x_count, x_wrongAt, x_keptPlace, x_cellCount, x_scopeCount, x_frameCount, x_mode, x_atToken, x_scope, x_current, x_callee, x_side, x_ending, x_faultLabel, x_stepsTaken, x_runVerdict, x_runBlame, x_result, x_named, x_kinds, x_values, x_ends, upd x_types i (nI (gd_en (gs_R kd vl nm cnt i).2)), x_operands, g', x_cellShape, x_cellLabel, x_cellOne, x_cellTwo, x_cellThree, x_scopeValue, x_scopeOuter, x_frameKind, x_frameOne, x_frameTwo, x_frameThree, 32768, 32768, 32768, 32768))
    (BAD : (gs_R kd vl nm cnt i).1 ≠ 0 → (gs_R kd vl nm cnt i).1 ≠ 4 → ∀ t' g', post (nI (gs_R kd vl nm cnt i).1) (x_typeDraft, x_typeCount, x_count, x_wrongAt, x_keptPlace, x_cellCount, x_scopeCount, x_frameCount, x_mode, x_atToken, x_scope, x_current, x_callee, x_side, x_ending, x_faultLabel, x_stepsTaken, x_runVerdict, x_runBlame, x_result, x_named, x_kinds, x_values, x_ends, t', x_operands, g', x_cellShape, x_cellLabel, x_cellOne, x_cellTwo, x_cellThree, x_scopeValue, x_scopeOuter, x_frameKind, x_frameOne, x_frameTwo, x_frameThree, 32768, 32768, 32768, 32768)) : wpX_settleType post (x_typeDraft, x_typeCount, x_count, x_wrongAt, x_keptPlace, x_cellCount, x_scopeCount, x_frameCount, x_mode, x_atToken, x_scope, x_current, x_callee, x_side, x_ending, x_faultLabel, x_stepsTaken, x_runVerdict, x_runBlame, x_result, x_named, x_kinds, x_values, x_ends, x_types, x_operands, x_targets, x_cellShape, x_cellLabel, x_cellOne, x_cellTwo, x_cellThree, x_scopeValue, x_scopeOuter, x_frameKind, x_frameOne, x_frameTwo, x_frameThree, 32768, 32768, 32768, 32768) (nI i) := by
  have hd0 := hd
  obtain ⟨c36, hn, hnm, hk'⟩ := hd
  obtain ⟨k1, k2, k3, k4⟩ := hk' i hi
  have vin : vp_in (nI i) 36 := vp_in_nI (by omega) (by decide)
  have t0 := gs_t_TY (vl := vl) (nm := nm) W hn hi 0
  have t1 := gs_t_TY (vl := vl) (nm := nm) W hn hi 1
  have rho := gs_pr_rho (vl := vl) (nm := nm) W hi ok
  have a3 := gs_ar3 (kd i)
  have P : (gs_pr kd vl nm cnt i).1 = 0 → wX_settleType_47 post (nI i) (nI (kd i)) (nI (gd_en (gs_pr kd vl nm cnt i).2)) x_typeDraft x_typeCount x_count x_wrongAt x_keptPlace x_cellCount x_scopeCount x_frameCount x_mode x_atToken x_scope x_current x_callee x_side x_ending x_faultLabel x_stepsTaken x_runVerdict x_runBlame x_result x_named x_kinds x_values x_ends x_types x_operands x_targets x_cellShape x_cellLabel x_cellOne x_cellTwo x_cellThree x_scopeValue x_scopeOuter x_frameKind x_frameOne x_frameTwo x_frameThree 32768 32768 32768 32768 := by
    intro z
    have tp : gd_TY (gs_pr kd vl nm cnt i).2 := gs_pre_TY hn k2 t0 t1 z
    have e2 : (gs_R kd vl nm cnt i).2 = (gs_pr kd vl nm cnt i).2 := by rw [rho]; exact gs_pre_ty k2 z
    have po := gs_pre_ok (nm := nm) (v := (vl i).toNatClampNeg) (l := gs_col kd (fun j => (vl j).toNatClampNeg) (gs_en kd cnt) i i) (t1 := gs_t kd vl nm cnt i 1) (t2 := gs_t kd vl nm cnt i 2) k2 t0.1 z
    rw [← rho] at po
    refine br_t (nI_pos' (gx_en tp)) ?_
    rw [nI_clamp (show i < 2 ^ 31 by omega)]
    refine And.intro vin (nm_e (gx_arity k2 (Exists.intro (gs_ar (kd i) + 1) ?_)))
    refine gx_se_l (x_types := upd x_types i (nI (gd_en (gs_pr kd vl nm cnt i).2))) (g0 := x_targets) (ti := (gs_pr kd vl nm cnt i).2) W hd0 hi ?_ pk_us tp (fun c => gs_pr_hd4 c z) (fun k hk => gs_tg_TY tp t0 (gs_t_TY W hn hi k)) ?_ ?_ (gs_ar (kd i)) 0 (Nat.zero_add _) x_targets (fun m hm => absurd hm (Nat.not_lt_zero _)) (fun q _ => rfl)
    · intro k hk
      obtain ⟨s1, s2⟩ := st k hk
      have ol := gs_op_lt W hi hk
      exact ⟨s1, by rw [pk_un (by omega)]; exact s2⟩
    · intro all g' g1 g2
      have c0 := po.1.mpr all
      have := OK c0 g' ?_ g2
      · rw [e2] at this
        exact this
      · intro k hk
        rw [g1 k hk]
        show _ = nI (gd_en (gs_tg (kd i) k (gs_R kd vl nm cnt i).2 (gs_R kd vl nm cnt (gs_op (gs_en kd cnt) i 0)).2 (gs_R kd vl nm cnt (gs_op (gs_en kd cnt) i k)).2))
        rw [e2, gs_t_k hk, gs_t_k (show 0 < gs_ar (kd i) by omega)]
    · intro nall g'
      have nz : (gs_R kd vl nm cnt i).1 ≠ 0 := fun y => nall (po.1.mp y)
      have c2 : (gs_R kd vl nm cnt i).1 = 2 := po.2 nz
      have := BAD nz (by rw [c2]; decide) (upd x_types i (nI (gd_en (gs_pr kd vl nm cnt i).2))) g'
      rw [c2] at this
      exact this
  have Q : ∀ n, (gs_pr kd vl nm cnt i).1 = n → n = 2 ∨ n = 3 → post (nI n) (x_typeDraft, x_typeCount, x_count, x_wrongAt, x_keptPlace, x_cellCount, x_scopeCount, x_frameCount, x_mode, x_atToken, x_scope, x_current, x_callee, x_side, x_ending, x_faultLabel, x_stepsTaken, x_runVerdict, x_runBlame, x_result, x_named, x_kinds, x_values, x_ends, x_types, x_operands, x_targets, x_cellShape, x_cellLabel, x_cellOne, x_cellTwo, x_cellThree, x_scopeValue, x_scopeOuter, x_frameKind, x_frameOne, x_frameTwo, x_frameThree, 32768, 32768, 32768, 32768) := by
    intro n e h
    have ne : (gs_pr kd vl nm cnt i).1 ≠ 0 := by rw [e]; omega
    have c := gs_pre_bad (t2 := gs_t kd vl nm cnt i 2) k2 ne
    rw [← rho] at c
    have cn : (gs_R kd vl nm cnt i).1 = n := c.trans e
    have := BAD (by rw [cn]; omega) (by rw [cn]; omega) x_types x_targets
    rw [cn] at this
    exact this
  have Q2 : (gs_pr kd vl nm cnt i).1 = 2 → wX_settleType_47 post (nI i) (nI (kd i)) (-1) x_typeDraft x_typeCount x_count x_wrongAt x_keptPlace x_cellCount x_scopeCount x_frameCount x_mode x_atToken x_scope x_current x_callee x_side x_ending x_faultLabel x_stepsTaken x_runVerdict x_runBlame x_result x_named x_kinds x_values x_ends x_types x_operands x_targets x_cellShape x_cellLabel x_cellOne x_cellTwo x_cellThree x_scopeValue x_scopeOuter x_frameKind x_frameOne x_frameTwo x_frameThree 32768 32768 32768 32768 := fun z => br_f (by decide) (br_f (by decide) (Q 2 z (Or.inl rfl)))
  have Q3 : (gs_pr kd vl nm cnt i).1 = 3 → wX_settleType_47 post (nI i) (nI (kd i)) (-2) x_typeDraft x_typeCount x_count x_wrongAt x_keptPlace x_cellCount x_scopeCount x_frameCount x_mode x_atToken x_scope x_current x_callee x_side x_ending x_faultLabel x_stepsTaken x_runVerdict x_runBlame x_result x_named x_kinds x_values x_ends x_types x_operands x_targets x_cellShape x_cellLabel x_cellOne x_cellTwo x_cellThree x_scopeValue x_scopeOuter x_frameKind x_frameOne x_frameTwo x_frameThree 32768 32768 32768 32768 := fun z => br_f (by decide) (br_t rfl (Q 3 z (Or.inr rfl)))
  show vp_in (nI i) 36 ∧ _
  rw [nI_clamp (show i < 2 ^ 31 by omega), k1]
  have part : kd i = 4 ∨ kd i = 9 ∨ kd i = 10 → wX_settleType_24 post (nI i) (nI (kd i)) x_typeDraft x_typeCount x_count x_wrongAt x_keptPlace x_cellCount x_scopeCount x_frameCount x_mode x_atToken x_scope x_current x_callee x_side x_ending x_faultLabel x_stepsTaken x_runVerdict x_runBlame x_result x_named x_kinds x_values x_ends x_types x_operands x_targets x_cellShape x_cellLabel x_cellOne x_cellTwo x_cellThree x_scopeValue x_scopeOuter x_frameKind x_frameOne x_frameTwo x_frameThree 32768 32768 32768 32768 := fun c => br_f (show ¬ (1 : Int32) = 0 by decide) (gx_partType W hd0 hi st c P Q2)
  exact And.intro vin (nm_e (pk_eq (kd i) 4 (fun c => part (Or.inl c)) (fun n4 => pk_eq (kd i) 9 (fun c => part (Or.inr (Or.inl c))) (fun n9 => pk_eq (kd i) 10 (fun c => part (Or.inr (Or.inr c))) (fun n10 => br_t rfl (gx_typeOf W hd0 hi he st n4 n9 n10 P Q2 Q3))))))
end
end
section
/-! ===== 34: X's judge ===== -/
/-- all that ends before E, and what ends there from d on, is settled -/
def gx_JI (kd : Nat → Nat) (vl : Nat → Int32) (nm : Nat → Lean.RArray Nat) (cnt E d : Nat) (t g : Nat → Int32) : Prop :=
  ∀ j, j < cnt → (gs_en kd cnt j < E ∨ gs_en kd cnt j = E ∧ d ≤ j) → (gs_R kd vl nm cnt j).1 = 0 ∧ t j = nI (gd_en (gs_R kd vl nm cnt j).2) ∧ ∀ k, k < gs_ar (kd j) → g (3 * j + k) = nI (gd_en (gm_tg (gs_P kd vl nm cnt) j k))
theorem gs_code_lt {kd : Nat → Nat} {vl : Nat → Int32} {nm : Nat → Lean.RArray Nat} {cnt i : Nat} (W : gs_WF kd cnt) (hi : i < cnt) : (gs_R kd vl nm cnt i).1 < 5 := by
  have i2 : ∀ (p : Prop) [Decidable p], (if p then (0 : Nat) else 2) < 5 := by
    intro p _
    split <;> decide
  have cm : ∀ h a b, (gs_cmp h a b).1 < 5 := by
    intro h a b
    unfold gs_cmp
    split
    · exact Nat.zero_lt_succ _
    · exact (by decide : (3 : Nat) < 5)
  have e := gs_rho_eq (vn := fun j => (vl j).toNatClampNeg) (nm := nm) W hi
  show (gs_rho kd (fun j => (vl j).toNatClampNeg) nm cnt i).1 < 5
  rw [e]
  unfold gs_node
  by_cases sn : gs_snd (gs_en kd cnt) (gs_rho kd (fun j => (vl j).toNatClampNeg) nm cnt) i (gs_ar (kd i)) = true
  · rw [if_pos sn]
    unfold gs_typ
    by_cases c : kd i = 0
    · rw [if_pos c]; exact Nat.zero_lt_succ _
    rw [if_neg c]
    by_cases c : kd i = 1
    · rw [if_pos c]; exact Nat.zero_lt_succ _
    rw [if_neg c]
    by_cases c : kd i = 2
    · rw [if_pos c]
      generalize (gs_col kd (fun j => (vl j).toNatClampNeg) (gs_en kd cnt) i i)[(fun j => (vl j).toNatClampNeg) i]? = o
      cases o with
      | none => exact (by decide : (2 : Nat) < 5)
      | some n => exact Nat.zero_lt_succ _
    rw [if_neg c]
    by_cases c : kd i = 3
    · rw [if_pos c]; exact cm _ _ _
    rw [if_neg c]
    generalize gs_tk (gs_en kd cnt) (gs_rho kd (fun j => (vl j).toNatClampNeg) nm cnt) i (gs_ar (kd i)) 0 = t0
    generalize gs_tk (gs_en kd cnt) (gs_rho kd (fun j => (vl j).toNatClampNeg) nm cnt) i (gs_ar (kd i)) 1 = t1
    generalize gs_tk (gs_en kd cnt) (gs_rho kd (fun j => (vl j).toNatClampNeg) nm cnt) i (gs_ar (kd i)) 2 = t2
    by_cases c : kd i = 4
    · rw [if_pos c]
      by_cases d : gd_hd t0 = 2
      · rw [if_pos d]; exact Nat.zero_lt_succ _
      rw [if_neg d]
      by_cases d : gd_hd t0 = 3
      · rw [if_pos d]; exact i2 _
      · rw [if_neg d]; exact (by decide : (2 : Nat) < 5)
    rw [if_neg c]
    by_cases c : kd i = 5
    · rw [if_pos c]; exact i2 _
    rw [if_neg c]
    by_cases c : kd i = 6
    · rw [if_pos c]; exact i2 _
    rw [if_neg c]
    by_cases c : kd i = 7
    · rw [if_pos c]; exact i2 _
    rw [if_neg c]
    by_cases c : kd i = 8
    · rw [if_pos c]; exact cm _ _ _
    rw [if_neg c]
    by_cases c : kd i = 11
    · rw [if_pos c]; exact i2 _
    rw [if_neg c]
    by_cases d : gd_hd t0 = 2
    · rw [if_pos d]; exact Nat.zero_lt_succ _
    rw [if_neg d]
    by_cases d : gd_hd t0 = 4
    · rw [if_pos d]; exact Nat.zero_lt_succ _
    · rw [if_neg d]; exact (by decide : (2 : Nat) < 5)
  · rw [if_neg sn]; exact (by decide : (4 : Nat) < 5)
section
variable {x_typeDraft x_typeCount x_count x_wrongAt x_keptPlace x_cellCount x_scopeCount x_frameCount x_mode x_atToken x_scope x_current x_callee x_side x_ending x_faultLabel x_stepsTaken x_runVerdict x_runBlame x_result : Int32} {x_named x_kinds x_values x_ends x_types x_operands x_targets x_cellShape x_cellLabel x_cellOne x_cellTwo x_cellThree x_scopeValue x_scopeOuter x_frameKind x_frameOne x_frameTwo x_frameThree : Nat → Int32}
variable {kd : Nat → Nat} {vl : Nat → Int32} {nm : Nat → Lean.RArray Nat} {cnt : Nat}
theorem gx_j35 {post : Int32 → SX → Prop} {J23 : Int32 → Int32 → Int32 → Int32 → Int32 → Int32 → Int32 → Int32 → Int32 → Int32 → Int32 → Int32 → Int32 → Int32 → Int32 → Int32 → Int32 → Int32 → Int32 → Int32 → Int32 → (Nat → Int32) → (Nat → Int32) → (Nat → Int32) → (Nat → Int32) → (Nat → Int32) → (Nat → Int32) → (Nat → Int32) → (Nat → Int32) → (Nat → Int32) → (Nat → Int32) → (Nat → Int32) → (Nat → Int32) → (Nat → Int32) → (Nat → Int32) → (Nat → Int32) → (Nat → Int32) → (Nat → Int32) → (Nat → Int32) → Nat → Nat → Nat → Nat → Prop} {E : Nat} (W : gs_WF kd cnt) (hd : gx_DR kd vl nm cnt x_named x_kinds x_values) (hEO : ∀ j, j < cnt → x_ends j = nI (gs_en kd cnt j) ∧ ∀ m, m < gs_ar (kd j) → x_operands (3 * j + m) = nI (gs_op (gs_en kd cnt) j m)) (hE : E ≤ cnt)
    (B : ∀ i t g, i < cnt → (gs_R kd vl nm cnt i).1 ≠ 0 → (gs_R kd vl nm cnt i).1 ≠ 4 → (∀ j, j < i → (gs_R kd vl nm cnt j).1 = 0 ∨ (gs_R kd vl nm cnt j).1 = 4) → post (nI (gs_R kd vl nm cnt i).1) (x_typeDraft, x_typeCount, x_count, nI i, x_keptPlace, x_cellCount, x_scopeCount, x_frameCount, x_mode, x_atToken, x_scope, x_current, x_callee, x_side, x_ending, x_faultLabel, x_stepsTaken, x_runVerdict, x_runBlame, x_result, x_named, x_kinds, x_values, x_ends, t, x_operands, g, x_cellShape, x_cellLabel, x_cellOne, x_cellTwo, x_cellThree, x_scopeValue, x_scopeOuter, x_frameKind, x_frameOne, x_frameTwo, x_frameThree, 32768, 32768, 32768, 32768))
    (N : ∀ t g, gx_JI kd vl nm cnt (E + 1) (E + 1) t g → J23 (nI (E + 1)) x_typeDraft x_typeCount x_count x_wrongAt x_keptPlace x_cellCount x_scopeCount x_frameCount x_mode x_atToken x_scope x_current x_callee x_side x_ending x_faultLabel x_stepsTaken x_runVerdict x_runBlame x_result x_named x_kinds x_values x_ends t x_operands g x_cellShape x_cellLabel x_cellOne x_cellTwo x_cellThree x_scopeValue x_scopeOuter x_frameKind x_frameOne x_frameTwo x_frameThree 32768 32768 32768 32768) :
    ∀ d, d ≤ E → ∀ t g, gx_JI kd vl nm cnt E d t g → wX_judge_35 post J23 (nI E) (d + 1) (nI d - 1) x_typeDraft x_typeCount x_count x_wrongAt x_keptPlace x_cellCount x_scopeCount x_frameCount x_mode x_atToken x_scope x_current x_callee x_side x_ending x_faultLabel x_stepsTaken x_runVerdict x_runBlame x_result x_named x_kinds x_values x_ends t x_operands g x_cellShape x_cellLabel x_cellOne x_cellTwo x_cellThree x_scopeValue x_scopeOuter x_frameKind x_frameOne x_frameTwo x_frameThree 32768 32768 32768 32768 := by
  have hd0 := hd
  obtain ⟨c36, hn, hnm, hk'⟩ := hd
  intro d
  induction d with
  | zero =>
    intro _ t g h
    refine br_t (show nI 0 - 1 < 0 by decide) (nm_r (nI_1 E) (N t g ?_))
    intro j hj c
    have := (gs_en_ok W hj).1
    exact h j hj (by omega)
  | succ d ih =>
    intro hdE t g h
    have dc : d < cnt := by omega
    have en36 : gs_en kd cnt d ≤ 36 := Nat.le_trans (gs_en_ok W dc).2.1 c36
    rw [nI_pred d]
    refine br_f (nI_pos (by omega)) ?_
    rw [nI_clamp (show d < 2 ^ 31 by omega), (hEO d dc).1]
    refine And.intro (vp_in_nI (by omega) (by decide)) (pk_eq (gs_en kd cnt d) E (fun z => ?_) (fun z => ?_))
    · have done : ∀ m, m < gs_ar (kd d) → (gs_R kd vl nm cnt (gs_op (gs_en kd cnt) d m)).1 = 0 ∧ t (gs_op (gs_en kd cnt) d m) = nI (gd_en (gs_R kd vl nm cnt (gs_op (gs_en kd cnt) d m)).2) := by
        intro m hm
        have ol := gs_op_lt W dc hm
        have le : gs_en kd cnt (gs_op (gs_en kd cnt) d m) ≤ gs_en kd cnt d := by
          rw [← gs_op_end W dc]
          refine gs_before W dc (Nat.le_refl _) ol.1 ?_
          rw [gs_op_end W dc]
          have a := gs_op_ok W dc (gs_ar (kd d)) (Nat.le_refl _)
          have b := gs_op_ok W dc m (by omega)
          refine Nat.lt_of_not_le (fun y => ?_)
          rw [← gs_op_end W dc] at y
          by_cases c : gs_op (gs_en kd cnt) d (gs_ar (kd d)) = gs_op (gs_en kd cnt) d m
          · rw [c] at a; omega
          · have := b.2.2.2 _ a.1 (by omega); omega
        have := h _ ol.2 (by omega)
        exact ⟨this.1, this.2.1⟩
      refine gx_settle (x_types := t) (x_targets := g) W hd0 dc (fun j hj => (hEO j hj).1) (fun k hk => ⟨(hEO d dc).2 k hk, by rw [gs_t_k hk]; exact (done k hk).2⟩) (fun m hm => (done m hm).1) ?_ ?_
      · intro c0 g' g1 g2
        refine br_t rfl (nm_r (gx_am1 d) (ih (by omega) _ _ ?_))
        intro j hj c
        by_cases e : j = d
        · subst e
          exact ⟨c0, pk_us, g1⟩
        · obtain ⟨q1, q2, q3⟩ := h j hj (by omega)
          refine ⟨q1, by rw [pk_un e]; exact q2, ?_⟩
          intro k hk
          have a3 := gs_ar3 (kd j)
          rw [g2 (3 * j + k) (by omega)]
          exact q3 k hk
      · intro nz n4 t' g'
        refine pk_eq (gs_R kd vl nm cnt d).1 0 (fun y => absurd y nz) (fun _ => ?_) rfl rfl ?_ (by decide)
        · refine B d t' g' dc nz n4 (gs_small W dc nz ?_)
          intro j hj lt
          exact (h j hj (by omega)).1
        · have := gs_code_lt (kd := kd) (vl := vl) (nm := nm) W dc
          omega
    · refine br_t rfl (nm_r (gx_am1 d) (ih (by omega) t g ?_))
      intro j hj c
      refine h j hj ?_
      by_cases e : j = d
      · subst e; omega
      · omega
theorem gx_j23 {post : Int32 → SX → Prop} (W : gs_WF kd cnt) (hd : gx_DR kd vl nm cnt x_named x_kinds x_values) (hEO : ∀ j, j < cnt → x_ends j = nI (gs_en kd cnt j) ∧ ∀ m, m < gs_ar (kd j) → x_operands (3 * j + m) = nI (gs_op (gs_en kd cnt) j m))
    (B : ∀ i t g, i < cnt → (gs_R kd vl nm cnt i).1 ≠ 0 → (gs_R kd vl nm cnt i).1 ≠ 4 → (∀ j, j < i → (gs_R kd vl nm cnt j).1 = 0 ∨ (gs_R kd vl nm cnt j).1 = 4) → post (nI (gs_R kd vl nm cnt i).1) (x_typeDraft, x_typeCount, nI cnt, nI i, x_keptPlace, x_cellCount, x_scopeCount, x_frameCount, x_mode, x_atToken, x_scope, x_current, x_callee, x_side, x_ending, x_faultLabel, x_stepsTaken, x_runVerdict, x_runBlame, x_result, x_named, x_kinds, x_values, x_ends, t, x_operands, g, x_cellShape, x_cellLabel, x_cellOne, x_cellTwo, x_cellThree, x_scopeValue, x_scopeOuter, x_frameKind, x_frameOne, x_frameTwo, x_frameThree, 32768, 32768, 32768, 32768))
    (C : ∀ t g, gx_JI kd vl nm cnt (cnt + 1) (cnt + 1) t g → post 0 (x_typeDraft, x_typeCount, nI cnt, x_wrongAt, x_keptPlace, x_cellCount, x_scopeCount, x_frameCount, x_mode, x_atToken, x_scope, x_current, x_callee, x_side, x_ending, x_faultLabel, x_stepsTaken, x_runVerdict, x_runBlame, x_result, x_named, x_kinds, x_values, x_ends, t, x_operands, g, x_cellShape, x_cellLabel, x_cellOne, x_cellTwo, x_cellThree, x_scopeValue, x_scopeOuter, x_frameKind, x_frameOne, x_frameTwo, x_frameThree, 32768, 32768, 32768, 32768)) :
    ∀ d E, E + d = cnt + 1 → ∀ t g, gx_JI kd vl nm cnt E E t g → wX_judge_23 post (d + 1) (nI E) x_typeDraft x_typeCount (nI cnt) x_wrongAt x_keptPlace x_cellCount x_scopeCount x_frameCount x_mode x_atToken x_scope x_current x_callee x_side x_ending x_faultLabel x_stepsTaken x_runVerdict x_runBlame x_result x_named x_kinds x_values x_ends t x_operands g x_cellShape x_cellLabel x_cellOne x_cellTwo x_cellThree x_scopeValue x_scopeOuter x_frameKind x_frameOne x_frameTwo x_frameThree 32768 32768 32768 32768 := by
  have c36 := hd.1
  intro d
  induction d with
  | zero =>
    intro E e t g h
    have e' : E = cnt + 1 := by omega
    subst e'
    exact br_t (nI_lt (by omega) (by omega)) (C t g h)
  | succ d ih =>
    intro E e t g h
    refine br_f (nI_nlt (by omega) (by omega)) (nm_e (Exists.intro (E + 1) ?_))
    exact gx_j35 (x_count := nI cnt) W hd hEO (by omega) B (fun t' g' h' => ih (E + 1) (by omega) t' g' h') E (Nat.le_refl _) t g h
theorem gx_judge {post : Int32 → SX → Prop} (hd : gx_DR kd vl nm cnt x_named x_kinds x_values)
    (A : ∀ i, gs_FA kd cnt i → post 1 (x_typeDraft, x_typeCount, nI cnt, nI i, x_keptPlace, x_cellCount, x_scopeCount, x_frameCount, x_mode, x_atToken, x_scope, x_current, x_callee, x_side, x_ending, x_faultLabel, x_stepsTaken, x_runVerdict, x_runBlame, x_result, x_named, x_kinds, x_values, x_ends, x_types, x_operands, x_targets, x_cellShape, x_cellLabel, x_cellOne, x_cellTwo, x_cellThree, x_scopeValue, x_scopeOuter, x_frameKind, x_frameOne, x_frameTwo, x_frameThree, 32768, 32768, 32768, 32768))
    (B : ∀ i e o t g, gs_WF kd cnt → i < cnt → (gs_R kd vl nm cnt i).1 ≠ 0 → (gs_R kd vl nm cnt i).1 ≠ 4 → (∀ j, j < i → (gs_R kd vl nm cnt j).1 = 0 ∨ (gs_R kd vl nm cnt j).1 = 4) → post (nI (gs_R kd vl nm cnt i).1) (x_typeDraft, x_typeCount, nI cnt, nI i, x_keptPlace, x_cellCount, x_scopeCount, x_frameCount, x_mode, x_atToken, x_scope, x_current, x_callee, x_side, x_ending, x_faultLabel, x_stepsTaken, x_runVerdict, x_runBlame, x_result, x_named, x_kinds, x_values, e, t, o, g, x_cellShape, x_cellLabel, x_cellOne, x_cellTwo, x_cellThree, x_scopeValue, x_scopeOuter, x_frameKind, x_frameOne, x_frameTwo, x_frameThree, 32768, 32768, 32768, 32768))
    (C : ∀ e o t g, gs_WF kd cnt → (∀ i, i < cnt → (gs_R kd vl nm cnt i).1 = 0) → gx_P (gs_P kd vl nm cnt) x_kinds x_values t o g → post 0 (x_typeDraft, x_typeCount, nI cnt, -1, x_keptPlace, x_cellCount, x_scopeCount, x_frameCount, x_mode, x_atToken, x_scope, x_current, x_callee, x_side, x_ending, x_faultLabel, x_stepsTaken, x_runVerdict, x_runBlame, x_result, x_named, x_kinds, x_values, e, t, o, g, x_cellShape, x_cellLabel, x_cellOne, x_cellTwo, x_cellThree, x_scopeValue, x_scopeOuter, x_frameKind, x_frameOne, x_frameTwo, x_frameThree, 32768, 32768, 32768, 32768)) : wpX_judge post (x_typeDraft, x_typeCount, nI cnt, x_wrongAt, x_keptPlace, x_cellCount, x_scopeCount, x_frameCount, x_mode, x_atToken, x_scope, x_current, x_callee, x_side, x_ending, x_faultLabel, x_stepsTaken, x_runVerdict, x_runBlame, x_result, x_named, x_kinds, x_values, x_ends, x_types, x_operands, x_targets, x_cellShape, x_cellLabel, x_cellOne, x_cellTwo, x_cellThree, x_scopeValue, x_scopeOuter, x_frameKind, x_frameOne, x_frameTwo, x_frameThree, 32768, 32768, 32768, 32768) := by
  have hd0 := hd
  obtain ⟨c36, hn, hnm, hk'⟩ := hd
  unfold wpX_judge
  refine gx_syntaxFault hd0 (fun W => ?_) (fun i hF => ?_)
  · refine br_t (by decide) (gx_findOperands W hd0 ?_)
    intro e o hEO
    refine Exists.intro (cnt + 1) (gx_j23 (x_ends := e) (x_operands := o) (x_wrongAt := -1) W hd0 hEO (fun i t g a1 a2 a3 a4 => B i e o t g W a1 a2 a3 a4) (fun t g h => ?_) cnt 1 (by omega) x_types x_targets ?_)
    · have all : ∀ j, j < cnt → gs_en kd cnt j < cnt + 1 ∨ gs_en kd cnt j = cnt + 1 ∧ cnt + 1 ≤ j := fun j hj => Or.inl (by have := (gs_en_ok W hj).2.1; omega)
      refine C e o t g W (fun i hi => (h i hi (all i hi)).1) ⟨c36, ?_⟩
      intro i hi
      have hi' : i < cnt := hi
      obtain ⟨k1, k2, k3, k4⟩ := hk' i hi'
      obtain ⟨q1, q2, q3⟩ := h i hi' (all i hi')
      refine ⟨k1, k2, k3, q2, gs_rTY W hn hi', fun c => k4 (Or.inl c), ?_⟩
      intro k hk
      refine ⟨(hEO i hi').2 k hk, (gs_op_lt W hi' hk).2, q3 k hk, ?_⟩
      exact gs_tg_TY (gs_rTY W hn hi') (gs_rTY W hn (gs_op_lt W hi' (Nat.lt_of_le_of_lt (Nat.zero_le _) hk)).2) (gs_rTY W hn (gs_op_lt W hi' hk).2)
    · intro j hj c
      have := (gs_en_ok W hj).1
      omega
  · have hi : i ≤ cnt := by
      rcases hF.2 with c | c
      · omega
      · omega
    exact br_f (nI_pos (by omega)) (A i hF)
end
end
section
/-! ===== 35: the reference's check: ends, operands, variables ===== -/
/-- the reference's draft -/
def gy_DR (kd : Nat → Nat) (vl : Nat → Int32) (nm : Nat → Lean.RArray Nat) (cnt : Nat) (ty kind wit : Nat → Int32) : Prop :=
  cnt ≤ 36 ∧ (∀ n, gd_TY (nm n)) ∧ (∀ n, n < 10 → gd_Sp ty (nm n) (288 + 8 * n)) ∧ gy_K ty ∧ ∀ i, i < cnt → kind i = nI (kd i) ∧ kd i < 12 ∧ wit i = vl i ∧ gs_vr kd vl i
theorem gd_sp_b {r : Nat → Int32} : ∀ (t : Lean.RArray Nat) (i : Nat), gd_vt t → gd_Sp r t i → ∀ k, k < gd_sz t → vp_nar .byte (r (i + k)) = r (i + k) := by
  intro t
  induction t with
  | leaf n =>
    intro i hv hs k hk
    simp only [gd_vt] at hv
    simp only [gd_sz] at hk
    have e : k = 0 := by omega
    subst e
    rw [Nat.add_zero, show r i = nI n from hs]
    exact gd_nb n (by omega)
  | branch h l x ihl ihr =>
    intro i hv hs k hk
    simp only [gd_vt] at hv
    simp only [gd_sz] at hk
    have hh := gd_h8 hv.1
    by_cases h0 : k = 0
    · subst h0
      rw [Nat.add_zero, show r i = nI h from hs.1]
      exact gd_nb h (by omega)
    · by_cases h1 : k ≤ gd_sz l
      · have := ihl (i + 1) hv.2.1 hs.2.1 (k - 1) (by omega)
        rw [show i + 1 + (k - 1) = i + k by omega] at this
        exact this
      · have := ihr (i + 1 + gd_sz l) hv.2.2 hs.2.2 (k - 1 - gd_sz l) (by omega)
        rw [show i + 1 + gd_sz l + (k - 1 - gd_sz l) = i + k by omega] at this
        exact this
theorem gd_sp_same {r r' : Nat → Int32} {t : Lean.RArray Nat} {i : Nat} (h : gd_Sp r t i) (e : ∀ k, k < gd_sz t → r' (i + k) = r (i + k)) : gd_Sp r' t i := gd_sp_cp t i i h e
theorem gy_ops {post : Int32 → Prop} {k : Nat} (hk : k < 12) (P : post (nI (gs_ar k))) : wpY_operands post (nI k) := by
  rcases gs_k12 hk with c | c | c | c | c | c | c | c | c | c | c | c <;> subst c
  · exact br_f (by decide) P
  · exact br_f (by decide) P
  · exact br_f (by decide) P
  · exact br_t (by decide) (br_f (by decide) (br_f (by decide) (br_t (by decide) P)))
  · exact br_t (by decide) (br_f (by decide) (br_t rfl P))
  · exact br_t (by decide) (br_t rfl P)
  · exact br_t (by decide) (br_f (by decide) (br_f (by decide) (br_f (by decide) (br_f (by decide) P))))
  · exact br_t (by decide) (br_f (by decide) (br_f (by decide) (br_f (by decide) (br_f (by decide) P))))
  · exact br_t (by decide) (br_f (by decide) (br_f (by decide) (br_f (by decide) (br_f (by decide) P))))
  · exact br_t (by decide) (br_f (by decide) (br_f (by decide) (br_f (by decide) (br_t (by decide) P))))
  · exact br_t (by decide) (br_f (by decide) (br_f (by decide) (br_f (by decide) (br_t (by decide) P))))
  · exact br_t (by decide) (br_f (by decide) (br_f (by decide) (br_f (by decide) (br_t (by decide) P))))
section
variable {y_parts y_count y_place y_where y_values y_variables y_waits y_at y_world y_steps y_blame y_result y_given : Int32} {y_ty y_part y_kind y_end y_state y_with y_runKind y_runEnd y_runWith y_sort y_one y_two y_from y_to y_label y_held y_around y_waiting y_operand y_outer y_kept : Nat → Int32}
variable {kd : Nat → Nat} {vl : Nat → Int32} {nm : Nat → Lean.RArray Nat} {cnt : Nat}
theorem gy_cp {post : Int32 → SY → Prop} {t : Lean.RArray Nat} (ht : gd_TY t) {o a : Nat} (sp : gd_Sp y_ty t o) (ho : o + 7 ≤ 700) (ha : a + 7 ≤ 700) (hd : a + gd_sz t ≤ o)
    (P : ∀ r' : Nat → Int32, gd_Sp r' t a → (∀ q, (q < a ∨ a + gd_sz t ≤ q) → r' q = y_ty q) → post (nI (a + gd_sz t)) (y_parts, y_count, y_place, y_where, y_values, y_variables, y_waits, y_at, y_world, y_steps, y_blame, y_result, y_given, r', y_part, y_kind, y_end, y_state, y_with, y_runKind, y_runEnd, y_runWith, y_sort, y_one, y_two, y_from, y_to, y_label, y_held, y_around, y_waiting, y_operand, y_outer, y_kept)) : wpY_copy post (y_parts, y_count, y_place, y_where, y_values, y_variables, y_waits, y_at, y_world, y_steps, y_blame, y_result, y_given, y_ty, y_part, y_kind, y_end, y_state, y_with, y_runKind, y_runEnd, y_runWith, y_sort, y_one, y_two, y_from, y_to, y_label, y_held, y_around, y_waiting, y_operand, y_outer, y_kept) (nI o) (nI a) :=
  gy_copy ht sp ho ha (Or.inr hd) (gd_sp_b t o ht.1 sp) P
theorem gy_endOf_l {post : Int32 → Prop} {i : Nat} (W : gs_WF kd cnt) (c36 : cnt ≤ 36) (hk : y_kind i = nI (kd i)) (k12 : kd i < 12) (hi : i < cnt) (he : ∀ j, i < j → j < cnt → y_end j = nI (gs_en kd cnt j)) (P : post (nI (gs_en kd cnt i))) : ∀ d k, k + d = gs_ar (kd i) → wY_endOf_6 post (nI i) y_parts y_count y_place y_where y_values y_variables y_waits y_at y_world y_steps y_blame y_result y_given y_ty y_part y_kind y_end y_state y_with y_runKind y_runEnd y_runWith y_sort y_one y_two y_from y_to y_label y_held y_around y_waiting y_operand y_outer y_kept (d + 1) (nI (gs_op (gs_en kd cnt) i k)) (nI k) := by
  have a3 := gs_ar3 (kd i)
  intro d
  induction d with
  | zero =>
    intro k e
    have e' : k = gs_ar (kd i) := by omega
    show vp_in (nI i) 36 ∧ _
    rw [nI_clamp (show i < 2 ^ 31 by omega), hk]
    refine And.intro (vp_in_nI (by omega) (by decide)) (gy_ops k12 (br_t (nI_le (by omega) (by omega)) ?_))
    rw [e', gs_op_end W hi]
    exact P
  | succ d ih =>
    intro k e
    have ol := gs_op_lt W hi (show k < gs_ar (kd i) by omega)
    show vp_in (nI i) 36 ∧ _
    rw [nI_clamp (show i < 2 ^ 31 by omega), hk]
    refine And.intro (vp_in_nI (by omega) (by decide)) (gy_ops k12 (br_f (nI_ge (by omega) (by omega)) ?_))
    rw [nI_clamp (show gs_op (gs_en kd cnt) i k < 2 ^ 31 by omega), he _ ol.1 ol.2]
    exact And.intro (vp_in_nI (by omega) (by decide)) (nm_e (nm_r (nI_1 k) (ih (k + 1) (by omega))))
theorem gy_endOf {post : Int32 → Prop} {i : Nat} (W : gs_WF kd cnt) (c36 : cnt ≤ 36) (hk : y_kind i = nI (kd i)) (k12 : kd i < 12) (hi : i < cnt) (he : ∀ j, i < j → j < cnt → y_end j = nI (gs_en kd cnt j)) (P : post (nI (gs_en kd cnt i))) : wpY_endOf post (y_parts, y_count, y_place, y_where, y_values, y_variables, y_waits, y_at, y_world, y_steps, y_blame, y_result, y_given, y_ty, y_part, y_kind, y_end, y_state, y_with, y_runKind, y_runEnd, y_runWith, y_sort, y_one, y_two, y_from, y_to, y_label, y_held, y_around, y_waiting, y_operand, y_outer, y_kept) (nI i) :=
  nm_r (nI_1 i) (Exists.intro (gs_ar (kd i) + 1) (gy_endOf_l W c36 hk k12 hi he P (gs_ar (kd i)) 0 (Nat.zero_add _)))
theorem gy_opd_l {post : Int32 → Prop} {i K : Nat} (W : gs_WF kd cnt) (c36 : cnt ≤ 36) (hi : i < cnt) (hK : K < gs_ar (kd i)) (he : ∀ j, i < j → j < cnt → y_end j = nI (gs_en kd cnt j)) (P : post (nI (gs_op (gs_en kd cnt) i K))) : ∀ d k, k + d = K → wY_operand_7 post (nI K) y_parts y_count y_place y_where y_values y_variables y_waits y_at y_world y_steps y_blame y_result y_given y_ty y_part y_kind y_end y_state y_with y_runKind y_runEnd y_runWith y_sort y_one y_two y_from y_to y_label y_held y_around y_waiting y_operand y_outer y_kept (d + 1) (nI (gs_op (gs_en kd cnt) i k)) (nI k) := by
  have a3 := gs_ar3 (kd i)
  intro d
  induction d with
  | zero =>
    intro k e
    have e' : k = K := by omega
    subst e'
    exact br_t (Int32.le_refl _) P
  | succ d ih =>
    intro k e
    have ol := gs_op_lt W hi (show k < gs_ar (kd i) by omega)
    refine br_f (nI_ge (by omega) (by omega)) ?_
    rw [nI_clamp (show gs_op (gs_en kd cnt) i k < 2 ^ 31 by omega), he _ ol.1 ol.2]
    exact And.intro (vp_in_nI (by omega) (by decide)) (nm_e (nm_r (nI_1 k) (ih (k + 1) (by omega))))
theorem gy_opd {post : Int32 → Prop} {i K : Nat} (W : gs_WF kd cnt) (c36 : cnt ≤ 36) (hi : i < cnt) (hK : K < gs_ar (kd i)) (he : ∀ j, i < j → j < cnt → y_end j = nI (gs_en kd cnt j)) (P : post (nI (gs_op (gs_en kd cnt) i K))) : wpY_operand post (y_parts, y_count, y_place, y_where, y_values, y_variables, y_waits, y_at, y_world, y_steps, y_blame, y_result, y_given, y_ty, y_part, y_kind, y_end, y_state, y_with, y_runKind, y_runEnd, y_runWith, y_sort, y_one, y_two, y_from, y_to, y_label, y_held, y_around, y_waiting, y_operand, y_outer, y_kept) (nI i) (nI K) :=
  nm_r (nI_1 i) (Exists.intro (K + 1) (gy_opd_l W c36 hi hK he P K 0 (Nat.zero_add _)))
def gy_cd (c : Nat) : Int32 := if c = 4 then -1 else nI c
theorem gy_cd0 {c : Nat} (h : c < 5) : gy_cd c = 0 ↔ c = 0 := by
  unfold gy_cd
  by_cases e : c = 4
  · rw [if_pos e]
    exact ⟨fun z => absurd z (by decide), fun z => by omega⟩
  · rw [if_neg e]
    exact nI_eq (b := 0) (by omega) (by decide)
theorem gy_sound_l {post : Int32 → Prop} {i : Nat} (W : gs_WF kd cnt) (c36 : cnt ≤ 36) (hk : y_kind i = nI (kd i)) (k12 : kd i < 12) (hi : i < cnt) (he : ∀ j, i < j → j < cnt → y_end j = nI (gs_en kd cnt j)) (hs : ∀ j, i < j → j < cnt → y_state j = gy_cd (gs_R kd vl nm cnt j).1)
    (P : (∀ m, m < gs_ar (kd i) → (gs_R kd vl nm cnt (gs_op (gs_en kd cnt) i m)).1 = 0) → post 1) (Q : ¬ (∀ m, m < gs_ar (kd i) → (gs_R kd vl nm cnt (gs_op (gs_en kd cnt) i m)).1 = 0) → post 0) : ∀ d k, k + d = gs_ar (kd i) → (∀ m, m < k → (gs_R kd vl nm cnt (gs_op (gs_en kd cnt) i m)).1 = 0) → wY_sound_2 post (nI i) y_parts y_count y_place y_where y_values y_variables y_waits y_at y_world y_steps y_blame y_result y_given y_ty y_part y_kind y_end y_state y_with y_runKind y_runEnd y_runWith y_sort y_one y_two y_from y_to y_label y_held y_around y_waiting y_operand y_outer y_kept (d + 1) (nI k) := by
  have a3 := gs_ar3 (kd i)
  intro d
  induction d with
  | zero =>
    intro k e h
    have e' : k = gs_ar (kd i) := by omega
    subst e'
    show vp_in (nI i) 36 ∧ _
    rw [nI_clamp (show i < 2 ^ 31 by omega), hk]
    exact And.intro (vp_in_nI (by omega) (by decide)) (gy_ops k12 (br_t (Int32.le_refl _) (P h)))
  | succ d ih =>
    intro k e h
    have kk : k < gs_ar (kd i) := by omega
    have ol := gs_op_lt W hi kk
    show vp_in (nI i) 36 ∧ _
    rw [nI_clamp (show i < 2 ^ 31 by omega), hk]
    refine And.intro (vp_in_nI (by omega) (by decide)) (gy_ops k12 (br_f (nI_ge (by omega) (by omega)) (gy_opd W c36 hi kk he ?_)))
    rw [nI_clamp (show gs_op (gs_en kd cnt) i k < 2 ^ 31 by omega), hs _ ol.1 ol.2]
    have cl := gs_code_lt (vl := vl) (nm := nm) W ol.2
    refine And.intro (vp_in_nI (by omega) (by decide)) (br_c (fun z => ?_) (fun z => ?_))
    · have c0 := (gy_cd0 cl).mp z
      refine nm_r (nI_1 k) (ih (k + 1) (by omega) ?_)
      intro m hm
      by_cases c : m = k
      · subst c; exact c0
      · exact h m (by omega)
    · exact Q (fun all => z ((gy_cd0 cl).mpr (all k kk)))
theorem gy_sound {post : Int32 → Prop} {i : Nat} (W : gs_WF kd cnt) (c36 : cnt ≤ 36) (hk : y_kind i = nI (kd i)) (k12 : kd i < 12) (hi : i < cnt) (he : ∀ j, i < j → j < cnt → y_end j = nI (gs_en kd cnt j)) (hs : ∀ j, i < j → j < cnt → y_state j = gy_cd (gs_R kd vl nm cnt j).1)
    (P : (∀ m, m < gs_ar (kd i) → (gs_R kd vl nm cnt (gs_op (gs_en kd cnt) i m)).1 = 0) → post 1) (Q : ¬ (∀ m, m < gs_ar (kd i) → (gs_R kd vl nm cnt (gs_op (gs_en kd cnt) i m)).1 = 0) → post 0) : wpY_sound post (y_parts, y_count, y_place, y_where, y_values, y_variables, y_waits, y_at, y_world, y_steps, y_blame, y_result, y_given, y_ty, y_part, y_kind, y_end, y_state, y_with, y_runKind, y_runEnd, y_runWith, y_sort, y_one, y_two, y_from, y_to, y_label, y_held, y_around, y_waiting, y_operand, y_outer, y_kept) (nI i) :=
  Exists.intro (gs_ar (kd i) + 1) (gy_sound_l W c36 hk k12 hi he hs P Q (gs_ar (kd i)) 0 (Nat.zero_add _) (fun m hm => absurd hm (Nat.not_lt_zero _)))
theorem gy_eol_l {post : Int32 → Prop} {j : Nat} (W : gs_WF kd cnt) (c36 : cnt ≤ 36) (hk : ∀ i, i < cnt → y_kind i = nI (kd i) ∧ kd i < 12) (hj : j < cnt) (P : post (nI (gs_en kd cnt j))) : ∀ d k, k + d = gs_en kd cnt j → j < k → wY_endOfLam_6 post y_parts y_count y_place y_where y_values y_variables y_waits y_at y_world y_steps y_blame y_result y_given y_ty y_part y_kind y_end y_state y_with y_runKind y_runEnd y_runWith y_sort y_one y_two y_from y_to y_label y_held y_around y_waiting y_operand y_outer y_kept (d + 1) (nI (gs_D kd k + 1 - gs_D kd j)) (nI k) := by
  obtain ⟨e1, e2, e3, e4⟩ := gs_en_ok W hj
  intro d
  induction d with
  | zero =>
    intro k e hk'
    have e' : k = gs_en kd cnt j := by omega
    subst e'
    refine br_t ?_ P
    rw [show gs_D kd (gs_en kd cnt j) + 1 - gs_D kd j = 0 by omega, nI_0]
    exact Int32.le_refl 0
  | succ d ih =>
    intro k e hk'
    have kc : k < cnt := by omega
    have dk := e4 k (by omega) (by omega)
    have d0 := W.1 j hj
    have dl := gs_D_le kd k
    obtain ⟨k1, k2⟩ := hk k kc
    refine br_f (nI_nle (by omega) (by omega)) (nm_r (nI_1 k) ?_)
    rw [nI_clamp (show k < 2 ^ 31 by omega), k1]
    have es : gs_D kd k + 1 - gs_D kd j + gs_ar (kd k) - 1 = gs_D kd (k + 1) + 1 - gs_D kd j := by
      have : gs_D kd (k + 1) = gs_D kd k + gs_ar (kd k) - 1 := rfl
      omega
    refine And.intro (vp_in_nI (by omega) (by decide)) (gy_ops k2 (nm_r (gx_am (by omega)) ?_))
    rw [es]
    exact ih (k + 1) (by omega) (by omega)
theorem gy_endOfLam {post : Int32 → Prop} {j : Nat} (W : gs_WF kd cnt) (c36 : cnt ≤ 36) (hk : ∀ i, i < cnt → y_kind i = nI (kd i) ∧ kd i < 12) (hj : j < cnt) (h3 : kd j = 3) (P : post (nI (gs_en kd cnt j))) : wpY_endOfLam post (y_parts, y_count, y_place, y_where, y_values, y_variables, y_waits, y_at, y_world, y_steps, y_blame, y_result, y_given, y_ty, y_part, y_kind, y_end, y_state, y_with, y_runKind, y_runEnd, y_runWith, y_sort, y_one, y_two, y_from, y_to, y_label, y_held, y_around, y_waiting, y_operand, y_outer, y_kept) (nI j) := by
  have e1 := (gs_en_ok W hj).1
  have d0 := W.1 j hj
  have ed : gs_D kd (j + 1) + 1 - gs_D kd j = 1 := by
    have : gs_D kd (j + 1) = gs_D kd j + gs_ar (kd j) - 1 := rfl
    rw [h3] at this
    have a : gs_ar 3 = 1 := rfl
    omega
  have main := gy_eol_l (y_parts := y_parts) (y_count := y_count) (y_place := y_place) (y_where := y_where) (y_values := y_values) (y_variables := y_variables) (y_waits := y_waits) (y_at := y_at) (y_world := y_world) (y_steps := y_steps) (y_blame := y_blame) (y_result := y_result) (y_given := y_given) (y_ty := y_ty) (y_part := y_part) (y_kind := y_kind) (y_end := y_end) (y_state := y_state) (y_with := y_with) (y_runKind := y_runKind) (y_runEnd := y_runEnd) (y_runWith := y_runWith) (y_sort := y_sort) (y_one := y_one) (y_two := y_two) (y_from := y_from) (y_to := y_to) (y_label := y_label) (y_held := y_held) (y_around := y_around) (y_waiting := y_waiting) (y_operand := y_operand) (y_outer := y_outer) (y_kept := y_kept) W c36 hk hj P (gs_en kd cnt j - (j + 1)) (j + 1) (by omega) (by omega)
  rw [ed] at main
  exact nm_r (nI_1 j) (Exists.intro _ main)
theorem gy_la_l {post : Int32 → Prop} {i : Nat} (W : gs_WF kd cnt) (hd : gy_DR kd vl nm cnt y_ty y_kind y_with) (hi : i < cnt) : ∀ d, d ≤ i → ∀ b, b < 40 →
    (∀ n, (gs_col kd (fun j => (vl j).toNatClampNeg) (gs_en kd cnt) i d)[b]? = some n → n < 10 → post (nI n)) → ((gs_col kd (fun j => (vl j).toNatClampNeg) (gs_en kd cnt) i d)[b]? = none → post (-1)) → wY_lamAround_7 post (nI i) y_parts y_count y_place y_where y_values y_variables y_waits y_at y_world y_steps y_blame y_result y_given y_ty y_part y_kind y_end y_state y_with y_runKind y_runEnd y_runWith y_sort y_one y_two y_from y_to y_label y_held y_around y_waiting y_operand y_outer y_kept (d + 1) (nI b) (nI d - 1) := by
  obtain ⟨c36, hn, hnm, hK, hk⟩ := hd
  intro d
  induction d with
  | zero =>
    intro _ b _ A B
    exact br_t (show nI 0 - 1 < 0 by decide) (B (by simp [gs_col]))
  | succ d ih =>
    intro hd b hb A B
    have dc : d < cnt := by omega
    obtain ⟨k1, k2, k3, k4⟩ := hk d dc
    have en36 : gs_en kd cnt d ≤ 36 := Nat.le_trans (gs_en_ok W dc).2.1 c36
    rw [nI_pred d]
    refine br_f (nI_pos (by omega)) ?_
    rw [nI_clamp (show d < 2 ^ 31 by omega), k1]
    have vin : vp_in (nI d) 36 := vp_in_nI (by omega) (by decide)
    have skip : ¬ (kd d = 3 ∧ i < gs_en kd cnt d) → wY_lamAround_7 post (nI i) y_parts y_count y_place y_where y_values y_variables y_waits y_at y_world y_steps y_blame y_result y_given y_ty y_part y_kind y_end y_state y_with y_runKind y_runEnd y_runWith y_sort y_one y_two y_from y_to y_label y_held y_around y_waiting y_operand y_outer y_kept (d + 1) (nI b) (nI d - 1) := by
      intro nz
      simp only [gs_col] at A B
      rw [if_neg nz] at A B
      exact ih (by omega) b hb A B
    refine And.intro vin (pk_eq (kd d) 3 (fun c3 => gy_endOfLam W c36 (fun q hq => ⟨(hk q hq).1, (hk q hq).2.1⟩) dc c3 (pk_lt i (gs_en kd cnt d) (fun lt => ?_) (fun le => nm_r (gx_am1 d) (skip (by omega))))) (fun c3 => nm_r (gx_am1 d) (skip (by omega))))
    simp only [gs_col] at A B
    rw [if_pos ⟨c3, lt⟩] at A B
    obtain ⟨n, n10, en⟩ := k4 (Or.inr (Or.inl c3))
    have ecl : (vl d).toNatClampNeg = n := by rw [en]; exact nI_clamp (by omega)
    refine nm_e (pk_eq b 0 (fun z => ?_) (fun z => ?_))
    · rw [k3, en]
      subst z
      exact And.intro vin (A n (by simp only [List.getElem?_cons_zero]; rw [ecl]) n10)
    · obtain ⟨b', rfl⟩ : ∃ k, b = k + 1 := ⟨b - 1, by omega⟩
      simp only [List.getElem?_cons_succ] at A B
      rw [pk_m1 b']
      exact nm_r (gx_am1 d) (ih (by omega) b' (by omega) A B)
theorem gy_compound {post : Int32 → SY → Prop} {h a b t : Nat} {A B : Lean.RArray Nat} (hh : h = 3 ∨ h = 4) (tA : gd_TY A) (tB : gd_TY B) (sA : gd_Sp y_ty A a) (sB : gd_Sp y_ty B b) (ha : a + 7 ≤ 700) (hb : b + 7 ≤ 700) (la : t + 8 ≤ a) (lb : t + 8 ≤ b)
    (P : 1 + gd_sz A + gd_sz B ≤ 7 → ∀ r, gd_Sp r (.branch h A B) t → (∀ q, (q < t ∨ t + 8 ≤ q) → r q = y_ty q) → post 0 (y_parts, y_count, y_place, y_where, y_values, y_variables, y_waits, y_at, y_world, y_steps, y_blame, y_result, y_given, r, y_part, y_kind, y_end, y_state, y_with, y_runKind, y_runEnd, y_runWith, y_sort, y_one, y_two, y_from, y_to, y_label, y_held, y_around, y_waiting, y_operand, y_outer, y_kept)) (Q : ¬ 1 + gd_sz A + gd_sz B ≤ 7 → post 3 (y_parts, y_count, y_place, y_where, y_values, y_variables, y_waits, y_at, y_world, y_steps, y_blame, y_result, y_given, y_ty, y_part, y_kind, y_end, y_state, y_with, y_runKind, y_runEnd, y_runWith, y_sort, y_one, y_two, y_from, y_to, y_label, y_held, y_around, y_waiting, y_operand, y_outer, y_kept)) : wpY_compound post (y_parts, y_count, y_place, y_where, y_values, y_variables, y_waits, y_at, y_world, y_steps, y_blame, y_result, y_given, y_ty, y_part, y_kind, y_end, y_state, y_with, y_runKind, y_runEnd, y_runWith, y_sort, y_one, y_two, y_from, y_to, y_label, y_held, y_around, y_waiting, y_operand, y_outer, y_kept) (nI h) (nI a) (nI b) (nI t) := by
  have zA := tA.2
  have zB := tB.2
  have pA := gd_sz_pos A
  have pB := gd_sz_pos B
  have h8 := gd_h8 hh
  unfold wpY_compound
  refine gy_behind tA sA (by omega) ?_
  refine gy_behind tB sB (by omega) ?_
  have e1 : (1 : Int32) + nI (a + gd_sz A) - nI a + nI (b + gd_sz B) - nI b = nI (1 + gd_sz A + gd_sz B) := by
    rw [show (1 : Int32) + nI (a + gd_sz A) = nI (1 + (a + gd_sz A)) from nI_add 1 _, pk_sub (by omega), nI_add, pk_sub (by omega)]
    exact congrArg nI (by omega)
  refine nm_r e1 (pk_le (1 + gd_sz A + gd_sz B) 7 (fun z => ?_) (fun z => Q (by omega)))
  rw [nI_clamp (show t < 2 ^ 31 by omega), gy_nb h (by omega), nI_1]
  refine And.intro (vp_in_nI (by omega) (by decide)) (nm_e ?_)
  have sA1 : gd_Sp (upd y_ty t (nI h)) A a := gd_sp_same sA (fun k hk => pk_un (by omega))
  refine gy_cp (y_ty := upd y_ty t (nI h)) tA sA1 ha (by omega) (by omega) ?_
  intro r1 s1 o1
  have sB1 : gd_Sp r1 B b := gd_sp_same sB (fun k hk => by rw [o1 _ (by omega), pk_un (by omega)])
  refine gy_cp (y_ty := r1) tB sB1 hb (by omega) (by omega) ?_
  intro r2 s2 o2
  refine P z r2 ⟨?_, ?_, ?_⟩ ?_
  · rw [o2 t (by omega), o1 t (by omega)]
    exact pk_us
  · exact gd_sp_same s1 (fun k hk => o2 _ (by omega))
  · exact s2
  · intro q hq
    rw [o2 q (by omega), o1 q (by omega), pk_un (by omega)]
end
end
section
/-! ===== 36: the reference's check: the type of a token ===== -/
section
variable {y_parts y_count y_place y_where y_values y_variables y_waits y_at y_world y_steps y_blame y_result y_given : Int32} {y_ty y_part y_kind y_end y_state y_with y_runKind y_runEnd y_runWith y_sort y_one y_two y_from y_to y_label y_held y_around y_waiting y_operand y_outer y_kept : Nat → Int32}
variable {kd : Nat → Nat} {vl : Nat → Int32} {nm : Nat → Lean.RArray Nat} {cnt : Nat}
theorem gy_typed {post : Int32 → SY → Prop} {i : Nat} (W : gs_WF kd cnt) (hd : gy_DR kd vl nm cnt y_ty y_kind y_with) (hi : i < cnt) (he : ∀ j, i < j → j < cnt → y_end j = nI (gs_en kd cnt j)) (ok : ∀ m, m < gs_ar (kd i) → (gs_R kd vl nm cnt (gs_op (gs_en kd cnt) i m)).1 = 0) (hsp : ∀ j, i < j → j < cnt → (gs_R kd vl nm cnt j).1 = 0 → gd_Sp y_ty (gs_R kd vl nm cnt j).2 (8 * j))
    (K : ∀ r, (∀ q, (q < 8 * i ∨ 8 * i + 8 ≤ q) → r q = y_ty q) → ((gs_R kd vl nm cnt i).1 = 0 → gd_Sp r (gs_R kd vl nm cnt i).2 (8 * i)) → post (nI (gs_R kd vl nm cnt i).1) (y_parts, y_count, y_place, y_where, y_values, y_variables, y_waits, y_at, y_world, y_steps, y_blame, y_result, y_given, r, y_part, y_kind, y_end, y_state, y_with, y_runKind, y_runEnd, y_runWith, y_sort, y_one, y_two, y_from, y_to, y_label, y_held, y_around, y_waiting, y_operand, y_outer, y_kept)) : wpY_typed post (y_parts, y_count, y_place, y_where, y_values, y_variables, y_waits, y_at, y_world, y_steps, y_blame, y_result, y_given, y_ty, y_part, y_kind, y_end, y_state, y_with, y_runKind, y_runEnd, y_runWith, y_sort, y_one, y_two, y_from, y_to, y_label, y_held, y_around, y_waiting, y_operand, y_outer, y_kept) (nI i) := by
  have hd0 := hd
  obtain ⟨c36, hn, hnm, hK, hk'⟩ := hd
  obtain ⟨k1, k2, k3, k4⟩ := hk' i hi
  have vin : vp_in (nI i) 36 := vp_in_nI (by omega) (by decide)
  have rho := gs_pr_rho (vl := vl) (nm := nm) W hi ok
  have a3 := gs_ar3 (kd i)
  have T := fun k => gs_t_TY (vl := vl) (nm := nm) W hn hi k
  have S : ∀ k, k < gs_ar (kd i) → gd_Sp y_ty (gs_t kd vl nm cnt i k) (8 * gs_op (gs_en kd cnt) i k) ∧ i < gs_op (gs_en kd cnt) i k ∧ gs_op (gs_en kd cnt) i k < cnt := by
    intro k hk
    have ol := gs_op_lt W hi hk
    rw [gs_t_k hk]
    exact ⟨hsp _ ol.1 ol.2 (ok k hk), ol⟩
  rw [rho] at K
  generalize ht0 : gs_t kd vl nm cnt i 0 = t0 at *
  generalize ht1 : gs_t kd vl nm cnt i 1 = t1 at *
  generalize ht2 : gs_t kd vl nm cnt i 2 = t2 at *
  have T0 : gd_TY t0 := ht0 ▸ T 0
  have T1 : gd_TY t1 := ht1 ▸ T 1
  have T2 : gd_TY t2 := ht2 ▸ T 2
  have S0 : 0 < gs_ar (kd i) → gd_Sp y_ty t0 (8 * (i + 1)) ∧ i + 1 < cnt := fun h => by
    have s := S 0 h
    rw [ht0] at s
    exact ⟨s.1, s.2.2⟩
  have S1 : 1 < gs_ar (kd i) → gd_Sp y_ty t1 (8 * gs_op (gs_en kd cnt) i 1) ∧ i < gs_op (gs_en kd cnt) i 1 ∧ gs_op (gs_en kd cnt) i 1 < cnt := fun h => ht1 ▸ S 1 h
  have S2 : 2 < gs_ar (kd i) → gd_Sp y_ty t2 (8 * gs_op (gs_en kd cnt) i 2) ∧ i < gs_op (gs_en kd cnt) i 2 ∧ gs_op (gs_en kd cnt) i 2 < cnt := fun h => ht2 ▸ S 2 h
  have keep : ∀ r : Nat → Int32, (∀ q, (q < 8 * i ∨ 8 * i + 7 ≤ q) → r q = y_ty q) → (∀ q, (q < 8 * i ∨ 8 * i + 8 ≤ q) → r q = y_ty q) := fun r h q hq => h q (by omega)
  have e2 : (8 : Int32) * (nI i + 1) = nI (8 * (i + 1)) := by rw [nI_1]; exact pk_mul 8 _
  have e3 : (8 : Int32) * nI i = nI (8 * i) := pk_mul 8 _
  have v8 : vp_in (nI (8 * i)) 700 := vp_in_nI (by omega) (by decide)
  have vval : kd i = 3 ∨ kd i = 11 → ∃ n, n < 10 ∧ vl i = nI n ∧ (vl i).toNatClampNeg = n := by
    intro c
    obtain ⟨n, a, b⟩ := k4 (by omega)
    exact ⟨n, a, b, by rw [b]; exact nI_clamp (by omega)⟩
  have enm : ∀ n, n < 10 → (288 : Int32) + 8 * nI n = nI (288 + 8 * n) := by
    intro n _
    rw [show (8 : Int32) * nI n = nI (8 * n) from pk_mul 8 _]
    exact nI_add 288 _
  /- a one-token type -/
  have one : ∀ (x : Nat) (R : SY → Prop), x < 3 → (∀ r, (∀ q, (q < 8 * i ∨ 8 * i + 8 ≤ q) → r q = y_ty q) → gd_Sp r (.leaf x) (8 * i) → R (y_parts, y_count, y_place, y_where, y_values, y_variables, y_waits, y_at, y_world, y_steps, y_blame, y_result, y_given, r, y_part, y_kind, y_end, y_state, y_with, y_runKind, y_runEnd, y_runWith, y_sort, y_one, y_two, y_from, y_to, y_label, y_held, y_around, y_waiting, y_operand, y_outer, y_kept)) → R (y_parts, y_count, y_place, y_where, y_values, y_variables, y_waits, y_at, y_world, y_steps, y_blame, y_result, y_given, upd y_ty (8 * i) (nI x), y_part, y_kind, y_end, y_state, y_with, y_runKind, y_runEnd, y_runWith, y_sort, y_one, y_two, y_from, y_to, y_label, y_held, y_around, y_waiting, y_operand, y_outer, y_kept) := by
    intro x R _ h
    exact h _ (fun q hq => pk_un (by omega)) pk_us
  have main : ∀ b : Nat, (1 < gs_ar (kd i) → b = gs_op (gs_en kd cnt) i 1) → wY_typed_38 post (nI i) (nI (8 * (i + 1))) (nI (8 * i)) (nI (8 * b)) y_parts y_count y_place y_where y_values y_variables y_waits y_at y_world y_steps y_blame y_result y_given y_ty y_part y_kind y_end y_state y_with y_runKind y_runEnd y_runWith y_sort y_one y_two y_from y_to y_label y_held y_around y_waiting y_operand y_outer y_kept := by
    intro b hb
    show vp_in (nI i) 36 ∧ _
    rw [nI_clamp (show i < 2 ^ 31 by omega), k1]
    refine And.intro vin (nm_e ?_)
    /- FIRST and SECOND -/
    have fs : kd i = 9 ∨ kd i = 10 → wY_typed_343 post (nI i) (nI (8 * (i + 1))) (nI (8 * i)) y_parts y_count y_place y_where y_values y_variables y_waits y_at y_world y_steps y_blame y_result y_given y_ty y_part y_kind y_end y_state y_with y_runKind y_runEnd y_runWith y_sort y_one y_two y_from y_to y_label y_held y_around y_waiting y_operand y_outer y_kept := by
      intro c
      obtain ⟨s0, i1⟩ := S0 (by rcases c with c | c <;> rw [c] <;> decide)
      have lt0 := gd_hd_lt T0.1
      have v0 : vp_in (nI (8 * (i + 1))) 700 := vp_in_nI (by omega) (by decide)
      have h0 : y_ty (nI (8 * (i + 1))).toNatClampNeg = nI (gd_hd t0) := by rw [nI_clamp (show 8 * (i + 1) < 2 ^ 31 by omega)]; exact gd_sp_hd s0
      rw [gs_typ9 c] at K
      have cp : ∀ (t : Lean.RArray Nat) (o : Nat), gd_TY t → gd_Sp y_ty t o → 8 * i + 8 ≤ o → o + 7 ≤ 700 → gs_typ nm (kd i) (vl i).toNatClampNeg (gs_col kd (fun j => (vl j).toNatClampNeg) (gs_en kd cnt) i i) t0 t1 t2 = (0, t) → wY_typed_403 post (nI (8 * i)) (nI o) y_parts y_count y_place y_where y_values y_variables y_waits y_at y_world y_steps y_blame y_result y_given y_ty y_part y_kind y_end y_state y_with y_runKind y_runEnd y_runWith y_sort y_one y_two y_from y_to y_label y_held y_around y_waiting y_operand y_outer y_kept := by
        intro t o tt so ho ho7 e
        rw [gs_typ9 c] at e
        rw [e] at K
        have z := tt.2
        exact gy_cp tt so ho7 (by omega) (by omega) (fun r sr or' => K r (fun q hq => or' q (by omega)) (fun _ => sr))
      unfold wY_typed_343
      rw [h0]
      have z0 := T0.2
      refine And.intro v0 (pk_eq (gd_hd t0) 2 (fun z => ?_) (fun z => And.intro v0 (pk_eq (gd_hd t0) 4 (fun z4 => ?_) (fun z4 => ?_))))
      · unfold wY_typed_365
        rw [h0]
        refine And.intro v0 (pk_eq (gd_hd t0) 2 (fun _ => ?_) (fun y => absurd z y))
        have et : t0 = .leaf 2 := by rw [gm_leaf_of T0.1 (by omega), z]
        exact cp t0 _ T0 s0 (by omega) (by omega) (by rw [gs_typ9 c, if_pos z, et])
      · unfold wY_typed_365
        rw [h0]
        refine And.intro v0 (pk_eq (gd_hd t0) 2 (fun y => absurd y z) (fun _ => ?_))
        have eb := gs_hd4 T0.1 z4
        have tb : gd_TY (.branch 4 (gd_lf t0) (gd_rt t0)) := eb ▸ T0
        have sb : gd_Sp y_ty (.branch 4 (gd_lf t0) (gd_rt t0)) (8 * (i + 1)) := eb ▸ s0
        have zb := tb.2
        simp only [gd_sz] at zb
        have zr := gd_sz_pos (gd_rt t0)
        rw [nI_clamp (show i < 2 ^ 31 by omega), k1, nI_1]
        refine And.intro vin (pk_eq (kd i) 9 (fun c9 => ?_) (fun c9 => ?_))
        · exact cp (gd_lf t0) _ (gd_TY_l tb) sb.2.1 (by omega) (by omega) (by rw [gs_typ9 c, if_neg z, if_pos z4, if_pos c9])
        · refine gy_behind (gd_TY_l tb) sb.2.1 (by omega) ?_
          exact cp (gd_rt t0) _ (gd_TY_r tb) sb.2.2 (by omega) (by omega) (by rw [gs_typ9 c, if_neg z, if_pos z4, if_neg c9])
      · rw [if_neg z, if_neg z4] at K
        exact K y_ty (fun q _ => rfl) (fun z => absurd (show (2 : Nat) = 0 from z) (by decide))
    /- ADD and LESS -/
    have al : ∀ x, (kd i = 6 ∧ x = 0) ∨ (kd i = 7 ∧ x = 1) → wY_typed_278 post (nI (8 * (i + 1))) (nI (8 * b)) (nI x) (nI (8 * i)) y_parts y_count y_place y_where y_values y_variables y_waits y_at y_world y_steps y_blame y_result y_given y_ty y_part y_kind y_end y_state y_with y_runKind y_runEnd y_runWith y_sort y_one y_two y_from y_to y_label y_held y_around y_waiting y_operand y_outer y_kept := by
      intro x c
      have ar2 : gs_ar (kd i) = 2 := by rcases c with c | c <;> rw [c.1] <;> rfl
      obtain ⟨s0, i1⟩ := S0 (by omega)
      obtain ⟨s1, i2, i3⟩ := S1 (by omega)
      have eb := hb (by omega)
      subst eb
      have et : gs_typ nm (kd i) (vl i).toNatClampNeg (gs_col kd (fun j => (vl j).toNatClampNeg) (gs_en kd cnt) i i) t0 t1 t2 = (if gd_cb t0 (.leaf 0) = true ∧ gd_cb t1 (.leaf 0) = true then 0 else 2, .leaf x) := by
        rcases c with c | c
        · rw [c.1, c.2]; rfl
        · rw [c.1, c.2]; rfl
      rw [et] at K
      have x3 : x < 3 := by omega
      unfold wY_typed_278
      rw [nI_clamp (show 8 * i < 2 ^ 31 by omega), gy_nb x (by omega)]
      refine And.intro v8 (nm_e ?_)
      have oth : ∀ q, (q < 8 * i ∨ 8 * i + 8 ≤ q) → upd y_ty (8 * i) (nI x) q = y_ty q := fun q hq => pk_un (by omega)
      have z0 := T0.2
      have z1 := T1.2
      have s0' : gd_Sp (upd y_ty (8 * i) (nI x)) t0 (8 * (i + 1)) := gd_sp_same s0 (fun k hk => oth _ (by omega))
      have s1' : gd_Sp (upd y_ty (8 * i) (nI x)) t1 (8 * gs_op (gs_en kd cnt) i 1) := gd_sp_same s1 (fun k hk => oth _ (by omega))
      have sI : gd_Sp (upd y_ty (8 * i) (nI x)) (.leaf 0) 368 := gd_sp_same (gy_K_0 hK) (fun k hk => oth _ (by omega))
      have L0 := gs_TY0 0 (by decide)
      refine gy_consistent (y_ty := upd y_ty (8 * i) (nI x)) T0 L0 s0' sI (by omega) (by decide) (fun z => br_f (show ¬ (1 : Int32) = 0 by decide) (gy_consistent (y_ty := upd y_ty (8 * i) (nI x)) T1 L0 s1' sI (by omega) (by decide) (fun z' => br_f (show ¬ (1 : Int32) = 0 by decide) ?_) (fun z' => br_t rfl ?_))) (fun z => br_t rfl ?_)
      · rw [if_pos ⟨z, z'⟩] at K
        exact K _ oth (fun _ => pk_us)
      · rw [if_neg (fun y => by rw [z'] at y; exact absurd y.2 (by decide))] at K
        exact K _ oth (fun y => absurd (show (2 : Nat) = 0 from y) (by decide))
      · rw [if_neg (fun y => by rw [z] at y; exact absurd y.1 (by decide))] at K
        exact K _ oth (fun y => absurd (show (2 : Nat) = 0 from y) (by decide))
    rcases gs_k12 k2 with c | c | c | c | c | c | c | c | c | c | c | c
    · rw [c] at K ⊢
      refine br_f (by decide) (br_f (by decide) (br_t rfl ?_))
      rw [nI_clamp (show 8 * i < 2 ^ 31 by omega)]
      exact And.intro v8 (nm_e (K _ (fun q hq => pk_un (by omega)) (fun _ => pk_us)))
    · rw [c] at K ⊢
      refine br_f (by decide) (br_f (by decide) (br_f (by decide) (br_t rfl ?_)))
      rw [nI_clamp (show 8 * i < 2 ^ 31 by omega)]
      exact And.intro v8 (nm_e (K _ (fun q hq => pk_un (by omega)) (fun _ => pk_us)))
    · obtain ⟨n, n10', en⟩ := k4 (Or.inl c)
      have ecl : (vl i).toNatClampNeg = n := by rw [en]; exact nI_clamp (by omega)
      rw [c, ecl] at K
      rw [c]
      refine br_f (by decide) (br_f (by decide) (br_f (by decide) (br_f (by decide) (br_t rfl ?_))))
      rw [k3, en]
      refine And.intro vin (nm_e (Exists.intro (i + 1) (gy_la_l W hd0 hi i (Nat.le_refl _) n (by omega) ?_ ?_)))
      · intro n' e' n'10
        have tn := hn n'
        have zn := tn.2
        have sn := hnm n' n'10
        refine br_f (nI_pos (by omega)) ?_
        rw [enm n' n'10]
        refine gy_cp tn sn (by omega) (by omega) (by omega) (fun r sr or' => br_t (nI_pos' (by omega)) ?_)
        have kk := K r (fun q hq => or' q (by omega))
        change ((gs_var nm _).1 = 0 → gd_Sp r (gs_var nm _).2 (8 * i)) → post (nI (gs_var nm _).1) _ at kk
        rw [e'] at kk
        exact kk (fun _ => sr)
      · intro e'
        refine br_t (by decide) (br_f (by decide) ?_)
        have kk := K y_ty (fun q _ => rfl)
        change ((gs_var nm _).1 = 0 → gd_Sp y_ty (gs_var nm _).2 (8 * i)) → post (nI (gs_var nm _).1) _ at kk
        rw [e'] at kk
        exact kk (fun z => absurd (show (2 : Nat) = 0 from z) (by decide))
    · obtain ⟨n, n10', en, ecl⟩ := vval (Or.inl c)
      obtain ⟨s0, i1⟩ := S0 (by rw [c]; decide)
      have et : gs_typ nm (kd i) (vl i).toNatClampNeg (gs_col kd (fun j => (vl j).toNatClampNeg) (gs_en kd cnt) i i) t0 t1 t2 = gs_cmp 3 (nm n) t0 := by rw [c, ecl]; rfl
      rw [et] at K
      unfold gs_cmp at K
      rw [c]
      refine br_f (by decide) (br_f (by decide) (br_f (by decide) (br_f (by decide) (br_f (by decide) (br_t rfl ?_)))))
      rw [k3, en, enm n n10']
      refine And.intro vin (gy_compound (h := 3) (Or.inl rfl) (hn n) T0 (hnm n n10') s0 (by omega) (by omega) (by omega) (by omega) (fun z r sr or' => ?_) (fun z => ?_))
      · rw [if_pos z] at K
        exact K r or' (fun _ => sr)
      · rw [if_neg z] at K
        exact K y_ty (fun q _ => rfl) (fun y => absurd (show (3 : Nat) = 0 from y) (by decide))
    · obtain ⟨s0, i1⟩ := S0 (by rw [c]; decide)
      obtain ⟨s1, i2, i3⟩ := S1 (by rw [c]; decide)
      have eb := hb (by rw [c]; decide)
      subst eb
      have lt0 := gd_hd_lt T0.1
      have z0 := T0.2
      have z1 := T1.2
      have v0 : vp_in (nI (8 * (i + 1))) 700 := vp_in_nI (by omega) (by decide)
      have h0 : y_ty (nI (8 * (i + 1))).toNatClampNeg = nI (gd_hd t0) := by rw [nI_clamp (show 8 * (i + 1) < 2 ^ 31 by omega)]; exact gd_sp_hd s0
      have et : gs_typ nm (kd i) (vl i).toNatClampNeg (gs_col kd (fun j => (vl j).toNatClampNeg) (gs_en kd cnt) i i) t0 t1 t2 = (if gd_hd t0 = 2 then (0, .leaf 2) else if gd_hd t0 = 3 then (if gd_cb t1 (gd_lf t0) = true then 0 else 2, gd_rt t0) else (2, .leaf 0)) := by rw [c]; exact gs_typ4
      rw [et] at K
      rw [c]
      refine br_f (by decide) (br_f (by decide) (br_f (by decide) (br_f (by decide) (br_f (by decide) (br_f (by decide) (br_t rfl ?_))))))
      have ap43 : ∀ (t : Lean.RArray Nat) (o : Nat), gd_TY t → gd_Sp y_ty t o → 8 * i + 8 ≤ o → o + 7 ≤ 700 → (gd_hd t0 = 2 ∧ t = .leaf 2 ∨ gd_hd t0 = 3 ∧ t = gd_rt t0) → wY_applied_43 post (nI (8 * (i + 1))) (nI (8 * gs_op (gs_en kd cnt) i 1)) (nI (8 * i)) (nI o) y_parts y_count y_place y_where y_values y_variables y_waits y_at y_world y_steps y_blame y_result y_given y_ty y_part y_kind y_end y_state y_with y_runKind y_runEnd y_runWith y_sort y_one y_two y_from y_to y_label y_held y_around y_waiting y_operand y_outer y_kept := by
        intro t o tt so ho ho7 ht
        have zt := tt.2
        refine gy_cp tt so ho7 (by omega) (by omega) (fun r sr or' => ?_)
        have oth : ∀ q, (q < 8 * i ∨ 8 * i + 8 ≤ q) → r q = y_ty q := fun q hq => or' q (by omega)
        have s0' : gd_Sp r t0 (8 * (i + 1)) := gd_sp_same s0 (fun k hk => oth _ (by omega))
        have s1' : gd_Sp r t1 (8 * gs_op (gs_en kd cnt) i 1) := gd_sp_same s1 (fun k hk => oth _ (by omega))
        dsimp only
        rw [nI_clamp (show 8 * (i + 1) < 2 ^ 31 by omega), gd_sp_hd s0']
        refine And.intro v0 (pk_eq (gd_hd t0) 2 (fun z => ?_) (fun z => ?_))
        · rw [if_pos z] at K
          rcases ht with ht | ht
          · exact K r oth (fun _ => ht.2 ▸ sr)
          · omega
        · rw [if_neg z] at K
          rcases ht with ht | ht
          · exact absurd ht.1 z
          · rw [if_pos ht.1] at K
            have eb := gs_hd3 T0.1 ht.1
            have tb : gd_TY (.branch 3 (gd_lf t0) (gd_rt t0)) := eb ▸ T0
            have sb : gd_Sp r (.branch 3 (gd_lf t0) (gd_rt t0)) (8 * (i + 1)) := eb ▸ s0'
            rw [nI_1]
            refine gy_consistent (y_ty := r) T1 (gd_TY_l tb) s1' sb.2.1 (by omega) (by omega) (fun z' => br_f (show ¬ (1 : Int32) = 0 by decide) ?_) (fun z' => br_t rfl ?_)
            · rw [if_pos z'] at K
              exact K r oth (fun _ => ht.2 ▸ sr)
            · rw [if_neg (by rw [z']; decide)] at K
              exact K r oth (fun y => absurd (show (2 : Nat) = 0 from y) (by decide))
      have ap22 : gd_hd t0 = 2 ∨ gd_hd t0 = 3 → wY_applied_22 post (nI (8 * (i + 1))) (nI (8 * gs_op (gs_en kd cnt) i 1)) (nI (8 * i)) y_parts y_count y_place y_where y_values y_variables y_waits y_at y_world y_steps y_blame y_result y_given y_ty y_part y_kind y_end y_state y_with y_runKind y_runEnd y_runWith y_sort y_one y_two y_from y_to y_label y_held y_around y_waiting y_operand y_outer y_kept := by
        intro h23
        unfold wY_applied_22
        rw [h0]
        refine And.intro v0 (pk_eq (gd_hd t0) 2 (fun z => ?_) (fun z => ?_))
        · have e2' : t0 = .leaf 2 := by rw [gm_leaf_of T0.1 (by omega), z]
          exact ap43 t0 _ T0 s0 (by omega) (by omega) (Or.inl ⟨z, e2'⟩)
        · have h3 := h23.resolve_left z
          have eb := gs_hd3 T0.1 h3
          have tb : gd_TY (.branch 3 (gd_lf t0) (gd_rt t0)) := eb ▸ T0
          have sb : gd_Sp y_ty (.branch 3 (gd_lf t0) (gd_rt t0)) (8 * (i + 1)) := eb ▸ s0
          have zb := tb.2
          simp only [gd_sz] at zb
          have zr := gd_sz_pos (gd_rt t0)
          rw [nI_1]
          refine gy_behind (gd_TY_l tb) sb.2.1 (by omega) ?_
          exact ap43 (gd_rt t0) _ (gd_TY_r tb) sb.2.2 (by omega) (by omega) (Or.inr ⟨h3, rfl⟩)
      show vp_in (nI (8 * (i + 1))) 700 ∧ _
      rw [h0]
      refine And.intro v0 (pk_eq (gd_hd t0) 2 (fun z => ap22 (Or.inl z)) (fun z => And.intro v0 (pk_eq (gd_hd t0) 3 (fun z3 => ap22 (Or.inr z3)) (fun z3 => ?_))))
      rw [if_neg z, if_neg z3] at K
      exact K y_ty (fun q _ => rfl) (fun y => absurd (show (2 : Nat) = 0 from y) (by decide))
    · obtain ⟨s0, i1⟩ := S0 (by rw [c]; decide)
      obtain ⟨s1, i2, i3⟩ := S1 (by rw [c]; decide)
      obtain ⟨s2, i4, i5⟩ := S2 (by rw [c]; decide)
      have eb := hb (by rw [c]; decide)
      subst eb
      have z0 := T0.2
      have z1 := T1.2
      have z2 := T2.2
      have L1 := gs_TY0 1 (by decide)
      have et : gs_typ nm (kd i) (vl i).toNatClampNeg (gs_col kd (fun j => (vl j).toNatClampNeg) (gs_en kd cnt) i i) t0 t1 t2 = (if gd_cb t0 (.leaf 1) = true ∧ gd_cb t2 t1 = true then 0 else 2, t1) := by rw [c]; rfl
      rw [et] at K
      have c5 := c
      rw [c]
      refine br_f (by decide) (br_f (by decide) (br_f (by decide) (br_f (by decide) (br_f (by decide) (br_f (by decide) (br_f (by decide) (br_t rfl (gy_opd (K := 2) W c36 hi (by rw [c5]; decide) he (nm_r (pk_mul 8 _) ?_)))))))))
      refine gy_cp T1 s1 (by omega) (by omega) (by omega) (fun r sr or' => ?_)
      have oth : ∀ q, (q < 8 * i ∨ 8 * i + 8 ≤ q) → r q = y_ty q := fun q hq => or' q (by omega)
      have s0' : gd_Sp r t0 (8 * (i + 1)) := gd_sp_same s0 (fun k hk => oth _ (by omega))
      have s1' : gd_Sp r t1 (8 * gs_op (gs_en kd cnt) i 1) := gd_sp_same s1 (fun k hk => oth _ (by omega))
      have s2' : gd_Sp r t2 (8 * gs_op (gs_en kd cnt) i 2) := gd_sp_same s2 (fun k hk => oth _ (by omega))
      have sB : gd_Sp r (.leaf 1) 369 := gd_sp_same (gy_K_1 hK) (fun k hk => oth _ (by omega))
      refine gy_consistent (y_ty := r) T0 L1 s0' sB (by omega) (by decide) (fun z => br_f (show ¬ (1 : Int32) = 0 by decide) (gy_consistent (y_ty := r) T2 T1 s2' s1' (by omega) (by omega) (fun z' => br_f (show ¬ (1 : Int32) = 0 by decide) ?_) (fun z' => br_t rfl ?_))) (fun z => br_t rfl ?_)
      · rw [if_pos ⟨z, z'⟩] at K
        exact K r oth (fun _ => sr)
      · rw [if_neg (fun y => by rw [z'] at y; exact absurd y.2 (by decide))] at K
        exact K r oth (fun y => absurd (show (2 : Nat) = 0 from y) (by decide))
      · rw [if_neg (fun y => by rw [z] at y; exact absurd y.1 (by decide))] at K
        exact K r oth (fun y => absurd (show (2 : Nat) = 0 from y) (by decide))
    · have a := al 0 (Or.inl ⟨c, rfl⟩)
      rw [c]
      refine br_f (by decide) (br_f (by decide) (br_f (by decide) (br_f (by decide) (br_f (by decide) (br_f (by decide) (br_f (by decide) (br_f (by decide) (br_t rfl ?_))))))))
      show vp_in (nI i) 36 ∧ _
      rw [nI_clamp (show i < 2 ^ 31 by omega), k1, c]
      exact And.intro vin (br_t rfl a)
    · have a := al 1 (Or.inr ⟨c, rfl⟩)
      rw [c]
      refine br_f (by decide) (br_f (by decide) (br_f (by decide) (br_f (by decide) (br_f (by decide) (br_f (by decide) (br_f (by decide) (br_f (by decide) (br_f (by decide) (br_t rfl ?_)))))))))
      show vp_in (nI i) 36 ∧ _
      rw [nI_clamp (show i < 2 ^ 31 by omega), k1, c]
      exact And.intro vin (br_f (by decide) a)
    · obtain ⟨s0, i1⟩ := S0 (by rw [c]; decide)
      obtain ⟨s1, i2, i3⟩ := S1 (by rw [c]; decide)
      have eb := hb (by rw [c]; decide)
      subst eb
      have et : gs_typ nm (kd i) (vl i).toNatClampNeg (gs_col kd (fun j => (vl j).toNatClampNeg) (gs_en kd cnt) i i) t0 t1 t2 = gs_cmp 4 t0 t1 := by rw [c]; rfl
      rw [et] at K
      unfold gs_cmp at K
      rw [c]
      refine br_f (by decide) (br_f (by decide) (br_f (by decide) (br_f (by decide) (br_f (by decide) (br_f (by decide) (br_f (by decide) (br_f (by decide) (br_f (by decide) (br_f (by decide) (br_t rfl ?_))))))))))
      refine gy_compound (h := 4) (Or.inr rfl) T0 T1 s0 s1 (by omega) (by omega) (by omega) (by omega) (fun z r sr or' => ?_) (fun z => ?_)
      · rw [if_pos z] at K
        exact K r or' (fun _ => sr)
      · rw [if_neg z] at K
        exact K y_ty (fun q _ => rfl) (fun y => absurd (show (3 : Nat) = 0 from y) (by decide))
    · have a := fs (Or.inl c)
      rw [c]
      exact br_f (by decide) (br_f (by decide) (br_f (by decide) (br_f (by decide) (br_f (by decide) (br_f (by decide) (br_f (by decide) (br_f (by decide) (br_f (by decide) (br_f (by decide) (br_f (by decide) (br_t rfl a)))))))))))
    · have a := fs (Or.inr c)
      rw [c]
      exact br_f (by decide) (br_f (by decide) (br_f (by decide) (br_f (by decide) (br_f (by decide) (br_f (by decide) (br_f (by decide) (br_f (by decide) (br_f (by decide) (br_f (by decide) (br_f (by decide) (br_f (by decide) (br_t rfl a))))))))))))
    · obtain ⟨n, n10', en, ecl⟩ := vval (Or.inr c)
      obtain ⟨s0, i1⟩ := S0 (by rw [c]; decide)
      have tn := hn n
      have zn := tn.2
      have z0 := T0.2
      have sn := hnm n n10'
      have et : gs_typ nm (kd i) (vl i).toNatClampNeg (gs_col kd (fun j => (vl j).toNatClampNeg) (gs_en kd cnt) i i) t0 t1 t2 = (if gd_cb t0 (nm n) = true then 0 else 2, nm n) := by rw [c, ecl]; rfl
      rw [et] at K
      rw [c]
      refine br_f (by decide) (br_f (by decide) (br_f (by decide) (br_f (by decide) (br_f (by decide) (br_f (by decide) (br_f (by decide) (br_f (by decide) (br_f (by decide) (br_f (by decide) (br_f (by decide) (br_f (by decide) (br_f (by decide) (br_t rfl ?_)))))))))))))
      rw [k3, en, enm n n10']
      refine And.intro vin (gy_cp tn sn (by omega) (by omega) (by omega) (fun r sr or' => ?_))
      have oth : ∀ q, (q < 8 * i ∨ 8 * i + 8 ≤ q) → r q = y_ty q := fun q hq => or' q (by omega)
      have s0' : gd_Sp r t0 (8 * (i + 1)) := gd_sp_same s0 (fun k hk => oth _ (by omega))
      refine gy_consistent (y_ty := r) T0 tn s0' sr (by omega) (by omega) (fun z => br_f (show ¬ (1 : Int32) = 0 by decide) ?_) (fun z => br_t rfl ?_)
      · rw [if_pos z] at K
        exact K r oth (fun _ => sr)
      · rw [if_neg (by rw [z]; decide)] at K
        exact K r oth (fun y => absurd (show (2 : Nat) = 0 from y) (by decide))
  refine nm_r e2 (nm_r e3 ?_)
  rw [nI_clamp (show i < 2 ^ 31 by omega), k1]
  refine And.intro vin (gy_ops k2 (pk_le (gs_ar (kd i)) 1 (fun z => main 0 (fun y => absurd y (by omega))) (fun z => gy_opd (K := 1) W c36 hi z he ?_)))
  rw [show (8 : Int32) * nI (gs_op (gs_en kd cnt) i 1) = nI (8 * gs_op (gs_en kd cnt) i 1) from pk_mul 8 _]
  exact main _ (fun _ => rfl)
end
end
section
/-! ===== 37: the reference's check ===== -/
theorem gs_WF_FA {kd : Nat → Nat} {cnt i : Nat} (W : gs_WF kd cnt) (F : gs_FA kd cnt i) : False := by
  rcases F.2 with c | c
  · have := W.1 i c.1; omega
  · have := W.2; omega
theorem gy_DR_r {kd : Nat → Nat} {vl : Nat → Int32} {nm : Nat → Lean.RArray Nat} {cnt : Nat} {ty r kind wit : Nat → Int32} (hd : gy_DR kd vl nm cnt ty kind wit) (h : ∀ q, 288 ≤ q → r q = ty q) : gy_DR kd vl nm cnt r kind wit := by
  obtain ⟨c36, hn, hnm, hK, hk⟩ := hd
  refine ⟨c36, hn, fun n hn' => gd_sp_same (hnm n hn') (fun k _ => h _ (by omega)), ?_, hk⟩
  obtain ⟨a, b, c, d, e, f, g, i, j⟩ := hK
  exact ⟨(h _ (by decide)).trans a, (h _ (by decide)).trans b, (h _ (by decide)).trans c, (h _ (by decide)).trans d, (h _ (by decide)).trans e, (h _ (by decide)).trans f, (h _ (by decide)).trans g, (h _ (by decide)).trans i, (h _ (by decide)).trans j⟩
theorem gy_cd_pos {c : Nat} (h : c < 5) : 0 < gy_cd c ↔ c ≠ 0 ∧ c ≠ 4 := by
  unfold gy_cd
  by_cases e : c = 4
  · rw [if_pos e]
    exact ⟨fun z => absurd z (by decide), fun z => absurd e z.2⟩
  · rw [if_neg e]
    have := nI_ltI (a := 0) (b := c) (by decide) (by omega)
    rw [nI_0] at this
    rw [this]
    omega
section
variable {y_parts y_count y_place y_where y_values y_variables y_waits y_at y_world y_steps y_blame y_result y_given : Int32} {y_ty y_part y_kind y_end y_state y_with y_runKind y_runEnd y_runWith y_sort y_one y_two y_from y_to y_label y_held y_around y_waiting y_operand y_outer y_kept : Nat → Int32}
variable {kd : Nat → Nat} {vl : Nat → Int32} {nm : Nat → Lean.RArray Nat} {cnt : Nat}
theorem gy_ex123 {post : Int32 → SY → Prop} (W : gs_WF kd cnt) (c36 : cnt ≤ 36) (hs : ∀ j, j < cnt → y_state j = gy_cd (gs_R kd vl nm cnt j).1)
    (B : ∀ i, i < cnt → (gs_R kd vl nm cnt i).1 ≠ 0 → (gs_R kd vl nm cnt i).1 ≠ 4 → (∀ j, j < i → (gs_R kd vl nm cnt j).1 = 0 ∨ (gs_R kd vl nm cnt j).1 = 4) → post (nI (gs_R kd vl nm cnt i).1) (y_parts, y_count, y_place, nI i, y_values, y_variables, y_waits, y_at, y_world, y_steps, y_blame, y_result, y_given, y_ty, y_part, y_kind, y_end, y_state, y_with, y_runKind, y_runEnd, y_runWith, y_sort, y_one, y_two, y_from, y_to, y_label, y_held, y_around, y_waiting, y_operand, y_outer, y_kept))
    (C : (∀ j, j < cnt → (gs_R kd vl nm cnt j).1 = 0 ∨ (gs_R kd vl nm cnt j).1 = 4) → ∀ w, post 0 (y_parts, y_count, y_place, w, y_values, y_variables, y_waits, y_at, y_world, y_steps, y_blame, y_result, y_given, y_ty, y_part, y_kind, y_end, y_state, y_with, y_runKind, y_runEnd, y_runWith, y_sort, y_one, y_two, y_from, y_to, y_label, y_held, y_around, y_waiting, y_operand, y_outer, y_kept)) :
    ∀ d, d ≤ cnt → ∀ x2 wh : Int32, (x2 = 0 ∧ (∀ j, d ≤ j → j < cnt → (gs_R kd vl nm cnt j).1 = 0 ∨ (gs_R kd vl nm cnt j).1 = 4) ∨ ∃ j, d ≤ j ∧ j < cnt ∧ (gs_R kd vl nm cnt j).1 ≠ 0 ∧ (gs_R kd vl nm cnt j).1 ≠ 4 ∧ x2 = nI (gs_R kd vl nm cnt j).1 ∧ wh = nI j ∧ ∀ q, d ≤ q → q < j → (gs_R kd vl nm cnt q).1 = 0 ∨ (gs_R kd vl nm cnt q).1 = 4) →
      wY_examine_123 post y_parts y_count y_place y_values y_variables y_waits y_at y_world y_steps y_blame y_result y_given y_ty y_part y_kind y_end y_state y_with y_runKind y_runEnd y_runWith y_sort y_one y_two y_from y_to y_label y_held y_around y_waiting y_operand y_outer y_kept (d + 1) x2 (nI d - 1) wh := by
  intro d
  induction d with
  | zero =>
    intro _ x2 wh h
    refine br_t (show nI 0 - 1 < 0 by decide) ?_
    rcases h with ⟨e, h⟩ | ⟨j, h1, h2, h3, h4, e, ew, h5⟩
    · rw [e]; exact C (fun j hj => h j (Nat.zero_le _) hj) wh
    · rw [e, ew]; exact B j h2 h3 h4 (fun q hq => h5 q (Nat.zero_le _) hq)
  | succ d ih =>
    intro hd x2 wh h
    have dc : d < cnt := by omega
    have cl := gs_code_lt (vl := vl) (nm := nm) W dc
    rw [nI_pred d]
    refine br_f (nI_pos (by omega)) ?_
    rw [nI_clamp (show d < 2 ^ 31 by omega), hs d dc]
    have vin : vp_in (nI d) 36 := vp_in_nI (by omega) (by decide)
    refine And.intro vin (br_c (fun z => And.intro vin ?_) (fun z => ?_))
    · have c := (gy_cd_pos cl).mp z
      have ec : gy_cd (gs_R kd vl nm cnt d).1 = nI (gs_R kd vl nm cnt d).1 := by unfold gy_cd; rw [if_neg c.2]
      refine nm_r ec (nm_r (gx_am1 d) (ih (by omega) _ _ (Or.inr ⟨d, Nat.le_refl _, dc, c.1, c.2, rfl, rfl, fun q h1 h2 => by omega⟩)))
    · have c : (gs_R kd vl nm cnt d).1 = 0 ∨ (gs_R kd vl nm cnt d).1 = 4 := by
        by_cases a : (gs_R kd vl nm cnt d).1 = 0
        · exact Or.inl a
        · by_cases b : (gs_R kd vl nm cnt d).1 = 4
          · exact Or.inr b
          · exact absurd ((gy_cd_pos cl).mpr ⟨a, b⟩) z
      refine nm_r (gx_am1 d) (ih (by omega) x2 wh ?_)
      rcases h with ⟨e, h⟩ | ⟨j, h1, h2, h3, h4, e, ew, h5⟩
      · left
        refine ⟨e, fun j h1 h2 => ?_⟩
        by_cases q : j = d
        · rw [q]; exact c
        · exact h j (by omega) h2
      · right
        refine ⟨j, by omega, h2, h3, h4, e, ew, fun q h6 h7 => ?_⟩
        by_cases r : q = d
        · rw [r]; exact c
        · exact h5 q (by omega) h7
theorem gy_ex66 {post : Int32 → SY → Prop} (W : gs_WF kd cnt) (hd : gy_DR kd vl nm cnt y_ty y_kind y_with)
    (B : ∀ i e st r, i < cnt → (gs_R kd vl nm cnt i).1 ≠ 0 → (gs_R kd vl nm cnt i).1 ≠ 4 → (∀ j, j < i → (gs_R kd vl nm cnt j).1 = 0 ∨ (gs_R kd vl nm cnt j).1 = 4) → (∀ q, 288 ≤ q → r q = y_ty q) → post (nI (gs_R kd vl nm cnt i).1) (y_parts, nI cnt, y_place, nI i, y_values, y_variables, y_waits, y_at, y_world, y_steps, y_blame, y_result, y_given, r, y_part, y_kind, e, st, y_with, y_runKind, y_runEnd, y_runWith, y_sort, y_one, y_two, y_from, y_to, y_label, y_held, y_around, y_waiting, y_operand, y_outer, y_kept))
    (C : ∀ e st r w, (∀ j, j < cnt → (gs_R kd vl nm cnt j).1 = 0 ∨ (gs_R kd vl nm cnt j).1 = 4) → (∀ j, j < cnt → e j = nI (gs_en kd cnt j) ∧ ((gs_R kd vl nm cnt j).1 = 0 → gd_Sp r (gs_R kd vl nm cnt j).2 (8 * j))) → (∀ q, 288 ≤ q → r q = y_ty q) → post 0 (y_parts, nI cnt, y_place, w, y_values, y_variables, y_waits, y_at, y_world, y_steps, y_blame, y_result, y_given, r, y_part, y_kind, e, st, y_with, y_runKind, y_runEnd, y_runWith, y_sort, y_one, y_two, y_from, y_to, y_label, y_held, y_around, y_waiting, y_operand, y_outer, y_kept)) :
    ∀ d, d ≤ cnt → ∀ e st r, (∀ j, d ≤ j → j < cnt → e j = nI (gs_en kd cnt j) ∧ st j = gy_cd (gs_R kd vl nm cnt j).1 ∧ ((gs_R kd vl nm cnt j).1 = 0 → gd_Sp r (gs_R kd vl nm cnt j).2 (8 * j))) → (∀ q, 288 ≤ q → r q = y_ty q) → wY_examine_66 post 0 (d + 1) (nI d - 1) y_parts (nI cnt) y_place y_where y_values y_variables y_waits y_at y_world y_steps y_blame y_result y_given r y_part y_kind e st y_with y_runKind y_runEnd y_runWith y_sort y_one y_two y_from y_to y_label y_held y_around y_waiting y_operand y_outer y_kept := by
  have c36 := hd.1
  intro d
  induction d with
  | zero =>
    intro _ e st r h hr
    refine br_t (show nI 0 - 1 < 0 by decide) (nm_e (Exists.intro (cnt + 1) ?_))
    refine gy_ex123 (y_count := nI cnt) (y_end := e) (y_state := st) (y_ty := r) W c36 (fun j hj => (h j (Nat.zero_le _) hj).2.1) (fun i a1 a2 a3 a4 => B i e st r a1 a2 a3 a4 hr) (fun all w => C e st r w all (fun j hj => ⟨(h j (Nat.zero_le _) hj).1, (h j (Nat.zero_le _) hj).2.2⟩) hr) cnt (Nat.le_refl _) 0 y_where (Or.inl ⟨rfl, fun j h1 h2 => by omega⟩)
  | succ d ih =>
    intro hdc e st r h hr
    have dc : d < cnt := by omega
    have hd' := gy_DR_r hd hr
    obtain ⟨k1, k2, k3, k4⟩ := hd'.2.2.2.2 d dc
    have en36 : gs_en kd cnt d ≤ 36 := Nat.le_trans (gs_en_ok W dc).2.1 c36
    have vin : vp_in (nI d) 36 := vp_in_nI (by omega) (by decide)
    rw [nI_pred d]
    refine br_f (nI_pos (by omega)) (gy_endOf (y_end := e) W c36 k1 k2 dc (fun j h1 h2 => (h j (by omega) h2).1) ?_)
    rw [nI_clamp (show d < 2 ^ 31 by omega), gy_nb _ (show gs_en kd cnt d < 128 by omega)]
    refine And.intro vin (nm_e ?_)
    have he : ∀ j, d < j → j < cnt → upd e d (nI (gs_en kd cnt d)) j = nI (gs_en kd cnt j) := fun j h1 h2 => by rw [pk_un (by omega)]; exact (h j (by omega) h2).1
    have e99 : ∀ (c : Nat) (x : Int32) (r' : Nat → Int32), (gs_R kd vl nm cnt d).1 = c → vp_nar .byte x.toInt8.toInt32 = gy_cd c → (∀ q, (q < 8 * d ∨ 8 * d + 8 ≤ q) → r' q = r q) → (c = 0 → gd_Sp r' (gs_R kd vl nm cnt d).2 (8 * d)) → wY_examine_99 post (wY_examine_66 post 0 (d + 1)) 0 (nI d) x y_parts (nI cnt) y_place y_where y_values y_variables y_waits y_at y_world y_steps y_blame y_result y_given r' y_part y_kind (upd e d (nI (gs_en kd cnt d))) st y_with y_runKind y_runEnd y_runWith y_sort y_one y_two y_from y_to y_label y_held y_around y_waiting y_operand y_outer y_kept := by
      intro c x r' ec ex ho hs
      unfold wY_examine_99
      rw [nI_clamp (show d < 2 ^ 31 by omega), ex]
      refine And.intro vin (nm_e (nm_r (gx_am1 d) (ih (by omega) _ _ r' ?_ ?_)))
      · intro j h1 h2
        by_cases q : j = d
        · subst q
          refine ⟨pk_us, ?_, fun z => hs (ec.symm.trans z)⟩
          rw [pk_us, ec]
        · obtain ⟨g1, g2, g3⟩ := h j (by omega) h2
          refine ⟨he j (by omega) h2, by rw [pk_un q]; exact g2, fun z => gd_sp_same (g3 z) (fun k hk => ho _ (by omega))⟩
      · intro q hq
        rw [ho q (by omega)]
        exact hr q hq
    refine gy_sound (y_end := upd e d (nI (gs_en kd cnt d))) (y_state := st) (y_ty := r) (vl := vl) (nm := nm) W c36 k1 k2 dc he (fun j h1 h2 => (h j (by omega) h2).2.1) (fun ok => br_f (show ¬ (1 : Int32) = 0 by decide) ?_) (fun nok => br_t rfl ?_)
    · refine gy_typed (y_end := upd e d (nI (gs_en kd cnt d))) (y_ty := r) W hd' dc he ok (fun j h1 h2 => (h j (by omega) h2).2.2) ?_
      intro r' o1 o2
      have cl := gs_code_lt (vl := vl) (nm := nm) W dc
      have n4 : (gs_R kd vl nm cnt d).1 ≠ 4 := by
        intro z
        have rho := gs_pr_rho (vl := vl) (nm := nm) W dc ok
        by_cases p0 : (gs_pr kd vl nm cnt d).1 = 0
        · have po := gs_pre_ok (nm := nm) (v := (vl d).toNatClampNeg) (l := gs_col kd (fun j => (vl j).toNatClampNeg) (gs_en kd cnt) d d) (t1 := gs_t kd vl nm cnt d 1) (t2 := gs_t kd vl nm cnt d 2) k2 (gs_t_TY W hd.2.1 dc 0).1 p0
          rw [← rho] at po
          have := po.2 (by rw [z]; decide)
          omega
        · have c := gs_pre_bad (t2 := gs_t kd vl nm cnt d 2) k2 p0
          rw [← rho] at c
          have : (gs_pr kd vl nm cnt d).1 = 4 := c.symm.trans z
          exact gs_pre_n4 k2 this
      refine e99 _ _ r' rfl ?_ o1 o2
      rw [gy_nb _ (by omega)]
      unfold gy_cd
      rw [if_neg n4]
    · have c4 : (gs_R kd vl nm cnt d).1 = 4 := by
        by_cases z : (gs_R kd vl nm cnt d).1 = 4
        · exact z
        · exact absurd (gs_code4 W dc z).1 nok
      exact e99 4 (-1) r c4 (by decide) (fun q _ => rfl) (fun z => absurd z (by decide))
theorem gy_ex4 {post : Int32 → SY → Prop} (hd : gy_DR kd vl nm cnt y_ty y_kind y_with)
    (A : ∀ i, gs_FA kd cnt i → post 1 (y_parts, nI cnt, y_place, nI i, y_values, y_variables, y_waits, y_at, y_world, y_steps, y_blame, y_result, y_given, y_ty, y_part, y_kind, y_end, y_state, y_with, y_runKind, y_runEnd, y_runWith, y_sort, y_one, y_two, y_from, y_to, y_label, y_held, y_around, y_waiting, y_operand, y_outer, y_kept)) (N : gs_WF kd cnt → ∃ n, wY_examine_66 post 0 n (nI cnt - 1) y_parts (nI cnt) y_place (nI cnt) y_values y_variables y_waits y_at y_world y_steps y_blame y_result y_given y_ty y_part y_kind y_end y_state y_with y_runKind y_runEnd y_runWith y_sort y_one y_two y_from y_to y_label y_held y_around y_waiting y_operand y_outer y_kept) : ∀ d i, i + d = cnt → (∀ j, j < i → 0 < gs_D kd j) → ∀ wh, wY_examine_4 post y_parts (nI cnt) y_place y_values y_variables y_waits y_at y_world y_steps y_blame y_result y_given y_ty y_part y_kind y_end y_state y_with y_runKind y_runEnd y_runWith y_sort y_one y_two y_from y_to y_label y_held y_around y_waiting y_operand y_outer y_kept (d + 1) (nI (gs_D kd i)) (nI i) wh := by
  obtain ⟨c36, hn, hnm, hK, hk⟩ := hd
  intro d
  induction d with
  | zero =>
    intro i e h wh
    have e' : i = cnt := by omega
    subst e'
    have dl := gs_D_le kd i
    exact br_t (Int32.le_refl _) (pk_le (gs_D kd i) 0 (fun z => nm_e (N ⟨h, by omega⟩)) (fun z => A i ⟨h, Or.inr ⟨rfl, z⟩⟩))
  | succ d ih =>
    intro i e h wh
    have dl := gs_D_le kd i
    obtain ⟨k1, k2, k3, k4⟩ := hk i (by omega)
    refine br_f (nI_ge (by omega) (by omega)) (pk_eq (gs_D kd i) 0 (fun z => A i ⟨h, Or.inl ⟨by omega, z⟩⟩) (fun z => ?_))
    rw [nI_clamp (show i < 2 ^ 31 by omega), k1]
    refine And.intro (vp_in_nI (by omega) (by decide)) (gy_ops k2 (nm_r (gx_am (by omega)) (nm_r (nI_1 i) (ih (i + 1) (by omega) ?_ (nI i)))))
    intro j hj
    by_cases c : j = i
    · rw [c]; omega
    · exact h j (by omega)
theorem gy_examine {post : Int32 → SY → Prop} (hd : gy_DR kd vl nm cnt y_ty y_kind y_with)
    (A : ∀ i, gs_FA kd cnt i → post 1 (y_parts, nI cnt, y_place, nI i, y_values, y_variables, y_waits, y_at, y_world, y_steps, y_blame, y_result, y_given, y_ty, y_part, y_kind, y_end, y_state, y_with, y_runKind, y_runEnd, y_runWith, y_sort, y_one, y_two, y_from, y_to, y_label, y_held, y_around, y_waiting, y_operand, y_outer, y_kept))
    (B : ∀ i e st r, gs_WF kd cnt → i < cnt → (gs_R kd vl nm cnt i).1 ≠ 0 → (gs_R kd vl nm cnt i).1 ≠ 4 → (∀ j, j < i → (gs_R kd vl nm cnt j).1 = 0 ∨ (gs_R kd vl nm cnt j).1 = 4) → (∀ q, 288 ≤ q → r q = y_ty q) → post (nI (gs_R kd vl nm cnt i).1) (y_parts, nI cnt, y_place, nI i, y_values, y_variables, y_waits, y_at, y_world, y_steps, y_blame, y_result, y_given, r, y_part, y_kind, e, st, y_with, y_runKind, y_runEnd, y_runWith, y_sort, y_one, y_two, y_from, y_to, y_label, y_held, y_around, y_waiting, y_operand, y_outer, y_kept))
    (C : ∀ e st r w, gs_WF kd cnt → (∀ j, j < cnt → (gs_R kd vl nm cnt j).1 = 0 ∨ (gs_R kd vl nm cnt j).1 = 4) → (∀ j, j < cnt → e j = nI (gs_en kd cnt j) ∧ ((gs_R kd vl nm cnt j).1 = 0 → gd_Sp r (gs_R kd vl nm cnt j).2 (8 * j))) → (∀ q, 288 ≤ q → r q = y_ty q) → post 0 (y_parts, nI cnt, y_place, w, y_values, y_variables, y_waits, y_at, y_world, y_steps, y_blame, y_result, y_given, r, y_part, y_kind, e, st, y_with, y_runKind, y_runEnd, y_runWith, y_sort, y_one, y_two, y_from, y_to, y_label, y_held, y_around, y_waiting, y_operand, y_outer, y_kept)) : wpY_examine post (y_parts, nI cnt, y_place, y_where, y_values, y_variables, y_waits, y_at, y_world, y_steps, y_blame, y_result, y_given, y_ty, y_part, y_kind, y_end, y_state, y_with, y_runKind, y_runEnd, y_runWith, y_sort, y_one, y_two, y_from, y_to, y_label, y_held, y_around, y_waiting, y_operand, y_outer, y_kept) := by
  refine Exists.intro (cnt + 1) (gy_ex4 hd A (fun W => Exists.intro (cnt + 1) ?_) cnt 0 (Nat.zero_add _) (fun j hj => absurd hj (Nat.not_lt_zero _)) y_where)
  exact gy_ex66 (y_where := nI cnt) W hd (fun i e st r => B i e st r W) (fun e st r w => C e st r w W) cnt (Nat.le_refl _) y_end y_state y_ty (fun j h1 h2 => by omega) (fun q _ => rfl)
end
end
section
/-! ===== 38: the relation, and the small methods ===== -/
def gr_pk (pp : Nat → Nat) : Nat → Nat
  | 0 => 0
  | n + 1 => gr_pk pp n + 8 ^ n * pp n
/-- the drafts of a type -/
def gr_D (td tc pa : Int32) (part : Nat → Int32) : Prop := ∃ (pc : Nat) (pp : Nat → Nat), pc ≤ 7 ∧ tc = nI pc ∧ pa = nI pc ∧ td = nI (gr_pk pp pc) ∧ (∀ j, pp j < 5) ∧ (∀ j, j < pc → part j = nI (pp j)) ∧ (∀ j, pc ≤ j → pp j = 0)
/-- the drafts of a term, and the named types -/
def gr_N (xc yc : Int32) (named kinds values ty kind wit : Nat → Int32) : Prop := ∃ (kd : Nat → Nat) (vl : Nat → Int32) (nm : Nat → Lean.RArray Nat) (cnt : Nat), xc = nI cnt ∧ yc = nI cnt ∧ gx_DR kd vl nm cnt named kinds values ∧ gy_DR kd vl nm cnt ty kind wit
/-- a run that gave a value -/
def gr_V (xr : Int32) (ty : Nat → Int32) (D : gx_D) (E : gy_D) : Prop := ∃ P cn G s v, gm_SF P cn G ∧ gm_L P cn G s v ∧ gx_H s D ∧ gy_H ty s E ∧ xr = nI (gm_xv v) ∧ gy_rs E = nI v
def i_Rel (k : Nat) (u : SX) (v : SY) : Prop := match u with
  | (x_typeDraft, x_typeCount, x_count, x_wrongAt, x_keptPlace, x_cellCount, x_scopeCount, x_frameCount, x_mode, x_atToken, x_scope, x_current, x_callee, x_side, x_ending, x_faultLabel, x_stepsTaken, x_runVerdict, x_runBlame, x_result, x_named, x_kinds, x_values, x_ends, x_types, x_operands, x_targets, x_cellShape, x_cellLabel, x_cellOne, x_cellTwo, x_cellThree, x_scopeValue, x_scopeOuter, x_frameKind, x_frameOne, x_frameTwo, x_frameThree, x_nKind, x_nOne, x_nTwo, x_nThree) => match v with
    | (y_parts, y_count, y_place, y_where, y_values, y_variables, y_waits, y_at, y_world, y_steps, y_blame, y_result, y_given, y_ty, y_part, y_kind, y_end, y_state, y_with, y_runKind, y_runEnd, y_runWith, y_sort, y_one, y_two, y_from, y_to, y_label, y_held, y_around, y_waiting, y_operand, y_outer, y_kept) => k = k ∧ (x_nKind = 32768 ∧ x_nOne = 32768 ∧ x_nTwo = 32768 ∧ x_nThree = 32768) ∧ gr_D x_typeDraft x_typeCount y_parts y_part ∧ gr_N x_count y_count x_named x_kinds x_values y_ty y_kind y_with ∧ x_keptPlace = y_place ∧ x_runBlame = y_blame ∧ x_stepsTaken = y_steps ∧
      ((x_runVerdict = 0 ∧ y_given = 1 ∧ gr_V x_result y_ty (x_cellCount, x_scopeCount, x_frameCount, x_mode, x_atToken, x_scope, x_current, x_callee, x_side, x_ending, x_faultLabel, x_stepsTaken, x_cellShape, x_cellLabel, x_cellOne, x_cellTwo, x_cellThree, x_scopeValue, x_scopeOuter, x_frameKind, x_frameOne, x_frameTwo, x_frameThree) (y_values, y_variables, y_waits, y_at, y_world, y_steps, y_blame, y_result, y_sort, y_one, y_two, y_from, y_to, y_label, y_held, y_around, y_waiting, y_operand, y_outer, y_kept)) ∨ (¬ x_runVerdict = 0 ∧ y_given = 0))
theorem i_up {k : Nat} {u : SX} {v : SY} (h : i_Rel k u v) : i_Rel (k + 3) u v := by
  obtain ⟨x_typeDraft, x_typeCount, x_count, x_wrongAt, x_keptPlace, x_cellCount, x_scopeCount, x_frameCount, x_mode, x_atToken, x_scope, x_current, x_callee, x_side, x_ending, x_faultLabel, x_stepsTaken, x_runVerdict, x_runBlame, x_result, x_named, x_kinds, x_values, x_ends, x_types, x_operands, x_targets, x_cellShape, x_cellLabel, x_cellOne, x_cellTwo, x_cellThree, x_scopeValue, x_scopeOuter, x_frameKind, x_frameOne, x_frameTwo, x_frameThree, x_nKind, x_nOne, x_nTwo, x_nThree⟩ := u
  obtain ⟨y_parts, y_count, y_place, y_where, y_values, y_variables, y_waits, y_at, y_world, y_steps, y_blame, y_result, y_given, y_ty, y_part, y_kind, y_end, y_state, y_with, y_runKind, y_runEnd, y_runWith, y_sort, y_one, y_two, y_from, y_to, y_label, y_held, y_around, y_waiting, y_operand, y_outer, y_kept⟩ := v
  exact ⟨rfl, h.2⟩
theorem i_vc_place {k : Nat} {u : SX} {v : SY} (I : i_Rel k u v) (hk : k + 3 ≤ 1536) : wpX_place (fun r => wpY_place (fun r' => r' = r ∧ i_Rel (k + 3) u v) v) u := by
  have I' := i_up I
  obtain ⟨x_typeDraft, x_typeCount, x_count, x_wrongAt, x_keptPlace, x_cellCount, x_scopeCount, x_frameCount, x_mode, x_atToken, x_scope, x_current, x_callee, x_side, x_ending, x_faultLabel, x_stepsTaken, x_runVerdict, x_runBlame, x_result, x_named, x_kinds, x_values, x_ends, x_types, x_operands, x_targets, x_cellShape, x_cellLabel, x_cellOne, x_cellTwo, x_cellThree, x_scopeValue, x_scopeOuter, x_frameKind, x_frameOne, x_frameTwo, x_frameThree, x_nKind, x_nOne, x_nTwo, x_nThree⟩ := u
  obtain ⟨y_parts, y_count, y_place, y_where, y_values, y_variables, y_waits, y_at, y_world, y_steps, y_blame, y_result, y_given, y_ty, y_part, y_kind, y_end, y_state, y_with, y_runKind, y_runEnd, y_runWith, y_sort, y_one, y_two, y_from, y_to, y_label, y_held, y_around, y_waiting, y_operand, y_outer, y_kept⟩ := v
  exact ⟨I.2.2.2.2.1.symm, I'⟩
theorem i_vc_blamed {k : Nat} {u : SX} {v : SY} (I : i_Rel k u v) (hk : k + 3 ≤ 1536) : wpX_blamed (fun r => wpY_blamed (fun r' => r' = r ∧ i_Rel (k + 3) u v) v) u := by
  have I' := i_up I
  obtain ⟨x_typeDraft, x_typeCount, x_count, x_wrongAt, x_keptPlace, x_cellCount, x_scopeCount, x_frameCount, x_mode, x_atToken, x_scope, x_current, x_callee, x_side, x_ending, x_faultLabel, x_stepsTaken, x_runVerdict, x_runBlame, x_result, x_named, x_kinds, x_values, x_ends, x_types, x_operands, x_targets, x_cellShape, x_cellLabel, x_cellOne, x_cellTwo, x_cellThree, x_scopeValue, x_scopeOuter, x_frameKind, x_frameOne, x_frameTwo, x_frameThree, x_nKind, x_nOne, x_nTwo, x_nThree⟩ := u
  obtain ⟨y_parts, y_count, y_place, y_where, y_values, y_variables, y_waits, y_at, y_world, y_steps, y_blame, y_result, y_given, y_ty, y_part, y_kind, y_end, y_state, y_with, y_runKind, y_runEnd, y_runWith, y_sort, y_one, y_two, y_from, y_to, y_label, y_held, y_around, y_waiting, y_operand, y_outer, y_kept⟩ := v
  exact ⟨I.2.2.2.2.2.1.symm, I'⟩
theorem i_vc_steps {k : Nat} {u : SX} {v : SY} (I : i_Rel k u v) (hk : k + 3 ≤ 1536) : wpX_steps (fun r => wpY_steps (fun r' => r' = r ∧ i_Rel (k + 3) u v) v) u := by
  have I' := i_up I
  obtain ⟨x_typeDraft, x_typeCount, x_count, x_wrongAt, x_keptPlace, x_cellCount, x_scopeCount, x_frameCount, x_mode, x_atToken, x_scope, x_current, x_callee, x_side, x_ending, x_faultLabel, x_stepsTaken, x_runVerdict, x_runBlame, x_result, x_named, x_kinds, x_values, x_ends, x_types, x_operands, x_targets, x_cellShape, x_cellLabel, x_cellOne, x_cellTwo, x_cellThree, x_scopeValue, x_scopeOuter, x_frameKind, x_frameOne, x_frameTwo, x_frameThree, x_nKind, x_nOne, x_nTwo, x_nThree⟩ := u
  obtain ⟨y_parts, y_count, y_place, y_where, y_values, y_variables, y_waits, y_at, y_world, y_steps, y_blame, y_result, y_given, y_ty, y_part, y_kind, y_end, y_state, y_with, y_runKind, y_runEnd, y_runWith, y_sort, y_one, y_two, y_from, y_to, y_label, y_held, y_around, y_waiting, y_operand, y_outer, y_kept⟩ := v
  exact ⟨I.2.2.2.2.2.2.1.symm, I'⟩
theorem i_vc_wipe {k : Nat} {u : SX} {v : SY} (I : i_Rel k u v) (hk : k + 3 ≤ 1536) : wpX_wipe (fun r u' => wpY_wipe (fun r' v' => r' = r ∧ i_Rel (k + 3) u' v') v) u := by
  obtain ⟨x_typeDraft, x_typeCount, x_count, x_wrongAt, x_keptPlace, x_cellCount, x_scopeCount, x_frameCount, x_mode, x_atToken, x_scope, x_current, x_callee, x_side, x_ending, x_faultLabel, x_stepsTaken, x_runVerdict, x_runBlame, x_result, x_named, x_kinds, x_values, x_ends, x_types, x_operands, x_targets, x_cellShape, x_cellLabel, x_cellOne, x_cellTwo, x_cellThree, x_scopeValue, x_scopeOuter, x_frameKind, x_frameOne, x_frameTwo, x_frameThree, x_nKind, x_nOne, x_nTwo, x_nThree⟩ := u
  obtain ⟨y_parts, y_count, y_place, y_where, y_values, y_variables, y_waits, y_at, y_world, y_steps, y_blame, y_result, y_given, y_ty, y_part, y_kind, y_end, y_state, y_with, y_runKind, y_runEnd, y_runWith, y_sort, y_one, y_two, y_from, y_to, y_label, y_held, y_around, y_waiting, y_operand, y_outer, y_kept⟩ := v
  obtain ⟨_, hl, hD, ⟨kd, vl, nm, cnt, e1, e2, dx, dy⟩, h4, h5, h6, h7⟩ := I
  refine ⟨e2.trans e1.symm, rfl, hl, hD, ⟨kd, vl, nm, 0, rfl, rfl, ⟨by omega, dx.2.1, dx.2.2.1, fun i hi => absurd hi (Nat.not_lt_zero _)⟩, ⟨by omega, dy.2.1, dy.2.2.1, dy.2.2.2.1, fun i hi => absurd hi (Nat.not_lt_zero _)⟩⟩, h4, h5, h6, h7⟩
theorem gr_pk_lt {pp : Nat → Nat} (h : ∀ j, pp j < 5) : ∀ n, gr_pk pp n < 8 ^ n := by
  intro n
  induction n with
  | zero => exact Nat.one_pos
  | succ n ih =>
    have := h n
    show gr_pk pp n + 8 ^ n * pp n < 8 ^ (n + 1)
    rw [Nat.pow_succ]
    exact gd_ab ih (by omega)
theorem gr_pk_c {pp pp' : Nat → Nat} : ∀ n, (∀ j, j < n → pp j = pp' j) → gr_pk pp n = gr_pk pp' n := by
  intro n
  induction n with
  | zero => intro _; rfl
  | succ n ih =>
    intro h
    show gr_pk pp n + 8 ^ n * pp n = gr_pk pp' n + 8 ^ n * pp' n
    rw [ih (fun j hj => h j (by omega)), h n (by omega)]
theorem i_vc_part {k : Nat} {u : SX} {v : SY} (I : i_Rel k u v) (hk : k + 3 ≤ 1536) (v1 : Int32) : wpX_part (fun r u' => wpY_part (fun r' v' => r' = r ∧ i_Rel (k + 3) u' v') v v1) u v1 := by
  have I' := i_up I
  obtain ⟨x_typeDraft, x_typeCount, x_count, x_wrongAt, x_keptPlace, x_cellCount, x_scopeCount, x_frameCount, x_mode, x_atToken, x_scope, x_current, x_callee, x_side, x_ending, x_faultLabel, x_stepsTaken, x_runVerdict, x_runBlame, x_result, x_named, x_kinds, x_values, x_ends, x_types, x_operands, x_targets, x_cellShape, x_cellLabel, x_cellOne, x_cellTwo, x_cellThree, x_scopeValue, x_scopeOuter, x_frameKind, x_frameOne, x_frameTwo, x_frameThree, x_nKind, x_nOne, x_nTwo, x_nThree⟩ := u
  obtain ⟨y_parts, y_count, y_place, y_where, y_values, y_variables, y_waits, y_at, y_world, y_steps, y_blame, y_result, y_given, y_ty, y_part, y_kind, y_end, y_state, y_with, y_runKind, y_runEnd, y_runWith, y_sort, y_one, y_two, y_from, y_to, y_label, y_held, y_around, y_waiting, y_operand, y_outer, y_kept⟩ := v
  have bad : v1 < 0 ∨ 4 < v1 → wpY_part (fun r' v' => r' = 0 ∧ i_Rel (k + 3) (x_typeDraft, x_typeCount, x_count, x_wrongAt, x_keptPlace, x_cellCount, x_scopeCount, x_frameCount, x_mode, x_atToken, x_scope, x_current, x_callee, x_side, x_ending, x_faultLabel, x_stepsTaken, x_runVerdict, x_runBlame, x_result, x_named, x_kinds, x_values, x_ends, x_types, x_operands, x_targets, x_cellShape, x_cellLabel, x_cellOne, x_cellTwo, x_cellThree, x_scopeValue, x_scopeOuter, x_frameKind, x_frameOne, x_frameTwo, x_frameThree, x_nKind, x_nOne, x_nTwo, x_nThree) v') (y_parts, y_count, y_place, y_where, y_values, y_variables, y_waits, y_at, y_world, y_steps, y_blame, y_result, y_given, y_ty, y_part, y_kind, y_end, y_state, y_with, y_runKind, y_runEnd, y_runWith, y_sort, y_one, y_two, y_from, y_to, y_label, y_held, y_around, y_waiting, y_operand, y_outer, y_kept) v1 := by
    intro c
    rcases c with c | c
    · exact br_t c (br_f (show ¬ (1 : Int32) = 0 by decide) ⟨rfl, I'⟩)
    · refine br_f (fun z => ?_) (br_f (fun z => ?_) (br_f (show ¬ (1 : Int32) = 0 by decide) ⟨rfl, I'⟩))
      · have a := Int32.lt_iff_toInt_lt.mp c
        have b := Int32.lt_iff_toInt_lt.mp z
        have c4 : (4 : Int32).toInt = 4 := by decide
        have c0 : (0 : Int32).toInt = 0 := by decide
        omega
      · have a := Int32.lt_iff_toInt_lt.mp c
        have b := Int32.lt_iff_toInt_lt.mp z
        have c4 : (4 : Int32).toInt = 4 := by decide
        have c5 : (5 : Int32).toInt = 5 := by decide
        omega
  refine br_c (fun c => bad (Or.inl c)) (fun n0 => br_c (fun c => bad (Or.inr c)) (fun n4 => ?_))
  obtain ⟨c, hc, rfl⟩ : ∃ c : Nat, c < 5 ∧ v1 = nI c := by
    obtain ⟨j, hj, e⟩ := nI_of n0
    refine ⟨j, ?_, e⟩
    rw [e] at n4
    have : ¬ nI 4 < nI j := n4
    rw [nI_ltI (by decide) hj] at this
    omega
  obtain ⟨_, hl, ⟨pc, pp, p7, e1, e2, e3, q1, q2, q3⟩, hN, h4, h5, h6, h7⟩ := I
  subst e1 e2 e3
  have out0 : ∀ (R : Int32 → Prop), R 0 → wpY_out R (nI c) 5 := fun R h => br_f (nI_pos (by omega)) (br_t (nI_lt (b := 5) hc (by decide)) h)
  refine pk_lt pc 7 (fun lt => ?_) (fun ge => ?_)
  · have es : nI (gr_pk pp pc) ||| (nI c <<< ((3 * nI pc) &&& 31)) = nI (gr_pk pp pc + 8 ^ pc * c) := by
      have p := gr_pk_lt q1 pc
      have p8 : 8 ^ pc ≤ 8 ^ 7 := Nat.pow_le_pow_right (by decide) (by omega)
      have p87 : (8 : Nat) ^ 7 = 2097152 := by decide
      have c8 : c * 8 ^ pc ≤ 5 * 8 ^ 7 := Nat.mul_le_mul (by omega) p8
      rw [show (3 : Int32) * nI pc = nI (3 * pc) from pk_mul 3 pc, pk_shlN (nI (3 * pc) &&& 31) (3 * pc) (s_l _ (by omega)) (by rw [gx_p8]; omega), Nat.mul_comm c, gx_or (k := 3 * pc) (by rw [gx_p8]; exact p), gx_p8]
    refine nm_r es (nm_r (nI_1 pc) ?_)
    dsimp only
    unfold wpY_part
    refine out0 _ (br_t rfl (pk_eq pc 7 (fun z => by omega) (fun _ => nm_r (nI_1 pc) ?_)))
    rw [nI_clamp (show pc < 2 ^ 31 by omega), gy_nb c (by omega)]
    refine And.intro (vp_in_nI (by omega) (by decide)) (nm_e ?_)
    refine ⟨rfl, rfl, hl, ⟨pc + 1, fun j => if j = pc then c else pp j, by omega, rfl, rfl, ?_, ?_, ?_, ?_⟩, hN, h4, h5, h6, h7⟩
    · show nI _ = nI (gr_pk (fun j => if j = pc then c else pp j) pc + 8 ^ pc * (if pc = pc then c else pp pc))
      rw [if_pos rfl, gr_pk_c (pp := fun j => if j = pc then c else pp j) (pp' := pp) pc (fun j hj => if_neg (by omega))]
    · intro j
      show (if j = pc then c else pp j) < 5
      by_cases e : j = pc
      · rw [if_pos e]; exact hc
      · rw [if_neg e]; exact q1 j
    · intro j hj
      show upd y_part pc (nI c) j = nI (if j = pc then c else pp j)
      by_cases e : j = pc
      · rw [if_pos e, e]; exact pk_us
      · rw [if_neg e, pk_un e]; exact q2 j (by omega)
    · intro j hj
      show (if j = pc then c else pp j) = 0
      rw [if_neg (by omega)]
      exact q3 j (by omega)
  · dsimp only
    unfold wpY_part
    exact out0 _ (br_t rfl (pk_eq pc 7 (fun _ => ⟨rfl, I'⟩) (fun z => by omega)))
end
section
/-! ===== 39: token, and new objects ===== -/
def gr_vd (c : Nat) (v : Int32) : Prop := (c = 1 → ¬ v < 0 ∧ v < 2) ∧ (c = 2 ∨ c = 3 ∨ c = 11 → ¬ v < 0 ∧ v < 10)
section
variable {x_typeDraft x_typeCount x_count x_wrongAt x_keptPlace x_cellCount x_scopeCount x_frameCount x_mode x_atToken x_scope x_current x_callee x_side x_ending x_faultLabel x_stepsTaken x_runVerdict x_runBlame x_result : Int32} {x_named x_kinds x_values x_ends x_types x_operands x_targets x_cellShape x_cellLabel x_cellOne x_cellTwo x_cellThree x_scopeValue x_scopeOuter x_frameKind x_frameOne x_frameTwo x_frameThree : Nat → Int32}
variable {y_parts y_count y_place y_where y_values y_variables y_waits y_at y_world y_steps y_blame y_result y_given : Int32} {y_ty y_part y_kind y_end y_state y_with y_runKind y_runEnd y_runWith y_sort y_one y_two y_from y_to y_label y_held y_around y_waiting y_operand y_outer y_kept : Nat → Int32}
theorem gx_token {P : Int32 → SX → Prop} {c cnt : Nat} {v2 : Int32} (hc : c < 12) (hn : cnt < 36) (A : gr_vd c v2 → P 1 (x_typeDraft, x_typeCount, nI (cnt + 1), x_wrongAt, x_keptPlace, x_cellCount, x_scopeCount, x_frameCount, x_mode, x_atToken, x_scope, x_current, x_callee, x_side, x_ending, x_faultLabel, x_stepsTaken, x_runVerdict, x_runBlame, x_result, x_named, upd x_kinds cnt (nI c), upd x_values cnt v2, x_ends, x_types, x_operands, x_targets, x_cellShape, x_cellLabel, x_cellOne, x_cellTwo, x_cellThree, x_scopeValue, x_scopeOuter, x_frameKind, x_frameOne, x_frameTwo, x_frameThree, 32768, 32768, 32768, 32768)) (B : ¬ gr_vd c v2 → P 0 (x_typeDraft, x_typeCount, nI cnt, x_wrongAt, x_keptPlace, x_cellCount, x_scopeCount, x_frameCount, x_mode, x_atToken, x_scope, x_current, x_callee, x_side, x_ending, x_faultLabel, x_stepsTaken, x_runVerdict, x_runBlame, x_result, x_named, x_kinds, x_values, x_ends, x_types, x_operands, x_targets, x_cellShape, x_cellLabel, x_cellOne, x_cellTwo, x_cellThree, x_scopeValue, x_scopeOuter, x_frameKind, x_frameOne, x_frameTwo, x_frameThree, 32768, 32768, 32768, 32768)) : wpX_token P (x_typeDraft, x_typeCount, nI cnt, x_wrongAt, x_keptPlace, x_cellCount, x_scopeCount, x_frameCount, x_mode, x_atToken, x_scope, x_current, x_callee, x_side, x_ending, x_faultLabel, x_stepsTaken, x_runVerdict, x_runBlame, x_result, x_named, x_kinds, x_values, x_ends, x_types, x_operands, x_targets, x_cellShape, x_cellLabel, x_cellOne, x_cellTwo, x_cellThree, x_scopeValue, x_scopeOuter, x_frameKind, x_frameOne, x_frameTwo, x_frameThree, 32768, 32768, 32768, 32768) (nI c) v2 := by
  have e : (nI cnt).toNatClampNeg = cnt := nI_clamp (by omega)
  have vin : vp_in (nI cnt) 36 := vp_in_nI hn (by decide)
  have acc : gr_vd c v2 → wX_token_41 P (nI c) v2 x_typeDraft x_typeCount (nI cnt) x_wrongAt x_keptPlace x_cellCount x_scopeCount x_frameCount x_mode x_atToken x_scope x_current x_callee x_side x_ending x_faultLabel x_stepsTaken x_runVerdict x_runBlame x_result x_named x_kinds x_values x_ends x_types x_operands x_targets x_cellShape x_cellLabel x_cellOne x_cellTwo x_cellThree x_scopeValue x_scopeOuter x_frameKind x_frameOne x_frameTwo x_frameThree 32768 32768 32768 32768 := fun h => And.intro vin (nm_r (congrArg (fun k => upd x_kinds k (nI c)) e) (And.intro vin (nm_r (congrArg (fun k => upd x_values k v2) e) (nm_r (nI_1 cnt) (A h)))))
  refine br_f (nI_pos (by omega)) (br_f (nI_nlt (a := 11) (b := c) (by omega) (by decide)) (br_t (nI_lt (b := 36) hn (by decide)) ?_))
  have rng : ∀ m : Int32, ¬ m = 0 → (gr_vd c v2 ↔ ¬ v2 < 0 ∧ v2 < m) → ((m = 0 → wX_token_41 P (nI c) v2 x_typeDraft x_typeCount (nI cnt) x_wrongAt x_keptPlace x_cellCount x_scopeCount x_frameCount x_mode x_atToken x_scope x_current x_callee x_side x_ending x_faultLabel x_stepsTaken x_runVerdict x_runBlame x_result x_named x_kinds x_values x_ends x_types x_operands x_targets x_cellShape x_cellLabel x_cellOne x_cellTwo x_cellThree x_scopeValue x_scopeOuter x_frameKind x_frameOne x_frameTwo x_frameThree 32768 32768 32768 32768) ∧ (¬ m = 0 → ((v2 < 0 → P 0 (x_typeDraft, x_typeCount, nI cnt, x_wrongAt, x_keptPlace, x_cellCount, x_scopeCount, x_frameCount, x_mode, x_atToken, x_scope, x_current, x_callee, x_side, x_ending, x_faultLabel, x_stepsTaken, x_runVerdict, x_runBlame, x_result, x_named, x_kinds, x_values, x_ends, x_types, x_operands, x_targets, x_cellShape, x_cellLabel, x_cellOne, x_cellTwo, x_cellThree, x_scopeValue, x_scopeOuter, x_frameKind, x_frameOne, x_frameTwo, x_frameThree, 32768, 32768, 32768, 32768)) ∧ (¬ v2 < 0 → ((v2 < m → wX_token_41 P (nI c) v2 x_typeDraft x_typeCount (nI cnt) x_wrongAt x_keptPlace x_cellCount x_scopeCount x_frameCount x_mode x_atToken x_scope x_current x_callee x_side x_ending x_faultLabel x_stepsTaken x_runVerdict x_runBlame x_result x_named x_kinds x_values x_ends x_types x_operands x_targets x_cellShape x_cellLabel x_cellOne x_cellTwo x_cellThree x_scopeValue x_scopeOuter x_frameKind x_frameOne x_frameTwo x_frameThree 32768 32768 32768 32768) ∧ (¬ v2 < m → P 0 (x_typeDraft, x_typeCount, nI cnt, x_wrongAt, x_keptPlace, x_cellCount, x_scopeCount, x_frameCount, x_mode, x_atToken, x_scope, x_current, x_callee, x_side, x_ending, x_faultLabel, x_stepsTaken, x_runVerdict, x_runBlame, x_result, x_named, x_kinds, x_values, x_ends, x_types, x_operands, x_targets, x_cellShape, x_cellLabel, x_cellOne, x_cellTwo, x_cellThree, x_scopeValue, x_scopeOuter, x_frameKind, x_frameOne, x_frameTwo, x_frameThree, 32768, 32768, 32768, 32768))))))) := fun m m0 h => br_f m0 (br_c (fun z => B (fun y => (h.mp y).1 z)) (fun z => br_c (fun y => acc (h.mpr ⟨z, y⟩)) (fun y => B (fun q => y (h.mp q).2))))
  refine pk_eq c 1 (fun z => rng 2 (by decide) ⟨fun h => h.1 z, fun h => ⟨fun _ => h, fun y => by omega⟩⟩) (fun n1 => pk_eq c 2 (fun z => rng 10 (by decide) ⟨fun h => h.2 (Or.inl z), fun h => ⟨fun y => by omega, fun _ => h⟩⟩) (fun n2 => pk_eq c 3 (fun z => rng 10 (by decide) ⟨fun h => h.2 (Or.inr (Or.inl z)), fun h => ⟨fun y => by omega, fun _ => h⟩⟩) (fun n3 => pk_eq c 11 (fun z => rng 10 (by decide) ⟨fun h => h.2 (Or.inr (Or.inr z)), fun h => ⟨fun y => by omega, fun _ => h⟩⟩) (fun n11 => br_t rfl (acc ⟨fun y => absurd y n1, fun y => by omega⟩)))))
theorem gy_token {P : Int32 → SY → Prop} {c cnt : Nat} {v2 : Int32} (hc : c < 12) (hn : cnt < 36) (A : gr_vd c v2 → P 1 (y_parts, nI (cnt + 1), y_place, y_where, y_values, y_variables, y_waits, y_at, y_world, y_steps, y_blame, y_result, y_given, y_ty, y_part, upd y_kind cnt (nI c), y_end, y_state, upd y_with cnt v2, y_runKind, y_runEnd, y_runWith, y_sort, y_one, y_two, y_from, y_to, y_label, y_held, y_around, y_waiting, y_operand, y_outer, y_kept)) (B : ¬ gr_vd c v2 → P 0 (y_parts, nI cnt, y_place, y_where, y_values, y_variables, y_waits, y_at, y_world, y_steps, y_blame, y_result, y_given, y_ty, y_part, y_kind, y_end, y_state, y_with, y_runKind, y_runEnd, y_runWith, y_sort, y_one, y_two, y_from, y_to, y_label, y_held, y_around, y_waiting, y_operand, y_outer, y_kept)) : wpY_token P (y_parts, nI cnt, y_place, y_where, y_values, y_variables, y_waits, y_at, y_world, y_steps, y_blame, y_result, y_given, y_ty, y_part, y_kind, y_end, y_state, y_with, y_runKind, y_runEnd, y_runWith, y_sort, y_one, y_two, y_from, y_to, y_label, y_held, y_around, y_waiting, y_operand, y_outer, y_kept) (nI c) v2 := by
  have e : (nI cnt).toNatClampNeg = cnt := nI_clamp (by omega)
  have vin : vp_in (nI cnt) 36 := vp_in_nI hn (by decide)
  have e1 : upd y_kind (nI cnt).toNatClampNeg (vp_nar .byte (nI c).toInt8.toInt32) = upd y_kind cnt (nI c) := by rw [e, gy_nb c (by omega)]
  have acc : gr_vd c v2 → wY_token_60 P (nI c) v2 y_parts (nI cnt) y_place y_where y_values y_variables y_waits y_at y_world y_steps y_blame y_result y_given y_ty y_part y_kind y_end y_state y_with y_runKind y_runEnd y_runWith y_sort y_one y_two y_from y_to y_label y_held y_around y_waiting y_operand y_outer y_kept := fun h => And.intro vin (nm_r e1 (nm_r (nI_1 cnt) (And.intro vin (nm_r (congrArg (fun k => upd y_with k v2) e) (A h)))))
  have out : ∀ (m : Int32) (R : Int32 → Prop), (¬ v2 < 0 ∧ v2 < m → R 0) → (¬ (¬ v2 < 0 ∧ v2 < m) → R 1) → wpY_out R v2 m := fun m R a b => br_c (fun z => b (fun y => y.1 z)) (fun z => br_c (fun y => a ⟨z, y⟩) (fun y => b (fun q => y q.2)))
  have t49 : (c = 2 ∨ c = 3 ∨ c = 11) → wY_token_49 P (nI c) v2 y_parts (nI cnt) y_place y_where y_values y_variables y_waits y_at y_world y_steps y_blame y_result y_given y_ty y_part y_kind y_end y_state y_with y_runKind y_runEnd y_runWith y_sort y_one y_two y_from y_to y_label y_held y_around y_waiting y_operand y_outer y_kept := fun h => out 10 _ (fun z => br_t rfl (acc ⟨fun y => by omega, fun _ => z⟩)) (fun z => br_f (show ¬ (1 : Int32) = 0 by decide) (B (fun y => z (y.2 h))))
  have t33 : (c = 1 → ¬ v2 < 0 ∧ v2 < 2) → wY_token_33 P (nI c) v2 y_parts (nI cnt) y_place y_where y_values y_variables y_waits y_at y_world y_steps y_blame y_result y_given y_ty y_part y_kind y_end y_state y_with y_runKind y_runEnd y_runWith y_sort y_one y_two y_from y_to y_label y_held y_around y_waiting y_operand y_outer y_kept := fun h => pk_eq c 2 (fun z => t49 (Or.inl z)) (fun n2 => pk_eq c 3 (fun z => t49 (Or.inr (Or.inl z))) (fun n3 => pk_eq c 11 (fun z => t49 (Or.inr (Or.inr z))) (fun n11 => acc ⟨h, fun y => by omega⟩)))
  unfold wpY_token
  refine br_f (nI_pos (by omega)) (br_t (nI_lt (b := 12) hc (by decide)) (br_t rfl (pk_eq cnt 36 (fun z => by omega) (fun _ => pk_eq c 1 (fun z => ?_) (fun z => t33 (fun y => absurd y z))))))
  exact out 2 _ (fun y => br_t rfl (t33 (fun _ => y))) (fun y => br_f (show ¬ (1 : Int32) = 0 by decide) (B (fun q => y (q.1 z))))
end
theorem i_vc_token {k : Nat} {u : SX} {v : SY} (I : i_Rel k u v) (hk : k + 3 ≤ 1536) (v1 : Int32) (v2 : Int32) : wpX_token (fun r u' => wpY_token (fun r' v' => r' = r ∧ i_Rel (k + 3) u' v') v v1 v2) u v1 v2 := by
  have I' := i_up I
  obtain ⟨x_typeDraft, x_typeCount, x_count, x_wrongAt, x_keptPlace, x_cellCount, x_scopeCount, x_frameCount, x_mode, x_atToken, x_scope, x_current, x_callee, x_side, x_ending, x_faultLabel, x_stepsTaken, x_runVerdict, x_runBlame, x_result, x_named, x_kinds, x_values, x_ends, x_types, x_operands, x_targets, x_cellShape, x_cellLabel, x_cellOne, x_cellTwo, x_cellThree, x_scopeValue, x_scopeOuter, x_frameKind, x_frameOne, x_frameTwo, x_frameThree, x_nKind, x_nOne, x_nTwo, x_nThree⟩ := u
  obtain ⟨y_parts, y_count, y_place, y_where, y_values, y_variables, y_waits, y_at, y_world, y_steps, y_blame, y_result, y_given, y_ty, y_part, y_kind, y_end, y_state, y_with, y_runKind, y_runEnd, y_runWith, y_sort, y_one, y_two, y_from, y_to, y_label, y_held, y_around, y_waiting, y_operand, y_outer, y_kept⟩ := v
  have bad : v1 < 0 ∨ 11 < v1 → wpY_token (fun r' v' => r' = 0 ∧ i_Rel (k + 3) (x_typeDraft, x_typeCount, x_count, x_wrongAt, x_keptPlace, x_cellCount, x_scopeCount, x_frameCount, x_mode, x_atToken, x_scope, x_current, x_callee, x_side, x_ending, x_faultLabel, x_stepsTaken, x_runVerdict, x_runBlame, x_result, x_named, x_kinds, x_values, x_ends, x_types, x_operands, x_targets, x_cellShape, x_cellLabel, x_cellOne, x_cellTwo, x_cellThree, x_scopeValue, x_scopeOuter, x_frameKind, x_frameOne, x_frameTwo, x_frameThree, x_nKind, x_nOne, x_nTwo, x_nThree) v') (y_parts, y_count, y_place, y_where, y_values, y_variables, y_waits, y_at, y_world, y_steps, y_blame, y_result, y_given, y_ty, y_part, y_kind, y_end, y_state, y_with, y_runKind, y_runEnd, y_runWith, y_sort, y_one, y_two, y_from, y_to, y_label, y_held, y_around, y_waiting, y_operand, y_outer, y_kept) v1 v2 := by
    intro c
    unfold wpY_token
    rcases c with c | c
    · exact br_t c (br_f (show ¬ (1 : Int32) = 0 by decide) ⟨rfl, I'⟩)
    · refine br_f (fun z => ?_) (br_f (fun z => ?_) (br_f (show ¬ (1 : Int32) = 0 by decide) ⟨rfl, I'⟩))
      · have a := Int32.lt_iff_toInt_lt.mp c
        have b := Int32.lt_iff_toInt_lt.mp z
        have c4 : (11 : Int32).toInt = 11 := by decide
        have c0 : (0 : Int32).toInt = 0 := by decide
        omega
      · have a := Int32.lt_iff_toInt_lt.mp c
        have b := Int32.lt_iff_toInt_lt.mp z
        have c4 : (11 : Int32).toInt = 11 := by decide
        have c5 : (12 : Int32).toInt = 12 := by decide
        omega
  by_cases n0 : v1 < 0
  · exact br_t n0 (bad (Or.inl n0))
  by_cases n11 : 11 < v1
  · exact br_f n0 (br_t n11 (bad (Or.inr n11)))
  obtain ⟨c, hc, rfl⟩ : ∃ c : Nat, c < 12 ∧ v1 = nI c := by
    obtain ⟨j, hj, e⟩ := nI_of n0
    refine ⟨j, ?_, e⟩
    rw [e] at n11
    have : ¬ nI 11 < nI j := n11
    rw [nI_ltI (by decide) hj] at this
    omega
  obtain ⟨_, ⟨l1, l2, l3, l4⟩, hD, ⟨kd, vl, nm, cnt, e1, e2, dx, dy⟩, h4, h5, h6, h7⟩ := I
  subst l1 l2 l3 l4 e1 e2
  by_cases full : cnt < 36
  · refine gx_token hc full (fun vd => ?_) (fun nv => ?_)
    · refine gy_token hc full (fun _ => ?_) (fun z => absurd vd z)
      have vr : gs_vr (fun j => if j = cnt then c else kd j) (fun j => if j = cnt then v2 else vl j) cnt := by
        intro z
        have z' : c = 2 ∨ c = 3 ∨ c = 11 := by
          have e : (fun j => if j = cnt then c else kd j) cnt = c := if_pos rfl
          rw [e] at z
          exact z
        obtain ⟨a, b⟩ := vd.2 z'
        obtain ⟨n, hn, en⟩ := nI_of a
        refine ⟨n, ?_, ?_⟩
        · rw [en] at b
          have : nI n < nI 10 := b
          rw [nI_ltI hn (by decide)] at this
          exact this
        · show (if cnt = cnt then v2 else vl cnt) = nI n
          rw [if_pos rfl]
          exact en
      refine ⟨rfl, rfl, ⟨rfl, rfl, rfl, rfl⟩, hD, ⟨fun j => if j = cnt then c else kd j, fun j => if j = cnt then v2 else vl j, nm, cnt + 1, rfl, rfl, ⟨by omega, dx.2.1, dx.2.2.1, ?_⟩, ⟨by omega, dy.2.1, dy.2.2.1, dy.2.2.2.1, ?_⟩⟩, h4, h5, h6, h7⟩
      · intro j hj
        by_cases e : j = cnt
        · subst e
          refine ⟨?_, ?_, ?_, vr⟩
          · show upd x_kinds j (nI c) j = nI (if j = j then c else kd j)
            rw [if_pos rfl]; exact pk_us
          · show (if j = j then c else kd j) < 12
            rw [if_pos rfl]; exact hc
          · show upd x_values j v2 j = (if j = j then v2 else vl j)
            rw [if_pos rfl]; exact pk_us
        · obtain ⟨a1, a2, a3, a4⟩ := dx.2.2.2 j (by omega)
          refine ⟨?_, ?_, ?_, ?_⟩
          · show upd x_kinds cnt (nI c) j = nI (if j = cnt then c else kd j)
            rw [if_neg e, pk_un e]; exact a1
          · show (if j = cnt then c else kd j) < 12
            rw [if_neg e]; exact a2
          · show upd x_values cnt v2 j = (if j = cnt then v2 else vl j)
            rw [if_neg e, pk_un e]; exact a3
          · show (if j = cnt then c else kd j) = 2 ∨ (if j = cnt then c else kd j) = 3 ∨ (if j = cnt then c else kd j) = 11 → ∃ n, n < 10 ∧ (if j = cnt then v2 else vl j) = nI n
            rw [if_neg e, if_neg e]; exact a4
      · intro j hj
        by_cases e : j = cnt
        · subst e
          refine ⟨?_, ?_, ?_, vr⟩
          · show upd y_kind j (nI c) j = nI (if j = j then c else kd j)
            rw [if_pos rfl]; exact pk_us
          · show (if j = j then c else kd j) < 12
            rw [if_pos rfl]; exact hc
          · show upd y_with j v2 j = (if j = j then v2 else vl j)
            rw [if_pos rfl]; exact pk_us
        · obtain ⟨a1, a2, a3, a4⟩ := dy.2.2.2.2 j (by omega)
          refine ⟨?_, ?_, ?_, ?_⟩
          · show upd y_kind cnt (nI c) j = nI (if j = cnt then c else kd j)
            rw [if_neg e, pk_un e]; exact a1
          · show (if j = cnt then c else kd j) < 12
            rw [if_neg e]; exact a2
          · show upd y_with cnt v2 j = (if j = cnt then v2 else vl j)
            rw [if_neg e, pk_un e]; exact a3
          · show (if j = cnt then c else kd j) = 2 ∨ (if j = cnt then c else kd j) = 3 ∨ (if j = cnt then c else kd j) = 11 → ∃ n, n < 10 ∧ (if j = cnt then v2 else vl j) = nI n
            rw [if_neg e, if_neg e]; exact a4
    · exact gy_token hc full (fun z => absurd z nv) (fun _ => ⟨rfl, I'⟩)
  · have e36 : cnt = 36 := by have := dx.1; omega
    subst e36
    refine br_f (nI_pos (by omega)) (br_f (nI_nlt (a := 11) (b := c) (by omega) (by decide)) (br_f (by decide) ?_))
    dsimp only
    unfold wpY_token
    exact br_f (nI_pos (by omega)) (br_t (nI_lt (b := 12) hc (by decide)) (br_t rfl (br_t rfl ⟨rfl, I'⟩)))
theorem gr_x0 {post : SX → Prop} {x_typeDraft x_typeCount x_count x_wrongAt x_keptPlace x_cellCount x_scopeCount x_frameCount x_mode x_atToken x_scope x_current x_callee x_side x_ending x_faultLabel x_stepsTaken x_runVerdict x_runBlame x_result : Int32} {x_named x_kinds x_values x_ends x_types x_operands x_targets x_cellShape x_cellLabel x_cellOne x_cellTwo x_cellThree x_scopeValue x_scopeOuter x_frameKind x_frameOne x_frameTwo x_frameThree : Nat → Int32} (P : ∀ nd : Nat → Int32, (∀ j, j < 10 → nd j = 2) → post (x_typeDraft, x_typeCount, x_count, x_wrongAt, x_keptPlace, x_cellCount, x_scopeCount, x_frameCount, x_mode, x_atToken, x_scope, x_current, x_callee, x_side, x_ending, x_faultLabel, x_stepsTaken, x_runVerdict, x_runBlame, x_result, nd, x_kinds, x_values, x_ends, x_types, x_operands, x_targets, x_cellShape, x_cellLabel, x_cellOne, x_cellTwo, x_cellThree, x_scopeValue, x_scopeOuter, x_frameKind, x_frameOne, x_frameTwo, x_frameThree, 32768, 32768, 32768, 32768)) : ∀ d i, i + d = 10 → ∀ nd : Nat → Int32, (∀ j, j < i → nd j = 2) → wX_init_165 post x_typeDraft x_typeCount x_count x_wrongAt x_keptPlace x_cellCount x_scopeCount x_frameCount x_mode x_atToken x_scope x_current x_callee x_side x_ending x_faultLabel x_stepsTaken x_runVerdict x_runBlame x_result 32768 32768 32768 32768 (d + 1) (nI i) nd x_kinds x_values x_ends x_types x_operands x_targets x_cellShape x_cellLabel x_cellOne x_cellTwo x_cellThree x_scopeValue x_scopeOuter x_frameKind x_frameOne x_frameTwo x_frameThree := by
  intro d
  induction d with
  | zero =>
    intro i e nd h
    exact br_t (nI_le (a := 10) (by omega) (by omega)) (P nd (fun j hj => h j (by omega)))
  | succ d ih =>
    intro i e nd h
    refine br_f (nI_ge (b := 10) (by omega) (by decide)) ?_
    rw [nI_clamp (show i < 2 ^ 31 by omega)]
    refine And.intro (vp_in_nI (by omega) (by decide)) (nm_e (nm_r (nI_1 i) (ih (i + 1) (by omega) _ ?_)))
    intro j hj
    by_cases c : j = i
    · subst c; exact pk_us
    · rw [pk_un c]; exact h j (by omega)
theorem gr_y0 {post : SY → Prop} {y_parts y_count y_place y_where y_values y_variables y_waits y_at y_world y_steps y_blame y_result y_given : Int32} {y_ty y_part y_kind y_end y_state y_with y_runKind y_runEnd y_runWith y_sort y_one y_two y_from y_to y_label y_held y_around y_waiting y_operand y_outer y_kept : Nat → Int32} (P : ∀ r : Nat → Int32, (∀ j, j < 10 → r (288 + 8 * j) = 2) → (∀ q, 368 ≤ q → r q = y_ty q) → post (y_parts, y_count, y_place, y_where, y_values, y_variables, y_waits, y_at, y_world, y_steps, y_blame, y_result, y_given, r, y_part, y_kind, y_end, y_state, y_with, y_runKind, y_runEnd, y_runWith, y_sort, y_one, y_two, y_from, y_to, y_label, y_held, y_around, y_waiting, y_operand, y_outer, y_kept)) : ∀ d i, i + d = 10 → ∀ r : Nat → Int32, (∀ j, j < i → r (288 + 8 * j) = 2) → (∀ q, 368 ≤ q → r q = y_ty q) → wY_init_262 post y_parts y_count y_place y_where y_values y_variables y_waits y_at y_world y_steps y_blame y_result y_given (d + 1) (nI i) r y_part y_kind y_end y_state y_with y_runKind y_runEnd y_runWith y_sort y_one y_two y_from y_to y_label y_held y_around y_waiting y_operand y_outer y_kept := by
  intro d
  induction d with
  | zero =>
    intro i e r h h'
    exact br_t (nI_le (a := 10) (by omega) (by omega)) (P r (fun j hj => h j (by omega)) h')
  | succ d ih =>
    intro i e r h h'
    have ei : (288 : Int32) + 8 * nI i = nI (288 + 8 * i) := by
      rw [show (8 : Int32) * nI i = nI (8 * i) from pk_mul 8 _]
      exact nI_add 288 _
    refine br_f (nI_ge (b := 10) (by omega) (by decide)) ?_
    rw [ei, nI_clamp (show 288 + 8 * i < 2 ^ 31 by omega)]
    refine And.intro (vp_in_nI (by omega) (by decide)) (nm_e (nm_r (nI_1 i) (ih (i + 1) (by omega) _ ?_ ?_)))
    · intro j hj
      by_cases c : j = i
      · subst c; exact pk_us
      · rw [pk_un (by omega)]; exact h j (by omega)
    · intro q hq
      rw [pk_un (by omega)]
      exact h' q hq
theorem i_vc0 : wpX_init (fun u => wpY_init (fun v => i_Rel 0 u v)) := by
  have e : (32768 : Int32).toNatClampNeg = 32768 := by decide
  have n : ¬ (32768 : Int32) < 0 := by decide
  refine And.intro n (nm_r e (And.intro (Nat.le_refl _) (And.intro n (nm_r e (And.intro (Nat.le_refl _) (And.intro n (nm_r e (And.intro (Nat.le_refl _) (And.intro n (nm_r e (And.intro (Nat.le_refl _) (Exists.intro 11 ?_))))))))))))
  refine gr_x0 (x_named := fun _ => 0) ?_ 10 0 rfl _ (fun j hj => absurd hj (Nat.not_lt_zero _))
  intro nd hnd
  refine nm_e (nm_e (nm_e (nm_e (nm_e (nm_e (nm_e (nm_e (Exists.intro 11 ?_))))))))
  refine gr_y0 ?_ 10 0 rfl _ (fun j hj => absurd hj (Nat.not_lt_zero _)) (fun q _ => rfl)
  intro r h1 h2
  have L2 := gs_TY0 2 (by decide)
  have rq : ∀ q, 368 ≤ q → r q = _ := h2
  refine ⟨rfl, ⟨rfl, rfl, rfl, rfl⟩, ⟨0, fun _ => 0, by decide, rfl, rfl, rfl, fun _ => show (0 : Nat) < 5 by decide, fun j hj => absurd hj (Nat.not_lt_zero _), fun _ _ => rfl⟩, ⟨fun _ => 0, fun _ => 0, fun _ => .leaf 2, 0, rfl, rfl, ⟨by decide, fun _ => L2, fun n hn => hnd n hn, fun i hi => absurd hi (Nat.not_lt_zero _)⟩, ⟨by decide, fun _ => L2, fun n hn => h1 n hn, ?_, fun i hi => absurd hi (Nat.not_lt_zero _)⟩⟩, rfl, rfl, rfl, Or.inr ⟨by decide, rfl⟩⟩
  refine ⟨?_, ?_, ?_, ?_, ?_, ?_, ?_, ?_, ?_⟩
  · rw [h2 _ (by decide)]; rfl
  · rw [h2 _ (by decide)]; rfl
  · rw [h2 _ (by decide)]; rfl
  · rw [h2 _ (by decide)]; rfl
  · rw [h2 _ (by decide)]; rfl
  · rw [h2 _ (by decide)]; rfl
  · rw [h2 _ (by decide)]; rfl
  · rw [h2 _ (by decide)]; rfl
  · rw [h2 _ (by decide)]; rfl
end
section
/-! ===== 40: name ===== -/
/-- the tokens of a type as a term in front notation -/
def gr_kd (pp : Nat → Nat) (k : Nat) : Nat := if 3 ≤ pp k then 4 else 0
theorem gr_ar (pp : Nat → Nat) (k : Nat) : gs_ar (gr_kd pp k) = if 3 ≤ pp k then 2 else 0 := by
  unfold gr_kd
  split <;> rfl
theorem gr_parse {pp : Nat → Nat} {pc : Nat} (h5 : ∀ j, pp j < 5) (W : gs_WF (gr_kd pp) pc) : ∀ n i, i < pc → pc ≤ i + n → ∃ t, gd_vt t ∧ gd_Sp (fun k => nI (pp k)) t i ∧ i + gd_sz t = gs_en (gr_kd pp) pc i := by
  intro n
  induction n with
  | zero => intro i h1 h2; omega
  | succ n ih =>
    intro i h1 h2
    have ar := gr_ar pp i
    have p5 := h5 i
    by_cases c : 3 ≤ pp i
    · rw [if_pos c] at ar
      have o0 := gs_op_lt W h1 (k := 0) (by omega)
      have o1 := gs_op_lt W h1 (k := 1) (by omega)
      obtain ⟨l, vl, sl, zl⟩ := ih (i + 1) o0.2 (by omega)
      obtain ⟨r, vr, sr, zr⟩ := ih (gs_op (gs_en (gr_kd pp) pc) i 1) o1.2 (by omega)
      have e1 : gs_op (gs_en (gr_kd pp) pc) i 1 = i + 1 + gd_sz l := zl.symm
      have e2 : gs_en (gr_kd pp) pc i = gs_en (gr_kd pp) pc (gs_op (gs_en (gr_kd pp) pc) i 1) := by
        rw [← gs_op_end W h1, ar]
        rfl
      rw [e1] at sr zr
      refine ⟨.branch (pp i) l r, ⟨by omega, vl, vr⟩, ⟨rfl, sl, sr⟩, ?_⟩
      rw [e2, e1, ← zr]
      simp only [gd_sz]
      omega
    · rw [if_neg c] at ar
      refine ⟨.leaf (pp i), by simp only [gd_vt]; omega, rfl, ?_⟩
      rw [← gs_op_end W h1, ar]
      rfl
/-- the packed number of the tokens is that of the type -/
theorem gr_pk_div {pp : Nat → Nat} (h5 : ∀ j, pp j < 5) : ∀ n j, j < n → gr_pk pp n / 8 ^ j % 8 = pp j := by
  intro n
  induction n with
  | zero => intro j h; omega
  | succ n ih =>
    intro j h
    have p8 : 0 < 8 ^ j := Nat.pow_pos (by decide)
    show (gr_pk pp n + 8 ^ n * pp n) / 8 ^ j % 8 = pp j
    by_cases c : j = n
    · subst c
      rw [Nat.add_mul_div_left _ _ p8, Nat.div_eq_of_lt (gr_pk_lt h5 j), Nat.zero_add]
      exact Nat.mod_eq_of_lt (by have := h5 j; omega)
    · have e : 8 ^ n * pp n = 8 ^ j * (8 * (8 ^ (n - j - 1) * pp n)) := by
        rw [← Nat.mul_assoc 8, ← Nat.pow_succ', ← Nat.mul_assoc, ← Nat.pow_add]
        rw [show j + (n - j - 1).succ = n by omega]
      rw [e, Nat.add_mul_div_left _ _ p8, Nat.add_mul_mod_self_left]
      exact ih j (by omega)
theorem gr_pk_z {pp : Nat → Nat} {pc : Nat} (h5 : ∀ j, pp j < 5) (hz : ∀ j, pc ≤ j → pp j = 0) (j : Nat) : gr_pk pp pc / 8 ^ j % 8 = pp j := by
  by_cases c : j < pc
  · exact gr_pk_div h5 pc j c
  · rw [Nat.div_eq_of_lt (Nat.lt_of_lt_of_le (gr_pk_lt h5 pc) (Nat.pow_le_pow_right (by decide) (by omega))), hz j (by omega)]
theorem gr_en_pk {pp : Nat → Nat} (h5 : ∀ j, pp j < 5) : ∀ (t : Lean.RArray Nat) (i : Nat), gd_vt t → gd_Sp (fun k => nI (pp k)) t i → gr_pk pp (i + gd_sz t) = gr_pk pp i + 8 ^ i * gd_en t := by
  intro t
  induction t with
  | leaf n =>
    intro i hv hs
    simp only [gd_vt] at hv
    have e : nI (pp i) = nI n := hs
    have e' := (nI_eq (by have := h5 i; omega) (by omega)).mp e
    show gr_pk pp i + 8 ^ i * pp i = _
    rw [e']
    rfl
  | branch h l r ihl ihr =>
    intro i hv hs
    simp only [gd_vt] at hv
    have hh := gd_h8 hv.1
    have e : nI (pp i) = nI h := hs.1
    have e' := (nI_eq (by have := h5 i; omega) (by omega)).mp e
    have a := ihl (i + 1) hv.2.1 hs.2.1
    have b := ihr (i + 1 + gd_sz l) hv.2.2 hs.2.2
    show gr_pk pp (i + (1 + gd_sz l + gd_sz r)) = _
    rw [show i + (1 + gd_sz l + gd_sz r) = i + 1 + gd_sz l + gd_sz r by omega, b, a]
    show gr_pk pp i + 8 ^ i * pp i + 8 ^ (i + 1) * gd_en l + 8 ^ (i + 1 + gd_sz l) * gd_en r = gr_pk pp i + 8 ^ i * (h + 8 * (gd_en l + 8 ^ gd_sz l * gd_en r))
    rw [e', Nat.mul_add, ← Nat.mul_assoc (8 ^ i) 8, show 8 ^ i * 8 = 8 ^ (i + 1) from rfl, Nat.mul_add, ← Nat.mul_assoc, ← Nat.pow_add]
    omega
theorem gr_te {post : Int32 → Prop} {pp : Nat → Nat} {pc s : Nat} (hs : s < 2 ^ 31) (p7 : pc ≤ 7) (h5 : ∀ j, pp j < 5) (ht : ∀ j, s / 8 ^ j % 8 = pp j) (P : gs_WF (gr_kd pp) pc → post (nI pc)) (Q : ¬ gs_WF (gr_kd pp) pc → ∀ e, e ≤ 8 → e ≠ pc → post (nI e)) : ∀ d k, k + d = 7 → (∀ j, j < k → 0 < gs_D (gr_kd pp) j) → wX_typeEnd_4 post (nI s) (d + 1) (nI (gs_D (gr_kd pp) k)) (nI k) := by
  have fin : ∀ k, k ≤ 7 → (∀ j, j < k → 0 < gs_D (gr_kd pp) j) → gs_D (gr_kd pp) k = 0 → post (nI k) := by
    intro k k7 h z
    by_cases c : k = pc
    · subst c; exact P ⟨h, z⟩
    · refine Q (fun W => ?_) k (by omega) c
      rcases Nat.lt_or_ge k pc with lt | ge
      · have := W.1 k lt; omega
      · have a := h pc (by omega)
        have b := W.2
        omega
  intro d
  induction d with
  | zero =>
    intro k e h
    have e' : k = 7 := by omega
    subst e'
    have dl := gs_D_le (gr_kd pp) 7
    refine br_t (by decide) (pk_le (gs_D (gr_kd pp) 7) 0 (fun z => fin 7 (Nat.le_refl _) h (by omega)) (fun z => Q (fun W => ?_) 8 (Nat.le_refl _) (by omega)))
    have b := W.2
    rcases Nat.lt_or_ge pc 7 with lt | ge
    · have := h pc lt; omega
    · have e7 : pc = 7 := by omega
      rw [e7] at b; omega
  | succ d ih =>
    intro k e h
    have dl := gs_D_le (gr_kd pp) k
    have p5 := h5 k
    refine br_f (nI_ge (b := 7) (by omega) (by decide)) (pk_le (gs_D (gr_kd pp) k) 0 (fun z => br_t (nI_le (b := 0) z (by decide)) (fin k (by omega) h (by omega))) (fun z => ?_))
    rw [gx_tok hs (show k < 8 by omega), ht k]
    have ar := gr_ar pp k
    have next : (∀ j, j < k + 1 → 0 < gs_D (gr_kd pp) j) := by
      intro j hj
      by_cases c : j = k
      · rw [c]; exact z
      · exact h j (by omega)
    have ed : gs_D (gr_kd pp) (k + 1) = gs_D (gr_kd pp) k + gs_ar (gr_kd pp k) - 1 := rfl
    refine pk_lt (pp k) 3 (fun c => ?_) (fun c => ?_)
    · rw [if_neg (by omega)] at ar
      have e1 : nI (gs_D (gr_kd pp) k) + (-1) = nI (gs_D (gr_kd pp) (k + 1)) := by
        obtain ⟨m, hm⟩ : ∃ m, gs_D (gr_kd pp) k = m + 1 := ⟨gs_D (gr_kd pp) k - 1, by omega⟩
        rw [hm, pk_m1]
        exact congrArg nI (by omega)
      exact nm_r e1 (nm_r (nI_1 k) (ih (k + 1) (by omega) next))
    · rw [if_pos c] at ar
      have e1 : nI (gs_D (gr_kd pp) k) + 1 = nI (gs_D (gr_kd pp) (k + 1)) := by
        rw [nI_1]
        exact congrArg nI (by omega)
      exact nm_r e1 (nm_r (nI_1 k) (ih (k + 1) (by omega) next))
section
variable {y_parts y_count y_place y_where y_values y_variables y_waits y_at y_world y_steps y_blame y_result y_given : Int32} {y_ty y_part y_kind y_end y_state y_with y_runKind y_runEnd y_runWith y_sort y_one y_two y_from y_to y_label y_held y_around y_waiting y_operand y_outer y_kept : Nat → Int32}
theorem gr_y72 {post : Int32 → SY → Prop} {pp : Nat → Nat} {pc n : Nat} (p7 : pc ≤ 7) (n10 : n < 10) (h5 : ∀ j, pp j < 5) (hp : ∀ j, j < pc → y_part j = nI (pp j)) (P : ∀ r : Nat → Int32, (∀ k, k < pc → r (288 + 8 * n + k) = nI (pp k)) → (∀ q, (q < 288 + 8 * n ∨ 288 + 8 * n + pc ≤ q) → r q = y_ty q) → post 0 (y_parts, y_count, y_place, y_where, y_values, y_variables, y_waits, y_at, y_world, y_steps, y_blame, y_result, y_given, r, y_part, y_kind, y_end, y_state, y_with, y_runKind, y_runEnd, y_runWith, y_sort, y_one, y_two, y_from, y_to, y_label, y_held, y_around, y_waiting, y_operand, y_outer, y_kept)) : ∀ d k, k + d = pc → ∀ r : Nat → Int32, (∀ q, q < k → r (288 + 8 * n + q) = nI (pp q)) → (∀ q, (q < 288 + 8 * n ∨ 288 + 8 * n + pc ≤ q) → r q = y_ty q) → wY_name_72 post (nI n) (nI pc) y_parts y_count y_place y_where y_values y_variables y_waits y_at y_world y_steps y_blame y_result y_given (d + 1) (nI k) r y_part y_kind y_end y_state y_with y_runKind y_runEnd y_runWith y_sort y_one y_two y_from y_to y_label y_held y_around y_waiting y_operand y_outer y_kept := by
  intro d
  induction d with
  | zero =>
    intro k e r h h'
    have e' : k = pc := by omega
    subst e'
    exact br_t (Int32.le_refl _) (P r h h')
  | succ d ih =>
    intro k e r h h'
    have p5 := h5 k
    have ei : (288 : Int32) + 8 * nI n + nI k = nI (288 + 8 * n + k) := by
      rw [show (8 : Int32) * nI n = nI (8 * n) from pk_mul 8 _, show (288 : Int32) + nI (8 * n) = nI (288 + 8 * n) from nI_add 288 _, nI_add]
    refine br_f (nI_ge (by omega) (by omega)) ?_
    rw [ei, nI_clamp (show 288 + 8 * n + k < 2 ^ 31 by omega), nI_clamp (show k < 2 ^ 31 by omega), hp k (by omega), gd_nb (pp k) (by omega)]
    refine And.intro (vp_in_nI (by omega) (by decide)) (And.intro (vp_in_nI (by omega) (by decide)) (nm_e (nm_r (nI_1 k) (ih (k + 1) (by omega) _ ?_ ?_))))
    · intro q hq
      by_cases c : q = k
      · subst c; exact pk_us
      · rw [pk_un (by omega)]; exact h q (by omega)
    · intro q hq
      rw [pk_un (by omega)]
      exact h' q hq
theorem gr_y26 {post : Int32 → SY → Prop} {pp : Nat → Nat} {pc : Nat} {x1 : Int32} (p7 : pc ≤ 7) (h5 : ∀ j, pp j < 5) (hp : ∀ j, j < pc → y_part j = nI (pp j)) (P : gs_WF (gr_kd pp) pc → ∃ n, wY_name_72 post x1 (nI pc) y_parts y_count y_place y_where y_values y_variables y_waits y_at y_world y_steps y_blame y_result y_given n 0 y_ty y_part y_kind y_end y_state y_with y_runKind y_runEnd y_runWith y_sort y_one y_two y_from y_to y_label y_held y_around y_waiting y_operand y_outer y_kept) (Q : ¬ gs_WF (gr_kd pp) pc → post 1 (y_parts, y_count, y_place, y_where, y_values, y_variables, y_waits, y_at, y_world, y_steps, y_blame, y_result, y_given, y_ty, y_part, y_kind, y_end, y_state, y_with, y_runKind, y_runEnd, y_runWith, y_sort, y_one, y_two, y_from, y_to, y_label, y_held, y_around, y_waiting, y_operand, y_outer, y_kept)) : ∀ d k, k + d = pc → (∀ j, j < k → 0 < gs_D (gr_kd pp) j) → wY_name_26 post x1 (nI pc) y_parts y_count y_place y_where y_values y_variables y_waits y_at y_world y_steps y_blame y_result y_given y_ty y_part y_kind y_end y_state y_with y_runKind y_runEnd y_runWith y_sort y_one y_two y_from y_to y_label y_held y_around y_waiting y_operand y_outer y_kept (d + 1) (nI (gs_D (gr_kd pp) k)) (nI k) := by
  intro d
  induction d with
  | zero =>
    intro k e h
    have e' : k = pc := by omega
    subst e'
    have dl := gs_D_le (gr_kd pp) k
    exact br_t (Int32.le_refl _) (pk_le (gs_D (gr_kd pp) k) 0 (fun z => P ⟨h, by omega⟩) (fun z => Q (fun W => by have := W.2; omega)))
  | succ d ih =>
    intro k e h
    have dl := gs_D_le (gr_kd pp) k
    have p5 := h5 k
    refine br_f (nI_ge (by omega) (by omega)) (pk_eq (gs_D (gr_kd pp) k) 0 (fun z => Q (fun W => by have := W.1 k (by omega); omega)) (fun z => ?_))
    rw [nI_clamp (show k < 2 ^ 31 by omega), hp k (by omega)]
    have ar := gr_ar pp k
    have next : (∀ j, j < k + 1 → 0 < gs_D (gr_kd pp) j) := by
      intro j hj
      by_cases c : j = k
      · rw [c]; omega
      · exact h j (by omega)
    have ed : gs_D (gr_kd pp) (k + 1) = gs_D (gr_kd pp) k + gs_ar (gr_kd pp k) - 1 := rfl
    refine And.intro (vp_in_nI (by omega) (by decide)) (pk_le (pp k) 2 (fun c => ?_) (fun c => ?_))
    · rw [if_neg (by omega)] at ar
      have e1 : nI (gs_D (gr_kd pp) k) + (-1) = nI (gs_D (gr_kd pp) (k + 1)) := by
        obtain ⟨m, hm⟩ : ∃ m, gs_D (gr_kd pp) k = m + 1 := ⟨gs_D (gr_kd pp) k - 1, by omega⟩
        rw [hm, pk_m1]
        exact congrArg nI (by omega)
      exact nm_r e1 (nm_r (nI_1 k) (ih (k + 1) (by omega) next))
    · rw [if_pos (by omega)] at ar
      have e1 : nI (gs_D (gr_kd pp) k) + 1 = nI (gs_D (gr_kd pp) (k + 1)) := by
        rw [nI_1]
        exact congrArg nI (by omega)
      exact nm_r e1 (nm_r (nI_1 k) (ih (k + 1) (by omega) next))
end
theorem gy_H_ty {ty r : Nat → Int32} {s : gm_S} {E : gy_D} (h : gy_H ty s E) (e : ∀ q, 368 ≤ q → r q = ty q) : gy_H r s E := by
  obtain ⟨y_values, y_variables, y_waits, y_at, y_world, y_steps, y_blame, y_result, y_sort, y_one, y_two, y_from, y_to, y_label, y_held, y_around, y_waiting, y_operand, y_outer, y_kept⟩ := E
  obtain ⟨⟨v0, v5, vc⟩, h1⟩ := h
  refine ⟨⟨v0, v5, fun c hc => ?_⟩, h1⟩
  obtain ⟨a1, a2, a3, a4, a5, a6⟩ := vc c hc
  refine ⟨a1, a2, a3, a4, a5, fun hk => ?_⟩
  obtain ⟨b1, b2, b3, b4, b5, i, j, b6, b7, b8, b9, b10, b11, b12⟩ := a6 hk
  exact ⟨b1, b2, b3, b4, b5, i, j, b6, b7, gd_sp_same b8 (fun k _ => e _ (by have := b10.1; omega)), gd_sp_same b9 (fun k _ => e _ (by have := b11.1; omega)), b10, b11, b12⟩
theorem gr_V_ty {xr : Int32} {ty r : Nat → Int32} {D : gx_D} {E : gy_D} (h : gr_V xr ty D E) (e : ∀ q, 368 ≤ q → r q = ty q) : gr_V xr r D E := by
  obtain ⟨P, cn, G, s, v, a, b, c, d, f⟩ := h
  exact ⟨P, cn, G, s, v, a, b, c, gy_H_ty d e, f⟩
theorem i_vc_name {k : Nat} {u : SX} {v : SY} (I : i_Rel k u v) (hk : k + 3 ≤ 1536) (v1 : Int32) : wpX_name (fun r u' => wpY_name (fun r' v' => r' = r ∧ i_Rel (k + 3) u' v') v v1) u v1 := by
  have I' := i_up I
  obtain ⟨x_typeDraft, x_typeCount, x_count, x_wrongAt, x_keptPlace, x_cellCount, x_scopeCount, x_frameCount, x_mode, x_atToken, x_scope, x_current, x_callee, x_side, x_ending, x_faultLabel, x_stepsTaken, x_runVerdict, x_runBlame, x_result, x_named, x_kinds, x_values, x_ends, x_types, x_operands, x_targets, x_cellShape, x_cellLabel, x_cellOne, x_cellTwo, x_cellThree, x_scopeValue, x_scopeOuter, x_frameKind, x_frameOne, x_frameTwo, x_frameThree, x_nKind, x_nOne, x_nTwo, x_nThree⟩ := u
  obtain ⟨y_parts, y_count, y_place, y_where, y_values, y_variables, y_waits, y_at, y_world, y_steps, y_blame, y_result, y_given, y_ty, y_part, y_kind, y_end, y_state, y_with, y_runKind, y_runEnd, y_runWith, y_sort, y_one, y_two, y_from, y_to, y_label, y_held, y_around, y_waiting, y_operand, y_outer, y_kept⟩ := v
  by_cases n0 : v1 < 0
  · refine br_t n0 ?_
    dsimp only
    unfold wpY_name
    exact br_t n0 (br_f (show ¬ (1 : Int32) = 0 by decide) ⟨rfl, I'⟩)
  by_cases n10 : v1 < 10
  rotate_left
  · refine br_f n0 (br_f n10 ?_)
    dsimp only
    unfold wpY_name
    exact br_f n0 (br_f n10 (br_f (show ¬ (1 : Int32) = 0 by decide) ⟨rfl, I'⟩))
  obtain ⟨n, hn, rfl⟩ : ∃ c : Nat, c < 10 ∧ v1 = nI c := by
    obtain ⟨j, hj, e⟩ := nI_of n0
    refine ⟨j, ?_, e⟩
    rw [e] at n10
    have : nI j < nI 10 := n10
    rw [nI_ltI hj (by decide)] at this
    exact this
  obtain ⟨_, hl, ⟨pc, pp, p7, e1, e2, e3, q1, q2, q3⟩, ⟨kd, vl, nm, cnt, d1, d2, dx, dy⟩, h4, h5, h6, h7⟩ := I
  subst e1 e2 e3
  have plt := gr_pk_lt q1 pc
  have p8 : 8 ^ pc ≤ 8 ^ 7 := Nat.pow_le_pow_right (by decide) p7
  have p87 : (8 : Nat) ^ 7 = 2097152 := by decide
  have dr0 : gr_D 0 0 0 y_part := ⟨0, fun _ => 0, by decide, rfl, rfl, rfl, fun _ => show (0 : Nat) < 5 by decide, fun j hj => absurd hj (Nat.not_lt_zero _), fun _ _ => rfl⟩
  have yw : ∀ (R : Int32 → SY → Prop), (gs_WF (gr_kd pp) pc → ∃ m, wY_name_72 R (nI n) (nI pc) 0 y_count y_place y_where y_values y_variables y_waits y_at y_world y_steps y_blame y_result y_given m 0 y_ty y_part y_kind y_end y_state y_with y_runKind y_runEnd y_runWith y_sort y_one y_two y_from y_to y_label y_held y_around y_waiting y_operand y_outer y_kept) → (¬ gs_WF (gr_kd pp) pc → R 1 (0, y_count, y_place, y_where, y_values, y_variables, y_waits, y_at, y_world, y_steps, y_blame, y_result, y_given, y_ty, y_part, y_kind, y_end, y_state, y_with, y_runKind, y_runEnd, y_runWith, y_sort, y_one, y_two, y_from, y_to, y_label, y_held, y_around, y_waiting, y_operand, y_outer, y_kept)) → wpY_name R (nI pc, y_count, y_place, y_where, y_values, y_variables, y_waits, y_at, y_world, y_steps, y_blame, y_result, y_given, y_ty, y_part, y_kind, y_end, y_state, y_with, y_runKind, y_runEnd, y_runWith, y_sort, y_one, y_two, y_from, y_to, y_label, y_held, y_around, y_waiting, y_operand, y_outer, y_kept) (nI n) := by
    intro R a b
    unfold wpY_name
    exact br_f (nI_pos (by omega)) (br_t (nI_lt (b := 10) hn (by decide)) (br_t rfl (Exists.intro (pc + 1) (gr_y26 (y_parts := 0) p7 q1 q2 a b pc 0 (Nat.zero_add _) (fun j hj => absurd hj (Nat.not_lt_zero _))))))
  refine br_f n0 (br_t n10 (Exists.intro 8 (gr_te (by omega) p7 q1 (gr_pk_z q1 q3) (fun W => ?_) (fun W e e8 ne => ?_) 7 0 rfl (fun j hj => absurd hj (Nat.not_lt_zero _)))))
  · have pos : 0 < pc := by
      rcases Nat.eq_zero_or_pos pc with z | z
      · subst z
        exact absurd (show (1 : Nat) = 0 from W.2) (by decide)
      · exact z
    obtain ⟨t, vt, st, zt⟩ := gr_parse q1 W pc 0 pos (by omega)
    have en0 : gs_en (gr_kd pp) pc 0 = pc := by
      have e := gs_en_ok W pos
      have d1 : gs_D (gr_kd pp) 0 = 1 := rfl
      have d2 := e.2.2.1
      rcases Nat.lt_or_ge (gs_en (gr_kd pp) pc 0) pc with lt | ge
      · have := W.1 _ lt; omega
      · have := e.2.1; omega
    rw [Nat.zero_add, en0] at zt
    have tt : gd_TY t := ⟨vt, by omega⟩
    have et : gr_pk pp pc = gd_en t := by
      have := gr_en_pk q1 t 0 vt st
      rw [Nat.zero_add, zt] at this
      show gr_pk pp pc = _
      rw [this]
      show 0 + 8 ^ 0 * gd_en t = _
      omega
    refine br_t rfl (br_f (show ¬ (1 : Int32) = 0 by decide) ?_)
    rw [nI_clamp (show n < 2 ^ 31 by omega)]
    refine And.intro (vp_in_nI hn (by decide)) (nm_e (br_f (show ¬ (1 : Int32) = 0 by decide) ?_))
    refine yw _ (fun _ => Exists.intro (pc + 1) ?_) (fun z => absurd W z)
    refine gr_y72 (y_parts := 0) p7 hn q1 q2 ?_ pc 0 (Nat.zero_add _) y_ty (fun q hq => absurd hq (Nat.not_lt_zero _)) (fun q _ => rfl)
    intro r r1 r2
    have r368 : ∀ q, 368 ≤ q → r q = y_ty q := fun q hq => r2 q (by omega)
    refine ⟨rfl, rfl, hl, dr0, ⟨kd, vl, fun j => if j = n then t else nm j, cnt, d1, d2, ⟨dx.1, ?_, ?_, dx.2.2.2⟩, ⟨dy.1, ?_, ?_, ?_, dy.2.2.2.2⟩⟩, h4, h5, h6, ?_⟩
    · intro j
      show gd_TY (if j = n then t else nm j)
      by_cases e : j = n
      · rw [if_pos e]; exact tt
      · rw [if_neg e]; exact dx.2.1 j
    · intro j hj
      show upd x_named n (nI (gr_pk pp pc)) j = nI (gd_en (if j = n then t else nm j))
      by_cases e : j = n
      · rw [if_pos e, e, ← et]; exact pk_us
      · rw [if_neg e, pk_un e]; exact dx.2.2.1 j hj
    · intro j
      show gd_TY (if j = n then t else nm j)
      by_cases e : j = n
      · rw [if_pos e]; exact tt
      · rw [if_neg e]; exact dy.2.1 j
    · intro j hj
      show gd_Sp r (if j = n then t else nm j) (288 + 8 * j)
      by_cases e : j = n
      · rw [if_pos e, e]
        refine gd_sp_cp t 0 (288 + 8 * n) st (fun q hq => ?_)
        rw [r1 q (by omega), Nat.zero_add]
      · rw [if_neg e]
        have zj := (dy.2.1 j).2
        exact gd_sp_same (dy.2.2.1 j hj) (fun q hq => r2 _ (by omega))
    · obtain ⟨a, b, c, d, e, f, g, i, j⟩ := dy.2.2.2.1
      exact ⟨(r368 _ (by decide)).trans a, (r368 _ (by decide)).trans b, (r368 _ (by decide)).trans c, (r368 _ (by decide)).trans d, (r368 _ (by decide)).trans e, (r368 _ (by decide)).trans f, (r368 _ (by decide)).trans g, (r368 _ (by decide)).trans i, (r368 _ (by decide)).trans j⟩
    · rcases h7 with ⟨a, b, c⟩ | c
      · exact Or.inl ⟨a, b, gr_V_ty c r368⟩
      · exact Or.inr c
  · have nW : ¬ nI e = nI pc := fun z => ne ((nI_eq (by omega) (by omega)).mp z)
    refine br_f nW (br_t rfl (br_t rfl ?_))
    exact yw _ (fun z => absurd z W) (fun _ => ⟨rfl, rfl, hl, dr0, ⟨kd, vl, nm, cnt, d1, d2, dx, dy⟩, h4, h5, h6, h7⟩)
end
section
/-! ===== 41: check and typeAt ===== -/
theorem gs_FA_uniq {kd : Nat → Nat} {cnt i j : Nat} (a : gs_FA kd cnt i) (b : gs_FA kd cnt j) : i = j := by
  rcases Nat.lt_trichotomy i j with c | c | c
  · have := b.1 i c
    rcases a.2 with d | d
    · omega
    · rcases b.2 with e | e <;> omega
  · exact c
  · have := a.1 j c
    rcases b.2 with d | d
    · omega
    · rcases a.2 with e | e <;> omega
theorem gd_sp_tok2 {r r' : Nat → Int32} : ∀ (t : Lean.RArray Nat) (i j : Nat), gd_Sp r t i → gd_Sp r' t j → ∀ k, k < gd_sz t → r (i + k) = r' (j + k) := by
  intro t
  induction t with
  | leaf n =>
    intro i j a b k hk
    simp only [gd_sz] at hk
    have e : k = 0 := by omega
    subst e
    exact (show r i = nI n from a).trans (show r' j = nI n from b).symm
  | branch h l x ihl ihr =>
    intro i j a b k hk
    simp only [gd_sz] at hk
    by_cases h0 : k = 0
    · subst h0
      exact a.1.trans b.1.symm
    · by_cases h1 : k ≤ gd_sz l
      · have := ihl (i + 1) (j + 1) a.2.1 b.2.1 (k - 1) (by omega)
        rw [show i + 1 + (k - 1) = i + k by omega, show j + 1 + (k - 1) = j + k by omega] at this
        exact this
      · have := ihr (i + 1 + gd_sz l) (j + 1 + gd_sz l) a.2.2 b.2.2 (k - 1 - gd_sz l) (by omega)
        rw [show i + 1 + gd_sz l + (k - 1 - gd_sz l) = i + k by omega, show j + 1 + gd_sz l + (k - 1 - gd_sz l) = j + k by omega] at this
        exact this
/-- both sides find the same -/
theorem gr_both {kd : Nat → Nat} {vl : Nat → Int32} {nm : Nat → Lean.RArray Nat} {cnt : Nat} {x_typeDraft x_typeCount x_count x_wrongAt x_keptPlace x_cellCount x_scopeCount x_frameCount x_mode x_atToken x_scope x_current x_callee x_side x_ending x_faultLabel x_stepsTaken x_runVerdict x_runBlame x_result : Int32} {x_named x_kinds x_values x_ends x_types x_operands x_targets x_cellShape x_cellLabel x_cellOne x_cellTwo x_cellThree x_scopeValue x_scopeOuter x_frameKind x_frameOne x_frameTwo x_frameThree : Nat → Int32} {y_parts y_count y_place y_where y_values y_variables y_waits y_at y_world y_steps y_blame y_result y_given : Int32} {y_ty y_part y_kind y_end y_state y_with y_runKind y_runEnd y_runWith y_sort y_one y_two y_from y_to y_label y_held y_around y_waiting y_operand y_outer y_kept : Nat → Int32} {PX : Int32 → SX → Prop} (dx : gx_DR kd vl nm cnt x_named x_kinds x_values) (dy : gy_DR kd vl nm cnt y_ty y_kind y_with)
    (B : ∀ (c i : Nat) e o t g, c ≠ 0 → c < 5 → (∀ PY : Int32 → SY → Prop, (∀ e' st r, (∀ q, 288 ≤ q → r q = y_ty q) → PY (nI c) (y_parts, nI cnt, y_place, nI i, y_values, y_variables, y_waits, y_at, y_world, y_steps, y_blame, y_result, y_given, r, y_part, y_kind, e', st, y_with, y_runKind, y_runEnd, y_runWith, y_sort, y_one, y_two, y_from, y_to, y_label, y_held, y_around, y_waiting, y_operand, y_outer, y_kept)) → wpY_examine PY (y_parts, nI cnt, y_place, y_where, y_values, y_variables, y_waits, y_at, y_world, y_steps, y_blame, y_result, y_given, y_ty, y_part, y_kind, y_end, y_state, y_with, y_runKind, y_runEnd, y_runWith, y_sort, y_one, y_two, y_from, y_to, y_label, y_held, y_around, y_waiting, y_operand, y_outer, y_kept)) → PX (nI c) (x_typeDraft, x_typeCount, nI cnt, nI i, x_keptPlace, x_cellCount, x_scopeCount, x_frameCount, x_mode, x_atToken, x_scope, x_current, x_callee, x_side, x_ending, x_faultLabel, x_stepsTaken, x_runVerdict, x_runBlame, x_result, x_named, x_kinds, x_values, e, t, o, g, x_cellShape, x_cellLabel, x_cellOne, x_cellTwo, x_cellThree, x_scopeValue, x_scopeOuter, x_frameKind, x_frameOne, x_frameTwo, x_frameThree, 32768, 32768, 32768, 32768))
    (C : ∀ e o t g, gs_WF kd cnt → (∀ i, i < cnt → (gs_R kd vl nm cnt i).1 = 0) → gx_P (gs_P kd vl nm cnt) x_kinds x_values t o g → (∀ PY : Int32 → SY → Prop, (∀ e' st r w, (∀ j, j < cnt → e' j = nI (gs_en kd cnt j) ∧ gd_Sp r (gs_R kd vl nm cnt j).2 (8 * j)) → (∀ q, 288 ≤ q → r q = y_ty q) → PY 0 (y_parts, nI cnt, y_place, w, y_values, y_variables, y_waits, y_at, y_world, y_steps, y_blame, y_result, y_given, r, y_part, y_kind, e', st, y_with, y_runKind, y_runEnd, y_runWith, y_sort, y_one, y_two, y_from, y_to, y_label, y_held, y_around, y_waiting, y_operand, y_outer, y_kept)) → wpY_examine PY (y_parts, nI cnt, y_place, y_where, y_values, y_variables, y_waits, y_at, y_world, y_steps, y_blame, y_result, y_given, y_ty, y_part, y_kind, y_end, y_state, y_with, y_runKind, y_runEnd, y_runWith, y_sort, y_one, y_two, y_from, y_to, y_label, y_held, y_around, y_waiting, y_operand, y_outer, y_kept)) → PX 0 (x_typeDraft, x_typeCount, nI cnt, -1, x_keptPlace, x_cellCount, x_scopeCount, x_frameCount, x_mode, x_atToken, x_scope, x_current, x_callee, x_side, x_ending, x_faultLabel, x_stepsTaken, x_runVerdict, x_runBlame, x_result, x_named, x_kinds, x_values, e, t, o, g, x_cellShape, x_cellLabel, x_cellOne, x_cellTwo, x_cellThree, x_scopeValue, x_scopeOuter, x_frameKind, x_frameOne, x_frameTwo, x_frameThree, 32768, 32768, 32768, 32768)) :
    wpX_judge PX (x_typeDraft, x_typeCount, nI cnt, x_wrongAt, x_keptPlace, x_cellCount, x_scopeCount, x_frameCount, x_mode, x_atToken, x_scope, x_current, x_callee, x_side, x_ending, x_faultLabel, x_stepsTaken, x_runVerdict, x_runBlame, x_result, x_named, x_kinds, x_values, x_ends, x_types, x_operands, x_targets, x_cellShape, x_cellLabel, x_cellOne, x_cellTwo, x_cellThree, x_scopeValue, x_scopeOuter, x_frameKind, x_frameOne, x_frameTwo, x_frameThree, 32768, 32768, 32768, 32768) := by
  refine gx_judge dx (fun i hF => ?_) (fun i e o t g W hi nz n4 sm => ?_) (fun e o t g W all hP => ?_)
  · refine B 1 i x_ends x_operands x_types x_targets (by decide) (by decide) (fun PY h => ?_)
    refine gy_examine dy (fun j hF' => ?_) (fun j e' st r W => (gs_WF_FA W hF).elim) (fun e' st r w W => (gs_WF_FA W hF).elim)
    have ej := gs_FA_uniq hF' hF
    subst ej
    exact h y_end y_state y_ty (fun q _ => rfl)
  · have cl := gs_code_lt (vl := vl) (nm := nm) W hi
    refine B _ i e o t g nz cl (fun PY h => ?_)
    refine gy_examine dy (fun j hF' => (gs_WF_FA W hF').elim) (fun j e' st r _ hj nz' n4' sm' hr => ?_) (fun e' st r w _ all => ?_)
    · have ej : j = i := by
        rcases Nat.lt_trichotomy j i with c | c | c
        · rcases sm j c with z | z
          · exact absurd z nz'
          · exact absurd z n4'
        · exact c
        · rcases sm' i c with z | z
          · exact absurd z nz
          · exact absurd z n4
      subst ej
      exact h e' st r hr
    · rcases all i hi with z | z
      · exact absurd z nz
      · exact absurd z n4
  · refine C e o t g W all hP (fun PY h => ?_)
    refine gy_examine dy (fun j hF' => (gs_WF_FA W hF').elim) (fun j e' st r _ hj nz' => absurd (all j hj) nz') (fun e' st r w _ _ hE hr => ?_)
    exact h e' st r w (fun j hj => ⟨(hE j hj).1, (hE j hj).2 (all j hj)⟩) hr
theorem i_vc_check {k : Nat} {u : SX} {v : SY} (I : i_Rel k u v) (hk : k + 3 ≤ 1536) : wpX_check (fun r u' => wpY_check (fun r' v' => r' = r ∧ i_Rel (k + 3) u' v') v) u := by
  obtain ⟨x_typeDraft, x_typeCount, x_count, x_wrongAt, x_keptPlace, x_cellCount, x_scopeCount, x_frameCount, x_mode, x_atToken, x_scope, x_current, x_callee, x_side, x_ending, x_faultLabel, x_stepsTaken, x_runVerdict, x_runBlame, x_result, x_named, x_kinds, x_values, x_ends, x_types, x_operands, x_targets, x_cellShape, x_cellLabel, x_cellOne, x_cellTwo, x_cellThree, x_scopeValue, x_scopeOuter, x_frameKind, x_frameOne, x_frameTwo, x_frameThree, x_nKind, x_nOne, x_nTwo, x_nThree⟩ := u
  obtain ⟨y_parts, y_count, y_place, y_where, y_values, y_variables, y_waits, y_at, y_world, y_steps, y_blame, y_result, y_given, y_ty, y_part, y_kind, y_end, y_state, y_with, y_runKind, y_runEnd, y_runWith, y_sort, y_one, y_two, y_from, y_to, y_label, y_held, y_around, y_waiting, y_operand, y_outer, y_kept⟩ := v
  obtain ⟨_, ⟨l1, l2, l3, l4⟩, hD, ⟨kd, vl, nm, cnt, d1, d2, dx, dy⟩, h4, h5, h6, h7⟩ := I
  subst l1 l2 l3 l4 d1 d2
  have h7' : ∀ r : Nat → Int32, (∀ q, 288 ≤ q → r q = y_ty q) → ((x_runVerdict = 0 ∧ y_given = 1 ∧ gr_V x_result r (x_cellCount, x_scopeCount, x_frameCount, x_mode, x_atToken, x_scope, x_current, x_callee, x_side, x_ending, x_faultLabel, x_stepsTaken, x_cellShape, x_cellLabel, x_cellOne, x_cellTwo, x_cellThree, x_scopeValue, x_scopeOuter, x_frameKind, x_frameOne, x_frameTwo, x_frameThree) (y_values, y_variables, y_waits, y_at, y_world, y_steps, y_blame, y_result, y_sort, y_one, y_two, y_from, y_to, y_label, y_held, y_around, y_waiting, y_operand, y_outer, y_kept)) ∨ (¬ x_runVerdict = 0 ∧ y_given = 0)) := by
    intro r hr
    rcases h7 with ⟨a, b, c⟩ | c
    · exact Or.inl ⟨a, b, gr_V_ty c (fun q hq => hr q (by omega))⟩
    · exact Or.inr c
  unfold wpX_check
  refine gr_both (x_count := 0) (y_parts := y_parts) (y_count := nI cnt) (y_place := y_place) (y_where := y_where) (y_values := y_values) (y_variables := y_variables) (y_waits := y_waits) (y_at := y_at) (y_world := y_world) (y_steps := y_steps) (y_blame := y_blame) (y_result := y_result) (y_given := y_given) (y_ty := y_ty) (y_part := y_part) (y_kind := y_kind) (y_end := y_end) (y_state := y_state) (y_with := y_with) (y_runKind := y_runKind) (y_runEnd := y_runEnd) (y_runWith := y_runWith) (y_sort := y_sort) (y_one := y_one) (y_two := y_two) (y_from := y_from) (y_to := y_to) (y_label := y_label) (y_held := y_held) (y_around := y_around) (y_waiting := y_waiting) (y_operand := y_operand) (y_outer := y_outer) (y_kept := y_kept) dx dy ?_ ?_
  · intro c i e o t g c0 c5 EX
    have nz : ¬ nI c = 0 := nI_ne0 (by omega) (by omega)
    refine br_f nz ?_
    dsimp only
    unfold wpY_check
    refine EX _ (fun e' st r hr => br_f nz ?_)
    exact ⟨rfl, rfl, ⟨rfl, rfl, rfl, rfl⟩, hD, ⟨kd, vl, nm, cnt, rfl, rfl, dx, gy_DR_r dy hr⟩, rfl, h5, h6, h7' r hr⟩
  · intro e o t g W all hP EX
    refine br_t rfl ?_
    dsimp only
    unfold wpY_check
    refine EX _ (fun e' st r w hE hr => br_t rfl ?_)
    exact ⟨rfl, rfl, ⟨rfl, rfl, rfl, rfl⟩, hD, ⟨kd, vl, nm, cnt, rfl, rfl, dx, gy_DR_r dy hr⟩, h4, h5, h6, h7' r hr⟩
theorem i_vc_typeAt {k : Nat} {u : SX} {v : SY} (I : i_Rel k u v) (hk : k + 3 ≤ 1536) (v1 : Int32) : wpX_typeAt (fun r u' => wpY_typeAt (fun r' v' => r' = r ∧ i_Rel (k + 3) u' v') v v1) u v1 := by
  obtain ⟨x_typeDraft, x_typeCount, x_count, x_wrongAt, x_keptPlace, x_cellCount, x_scopeCount, x_frameCount, x_mode, x_atToken, x_scope, x_current, x_callee, x_side, x_ending, x_faultLabel, x_stepsTaken, x_runVerdict, x_runBlame, x_result, x_named, x_kinds, x_values, x_ends, x_types, x_operands, x_targets, x_cellShape, x_cellLabel, x_cellOne, x_cellTwo, x_cellThree, x_scopeValue, x_scopeOuter, x_frameKind, x_frameOne, x_frameTwo, x_frameThree, x_nKind, x_nOne, x_nTwo, x_nThree⟩ := u
  obtain ⟨y_parts, y_count, y_place, y_where, y_values, y_variables, y_waits, y_at, y_world, y_steps, y_blame, y_result, y_given, y_ty, y_part, y_kind, y_end, y_state, y_with, y_runKind, y_runEnd, y_runWith, y_sort, y_one, y_two, y_from, y_to, y_label, y_held, y_around, y_waiting, y_operand, y_outer, y_kept⟩ := v
  obtain ⟨_, ⟨l1, l2, l3, l4⟩, hD, ⟨kd, vl, nm, cnt, d1, d2, dx, dy⟩, h4, h5, h6, h7⟩ := I
  subst l1 l2 l3 l4 d1 d2
  have h7' : ∀ r : Nat → Int32, (∀ q, 288 ≤ q → r q = y_ty q) → ((x_runVerdict = 0 ∧ y_given = 1 ∧ gr_V x_result r (x_cellCount, x_scopeCount, x_frameCount, x_mode, x_atToken, x_scope, x_current, x_callee, x_side, x_ending, x_faultLabel, x_stepsTaken, x_cellShape, x_cellLabel, x_cellOne, x_cellTwo, x_cellThree, x_scopeValue, x_scopeOuter, x_frameKind, x_frameOne, x_frameTwo, x_frameThree) (y_values, y_variables, y_waits, y_at, y_world, y_steps, y_blame, y_result, y_sort, y_one, y_two, y_from, y_to, y_label, y_held, y_around, y_waiting, y_operand, y_outer, y_kept)) ∨ (¬ x_runVerdict = 0 ∧ y_given = 0)) := by
    intro r hr
    rcases h7 with ⟨a, b, c⟩ | c
    · exact Or.inl ⟨a, b, gr_V_ty c (fun q hq => hr q (by omega))⟩
    · exact Or.inr c
  unfold wpX_typeAt
  refine gr_both (x_count := 0) (y_parts := y_parts) (y_count := nI cnt) (y_place := y_place) (y_where := y_where) (y_values := y_values) (y_variables := y_variables) (y_waits := y_waits) (y_at := y_at) (y_world := y_world) (y_steps := y_steps) (y_blame := y_blame) (y_result := y_result) (y_given := y_given) (y_ty := y_ty) (y_part := y_part) (y_kind := y_kind) (y_end := y_end) (y_state := y_state) (y_with := y_with) (y_runKind := y_runKind) (y_runEnd := y_runEnd) (y_runWith := y_runWith) (y_sort := y_sort) (y_one := y_one) (y_two := y_two) (y_from := y_from) (y_to := y_to) (y_label := y_label) (y_held := y_held) (y_around := y_around) (y_waiting := y_waiting) (y_operand := y_operand) (y_outer := y_outer) (y_kept := y_kept) dx dy ?_ ?_
  · intro c i e o t g c0 c5 EX
    have nz : ¬ nI c = 0 := nI_ne0 (by omega) (by omega)
    refine br_f nz ?_
    dsimp only
    unfold wpY_typeAt
    refine EX _ (fun e' st r hr => br_f nz ?_)
    exact ⟨rfl, rfl, ⟨rfl, rfl, rfl, rfl⟩, hD, ⟨kd, vl, nm, cnt, rfl, rfl, dx, gy_DR_r dy hr⟩, h4, h5, h6, h7' r hr⟩
  · intro e o t g W all hP EX
    have c0 : 0 < cnt := by
      rcases Nat.eq_zero_or_pos cnt with z | z
      · subst z
        exact absurd (show (1 : Nat) = 0 from W.2) (by decide)
      · exact z
    obtain ⟨g1, g2, g3, g4, g5, g6, g7⟩ := hP.2 0 c0
    have t0 : t 0 = nI (gd_en (gs_R kd vl nm cnt 0).2) := g4
    have T0 : gd_TY (gs_R kd vl nm cnt 0).2 := g5
    have z7 := T0.2
    have zp := gd_sz_pos (gs_R kd vl nm cnt 0).2
    have fin : ∀ (x : Int32) e' st r w, (∀ q, 288 ≤ q → r q = y_ty q) → (x = x ∧ i_Rel (k + 3) (x_typeDraft, x_typeCount, nI cnt, -1, x_keptPlace, x_cellCount, x_scopeCount, x_frameCount, x_mode, x_atToken, x_scope, x_current, x_callee, x_side, x_ending, x_faultLabel, x_stepsTaken, x_runVerdict, x_runBlame, x_result, x_named, x_kinds, x_values, e, t, o, g, x_cellShape, x_cellLabel, x_cellOne, x_cellTwo, x_cellThree, x_scopeValue, x_scopeOuter, x_frameKind, x_frameOne, x_frameTwo, x_frameThree, 32768, 32768, 32768, 32768) (y_parts, nI cnt, y_place, w, y_values, y_variables, y_waits, y_at, y_world, y_steps, y_blame, y_result, y_given, r, y_part, y_kind, e', st, y_with, y_runKind, y_runEnd, y_runWith, y_sort, y_one, y_two, y_from, y_to, y_label, y_held, y_around, y_waiting, y_operand, y_outer, y_kept)) := fun x e' st r w hr => ⟨rfl, rfl, ⟨rfl, rfl, rfl, rfl⟩, hD, ⟨kd, vl, nm, cnt, rfl, rfl, dx, gy_DR_r dy hr⟩, h4, h5, h6, h7' r hr⟩
    have te : ∀ R : Int32 → Prop, R (nI (gd_sz (gs_R kd vl nm cnt 0).2)) → wpX_typeEnd R (t 0) 0 := by
      intro R h
      rw [t0]
      refine gx_typeEnd (i := 0) (gx_en T0) T0.1 (gd_sp_en T0.1) (by omega) ?_
      rw [Nat.zero_add]
      exact h
    have be : ∀ (R : Int32 → Prop) e' st r w, gd_Sp r (gs_R kd vl nm cnt 0).2 0 → R (nI (gd_sz (gs_R kd vl nm cnt 0).2)) → wpY_behind R (y_parts, nI cnt, y_place, w, y_values, y_variables, y_waits, y_at, y_world, y_steps, y_blame, y_result, y_given, r, y_part, y_kind, e', st, y_with, y_runKind, y_runEnd, y_runWith, y_sort, y_one, y_two, y_from, y_to, y_label, y_held, y_around, y_waiting, y_operand, y_outer, y_kept) 0 := by
      intro R e' st r w sp h
      refine gy_behind (y_ty := r) (i := 0) T0 sp (by omega) ?_
      rw [Nat.zero_add]
      exact h
    refine br_t rfl ?_
    by_cases n0 : v1 < 0
    · refine br_t n0 ?_
      dsimp only
      unfold wpY_typeAt
      exact EX _ (fun e' st r w hE hr => br_t rfl (br_t n0 (fin _ e' st r w hr)))
    refine br_f n0 (te _ ?_)
    obtain ⟨j, hj, rfl⟩ := nI_of n0
    by_cases lt : j < gd_sz (gs_R kd vl nm cnt 0).2
    · refine br_t (nI_lt lt (by omega)) ?_
      rw [t0]
      refine gx_typeToken (gx_en T0) (by omega) ?_
      dsimp only
      unfold wpY_typeAt
      refine EX _ (fun e' st r w hE hr => br_t rfl (br_f n0 (be _ e' st r w (hE 0 c0).2 (br_t (nI_lt lt (by omega)) ?_))))
      rw [nI_clamp hj]
      have tk := gd_sp_tok2 (gs_R kd vl nm cnt 0).2 0 0 (hE 0 c0).2 (gd_sp_en T0.1) j lt
      rw [Nat.zero_add] at tk
      refine And.intro (vp_in_nI (by omega) (by decide)) ?_
      rw [tk]
      exact fin _ e' st r w hr
    · refine br_f (nI_nlt (by omega) (by omega)) ?_
      dsimp only
      unfold wpY_typeAt
      exact EX _ (fun e' st r w hE hr => br_t rfl (br_f n0 (be _ e' st r w (hE 0 c0).2 (br_f (nI_nlt (by omega) (by omega)) (fin _ e' st r w hr)))))
end
section
/-! ===== 42: run ===== -/
def gm_C3 (out : gm_O) : Prop := out.1 = 0 ∨ out.1 = 4 ∨ out.1 = 5
theorem gm_fc_c3 {s : gm_S} {h v : Nat} {f t : Lean.RArray Nat} {p : Int} {out : gm_O} (H : gm_fc s h v f t p = some out) : gm_C3 out := by
  by_cases z : out.1 = 0
  · exact Or.inl z
  · by_cases c : out.1 = 4
    · exact Or.inr (Or.inl c)
    · exact (gm_fc_code H z c).elim
theorem gm_new_c3 {s : gm_S} {c : gm_Cell} {add : Nat} {out : gm_O} (H : gm_new s c add = some out) : gm_C3 out := by
  obtain ⟨_, H⟩ := gm_new_e H
  rw [H]
  exact Or.inl rfl
def gm_CF (f : Nat → Nat → Nat → gm_S → Option gm_O) : Prop := ∀ (h i w : Nat) (s : gm_S) (out : gm_O), f h i w s = some out → gm_C3 out
theorem gm_call_c3 {f : Nat → Nat → Nat → gm_S → Option gm_O} (hf : gm_CF f) : ∀ (n h g a : Nat) (s : gm_S) (out : gm_O), gm_call f n h g a s = some out → gm_C3 out := by
  intro n
  induction n with
  | zero =>
    intro h g a s out H
    simp only [gm_call] at H
    exact hf _ _ _ _ _ (gm_if_e (gm_tick_e H).2).2
  | succ n ih =>
    intro h g a s out H
    simp only [gm_call] at H
    obtain ⟨_, H⟩ := gm_if_e (gm_tick_e H).2
    refine gm_bd_e H ?_ ?_
    · intro a' p s1 e1 H1
      refine gm_bd_e H1 ?_ ?_
      · intro u p2 s2 _ H2
        exact gm_fc_c3 H2
      · intro e2 _
        exact ih _ _ _ _ _ e2
    · intro e1 _
      rcases gm_cast_code e1 with c | c
      · exact Or.inl c
      · exact Or.inr (Or.inl c)
theorem gm_opr_c3 {P : gm_P} {f : Nat → Nat → Nat → gm_S → Option gm_O} (hf : gm_CF f) {h i k w : Nat} {s : gm_S} {out : gm_O} (H : gm_opr P f h i k w s = some out) : gm_C3 out := by
  unfold gm_opr at H
  refine gm_bd_e H ?_ ?_
  · intro v p s1 _ H1
    refine gm_bd_e H1 ?_ ?_
    · intro v' p' s2 _ H2
      obtain ⟨_, H2⟩ := gm_tick_e H2
      injection H2 with H2
      rw [← H2]
      exact Or.inl rfl
    · intro e2 _
      exact gm_fc_c3 e2
  · intro e1 _
    exact hf _ _ _ _ _ e1
theorem gm_rest_c3 {P : gm_P} {f : Nat → Nat → Nat → gm_S → Option gm_O} (hf : gm_CF f) {h i w v : Nat} {s : gm_S} {out : gm_O} (H : gm_rest P f h i w v s = some out) : gm_C3 out := by
  unfold gm_rest at H
  by_cases c9 : gm_kd P i = 9 ∨ gm_kd P i = 10
  · rw [if_pos c9] at H
    by_cases z : out.1 = 0
    · exact Or.inl z
    · exact Or.inr (Or.inl (gm_take_code _ _ _ _ _ H z))
  rw [if_neg c9] at H
  by_cases c5 : gm_kd P i = 5
  · rw [if_pos c5] at H
    exact gm_opr_c3 hf (gm_num_e H).2
  rw [if_neg c5] at H
  by_cases c11 : gm_kd P i = 11
  · rw [if_pos c11] at H
    injection H with H
    rw [← H]
    exact Or.inl rfl
  rw [if_neg c11] at H
  refine gm_bd_e H ?_ ?_
  · intro v' p' s1 _ H1
    by_cases c4 : gm_kd P i = 4
    · rw [if_pos c4] at H1
      exact gm_call_c3 hf _ _ _ _ _ _ (gm_if_e H1).2
    rw [if_neg c4] at H1
    by_cases c6 : gm_kd P i = 6
    · rw [if_pos c6] at H1
      exact gm_new_c3 (gm_num_e (gm_num_e H1).2).2
    rw [if_neg c6] at H1
    by_cases c7 : gm_kd P i = 7
    · rw [if_pos c7] at H1
      exact gm_new_c3 (gm_num_e (gm_num_e H1).2).2
    rw [if_neg c7] at H1
    exact gm_new_c3 (gm_if_e (gm_if_e H1).2).2
  · intro e1 _
    exact gm_opr_c3 hf e1
theorem gm_ev_c3 {P : gm_P} : ∀ d, gm_CF (gm_ev P d) := by
  intro d
  induction d with
  | zero =>
    intro h i w s out H
    exact absurd H (by simp [gm_ev])
  | succ d ih =>
    intro h i w s out H
    simp only [gm_ev] at H
    obtain ⟨_, H⟩ := gm_if_e H
    obtain ⟨_, H⟩ := gm_tick_e H
    by_cases hT : 40 ≤ gm_T (gm_tk s)
    · rw [if_pos hT] at H
      injection H with H
      rw [← H]
      exact Or.inr (Or.inr rfl)
    rw [if_neg hT] at H
    by_cases k0 : gm_kd P i = 0
    · rw [if_pos k0] at H
      exact gm_new_c3 H
    rw [if_neg k0] at H
    by_cases k1 : gm_kd P i = 1
    · rw [if_pos k1] at H
      exact gm_new_c3 H
    rw [if_neg k1] at H
    by_cases k2 : gm_kd P i = 2
    · rw [if_pos k2] at H
      cases hv : gm_var (gm_st (gm_tk s)) (gm_vl P i).toNatClampNeg w with
      | none => rw [hv] at H; exact absurd H (by simp)
      | some v => rw [hv] at H; injection H with H; rw [← H]; exact Or.inl rfl
    rw [if_neg k2] at H
    by_cases k3 : gm_kd P i = 3
    · rw [if_pos k3] at H
      exact gm_new_c3 H
    rw [if_neg k3] at H
    refine gm_bd_e H ?_ ?_
    · intro v p s1 _ H1
      exact gm_rest_c3 ih H1
    · intro e1 _
      exact gm_opr_c3 ih e1
section
variable {x_typeDraft x_typeCount x_count x_wrongAt x_keptPlace x_cellCount x_scopeCount x_frameCount x_mode x_atToken x_scope x_current x_callee x_side x_ending x_faultLabel x_stepsTaken x_runVerdict x_runBlame x_result : Int32} {x_named x_kinds x_values x_ends x_types x_operands x_targets x_cellShape x_cellLabel x_cellOne x_cellTwo x_cellThree x_scopeValue x_scopeOuter x_frameKind x_frameOne x_frameTwo x_frameThree : Nat → Int32}
def gx_stop (D : gx_D) : gx_D := match D with | (x_cellCount, x_scopeCount, x_frameCount, x_mode, x_atToken, x_scope, x_current, x_callee, x_side, x_ending, x_faultLabel, x_stepsTaken, x_cellShape, x_cellLabel, x_cellOne, x_cellTwo, x_cellThree, x_scopeValue, x_scopeOuter, x_frameKind, x_frameOne, x_frameTwo, x_frameThree) => (x_cellCount, x_scopeCount, x_frameCount, 4, x_atToken, x_scope, x_current, x_callee, x_side, 0, x_faultLabel, x_stepsTaken, x_cellShape, x_cellLabel, x_cellOne, x_cellTwo, x_cellThree, x_scopeValue, x_scopeOuter, x_frameKind, x_frameOne, x_frameTwo, x_frameThree)
theorem gx_resume0 {D : gx_D} (hF : gx_fc D = 0) : gx_M wpX_resumeFrame x_typeDraft x_typeCount x_count x_wrongAt x_keptPlace x_runVerdict x_runBlame x_result x_named x_kinds x_values x_ends x_types x_operands x_targets D (fun D' => D' = gx_stop D) := by
  intro P HP
  have h := HP (gx_stop D) rfl
  obtain ⟨x_cellCount, x_scopeCount, x_frameCount, x_mode, x_atToken, x_scope, x_current, x_callee, x_side, x_ending, x_faultLabel, x_stepsTaken, x_cellShape, x_cellLabel, x_cellOne, x_cellTwo, x_cellThree, x_scopeValue, x_scopeOuter, x_frameKind, x_frameOne, x_frameTwo, x_frameThree⟩ := D
  have e : x_frameCount = 0 := hF
  subst e
  exact br_t rfl h
/-- the last turn -/
theorem gx_last {post : SX → Prop} {s : gm_S} {D : gx_D} (hu : gm_u s < 1000000) (hm : gm_m s < 64) (hH : gx_H s D) (hF : gx_fc D = nI 0) (m1 : gx_mode D = 1) (P : post (gx_X x_typeDraft x_typeCount x_count x_wrongAt x_keptPlace x_runVerdict x_runBlame x_result x_named x_kinds x_values x_ends x_types x_operands x_targets (gx_stop D))) : gx_go post x_typeDraft x_typeCount x_count x_wrongAt x_keptPlace x_runVerdict x_runBlame x_result x_named x_kinds x_values x_ends x_types x_operands x_targets s D := by
  refine gx_t1 hu hm (by decide) hH hF m1 (gx_resume0 hF) ?_
  intro D' e
  subst e
  intro N hN
  have eu : gm_u (gm_tk s) = gm_u s + 1 := rfl
  refine gx_halt (by omega) ?_ P
  obtain ⟨x_cellCount, x_scopeCount, x_frameCount, x_mode, x_atToken, x_scope, x_current, x_callee, x_side, x_ending, x_faultLabel, x_stepsTaken, x_cellShape, x_cellLabel, x_cellOne, x_cellTwo, x_cellThree, x_scopeValue, x_scopeOuter, x_frameKind, x_frameOne, x_frameTwo, x_frameThree⟩ := D
  rfl
theorem gr_xrun {P : gm_P} {out : gm_O} {R : SX → Prop} (hP : gx_P P x_kinds x_values x_types x_operands x_targets) (H : gm_run P = some out) (hu : out.1 = 0 → gm_u out.2.2.2 < 1000000 ∧ gm_m out.2.2.2 < 64)
    (A : out.1 = 0 → ∀ D, gx_H out.2.2.2 D → gx_cur D = nI (gm_xv out.2.1) → gx_end D = 0 → R (gx_X x_typeDraft x_typeCount x_count x_wrongAt x_keptPlace x_runVerdict x_runBlame x_result x_named x_kinds x_values x_ends x_types x_operands x_targets D)) (B : out.1 ≠ 0 → ∀ D, gx_E out D → R (gx_X x_typeDraft x_typeCount x_count x_wrongAt x_keptPlace x_runVerdict x_runBlame x_result x_named x_kinds x_values x_ends x_types x_operands x_targets D)) : wpX_workOut R (x_typeDraft, x_typeCount, x_count, x_wrongAt, x_keptPlace, 0, 1, 0, 0, 0, 0, x_current, x_callee, x_side, x_ending, x_faultLabel, 0, x_runVerdict, x_runBlame, x_result, x_named, x_kinds, x_values, x_ends, x_types, x_operands, x_targets, x_cellShape, x_cellLabel, x_cellOne, x_cellTwo, x_cellThree, x_scopeValue, x_scopeOuter, x_frameKind, x_frameOne, x_frameTwo, x_frameThree, 32768, 32768, 32768, 32768) := by
  have go := gx_ev_sim (post := R) (x_typeDraft := x_typeDraft) (x_typeCount := x_typeCount) (x_count := x_count) (x_wrongAt := x_wrongAt) (x_keptPlace := x_keptPlace) (x_runVerdict := x_runVerdict) (x_runBlame := x_runBlame) (x_result := x_result) (x_named := x_named) (x_kinds := x_kinds) (x_values := x_values) (x_ends := x_ends) (x_types := x_types) (x_operands := x_operands) (x_targets := x_targets) hP 41 0 0 0 gm_s0 out (0, 1, 0, 0, 0, 0, x_current, x_callee, x_side, 5, x_faultLabel, 0, x_cellShape, x_cellLabel, x_cellOne, x_cellTwo, x_cellThree, x_scopeValue, x_scopeOuter, x_frameKind, x_frameOne, x_frameTwo, x_frameThree) 0 H (Nat.le_refl _) ⟨⟨rfl, by decide, fun c hc => absurd hc (Nat.not_lt_zero _)⟩, rfl, by decide, rfl, by decide, fun w h1 h2 => absurd (show w < 1 from h2) (by omega)⟩ rfl rfl rfl rfl ?_ (fun z D' hE => B z D' hE)
  · exact Exists.intro 1000002 (go 1000002 (by decide))
  · intro D' z a1 a2 a3 a4 a5
    obtain ⟨u1, u2⟩ := hu z
    refine gx_last u1 u2 a1 a2 a4 (A z (gx_stop D') ?_ ?_ ?_)
    · obtain ⟨x_cellCount, x_scopeCount, x_frameCount, x_mode, x_atToken, x_scope, x_current, x_callee, x_side, x_ending, x_faultLabel, x_stepsTaken, x_cellShape, x_cellLabel, x_cellOne, x_cellTwo, x_cellThree, x_scopeValue, x_scopeOuter, x_frameKind, x_frameOne, x_frameTwo, x_frameThree⟩ := D'
      exact a1
    · obtain ⟨x_cellCount, x_scopeCount, x_frameCount, x_mode, x_atToken, x_scope, x_current, x_callee, x_side, x_ending, x_faultLabel, x_stepsTaken, x_cellShape, x_cellLabel, x_cellOne, x_cellTwo, x_cellThree, x_scopeValue, x_scopeOuter, x_frameKind, x_frameOne, x_frameTwo, x_frameThree⟩ := D'
      exact a5
    · obtain ⟨x_cellCount, x_scopeCount, x_frameCount, x_mode, x_atToken, x_scope, x_current, x_callee, x_side, x_ending, x_faultLabel, x_stepsTaken, x_cellShape, x_cellLabel, x_cellOne, x_cellTwo, x_cellThree, x_scopeValue, x_scopeOuter, x_frameKind, x_frameOne, x_frameTwo, x_frameThree⟩ := D'
      rfl
end
section
variable {y_parts y_count y_place y_where y_values y_variables y_waits y_at y_world y_steps y_blame y_result y_given : Int32} {y_ty y_part y_kind y_end y_state y_with y_runKind y_runEnd y_runWith y_sort y_one y_two y_from y_to y_label y_held y_around y_waiting y_operand y_outer y_kept : Nat → Int32}
theorem gr_y36 {post : Int32 → SY → Prop} (P : ∀ r : Nat → Int32, (∀ k, k < 288 → r (400 + k) = vp_nar .byte (y_ty k)) → (∀ q, (q < 400 ∨ 688 ≤ q) → r q = y_ty q) → ∃ n, wY_run_67 post y_parts y_count y_place y_where y_values y_variables y_waits y_at y_world y_steps y_blame y_result y_given n 0 r y_part y_kind y_end y_state y_with y_runKind y_runEnd y_runWith y_sort y_one y_two y_from y_to y_label y_held y_around y_waiting y_operand y_outer y_kept) : ∀ d k, k + d = 288 → ∀ r : Nat → Int32, (∀ q, q < k → r (400 + q) = vp_nar .byte (y_ty q)) → (∀ q, (q < 400 ∨ 688 ≤ q) → r q = y_ty q) → wY_run_36 post y_parts y_count y_place y_where y_values y_variables y_waits y_at y_world y_steps y_blame y_result y_given (d + 1) (nI k) r y_part y_kind y_end y_state y_with y_runKind y_runEnd y_runWith y_sort y_one y_two y_from y_to y_label y_held y_around y_waiting y_operand y_outer y_kept := by
  intro d
  induction d with
  | zero =>
    intro k e r h h'
    exact br_t (nI_le (a := 288) (by omega) (by omega)) (P r (fun q hq => h q (by omega)) h')
  | succ d ih =>
    intro k e r h h'
    refine br_f (nI_ge (b := 288) (by omega) (by decide)) ?_
    rw [show (400 : Int32) + nI k = nI (400 + k) from nI_add 400 k, nI_clamp (show 400 + k < 2 ^ 31 by omega), nI_clamp (show k < 2 ^ 31 by omega), h' k (by omega)]
    refine And.intro (vp_in_nI (by omega) (by decide)) (And.intro (vp_in_nI (by omega) (by decide)) (nm_e (nm_r (nI_1 k) (ih (k + 1) (by omega) _ ?_ ?_))))
    · intro q hq
      by_cases c : q = k
      · subst c; exact pk_us
      · rw [pk_un (by omega)]; exact h q (by omega)
    · intro q hq
      rw [pk_un (by omega)]
      exact h' q hq
theorem gr_y67 {post : Int32 → SY → Prop} {cnt : Nat} (c36 : cnt ≤ 36) (P : ∀ rk re rw' : Nat → Int32, (∀ i, i < cnt → rk i = vp_nar .byte (y_kind i) ∧ re i = vp_nar .byte (y_end i) ∧ rw' i = y_with i) → ∃ n, wY_run_146 post n 0 1 y_parts (nI cnt) y_place y_where 0 0 0 0 (-1) y_steps y_blame y_result y_given y_ty y_part y_kind y_end y_state y_with rk re rw' y_sort y_one y_two y_from y_to y_label y_held y_around y_waiting y_operand y_outer y_kept) : ∀ d k, k + d = cnt → ∀ rk re rw' : Nat → Int32, (∀ i, i < k → rk i = vp_nar .byte (y_kind i) ∧ re i = vp_nar .byte (y_end i) ∧ rw' i = y_with i) → wY_run_67 post y_parts (nI cnt) y_place y_where y_values y_variables y_waits y_at y_world y_steps y_blame y_result y_given (d + 1) (nI k) y_ty y_part y_kind y_end y_state y_with rk re rw' y_sort y_one y_two y_from y_to y_label y_held y_around y_waiting y_operand y_outer y_kept := by
  intro d
  induction d with
  | zero =>
    intro k e rk re rw' h
    have e' : k = cnt := by omega
    subst e'
    exact br_t (Int32.le_refl _) (P rk re rw' h)
  | succ d ih =>
    intro k e rk re rw' h
    have vin : vp_in (nI k) 36 := vp_in_nI (by omega) (by decide)
    refine br_f (nI_ge (by omega) (by omega)) ?_
    rw [nI_clamp (show k < 2 ^ 31 by omega)]
    refine And.intro vin (And.intro vin (nm_e (And.intro vin (And.intro vin (nm_e (And.intro vin (And.intro vin (nm_e (nm_r (nI_1 k) (ih (k + 1) (by omega) _ _ _ ?_))))))))))
    intro i hi
    by_cases c : i = k
    · subst c
      exact ⟨pk_us, pk_us, pk_us⟩
    · rw [pk_un c, pk_un c, pk_un c]
      exact h i (by omega)
theorem gr_yrun {kd : Nat → Nat} {vl : Nat → Int32} {nm : Nat → Lean.RArray Nat} {cnt : Nat} {out : gm_O} {R : Int32 → SY → Prop} (W : gs_WF kd cnt) (all : ∀ i, i < cnt → (gs_R kd vl nm cnt i).1 = 0) (dy : gy_DR kd vl nm cnt y_ty y_kind y_with) (hu : out.1 = 0 → gm_u out.2.2.2 < 1000000)
    (EX : ∀ PY : Int32 → SY → Prop, (∀ e' st r w, (∀ j, j < cnt → e' j = nI (gs_en kd cnt j) ∧ gd_Sp r (gs_R kd vl nm cnt j).2 (8 * j)) → (∀ q, 288 ≤ q → r q = y_ty q) → PY 0 (y_parts, nI cnt, y_place, w, y_values, y_variables, y_waits, y_at, y_world, 0, 0, y_result, 0, r, y_part, y_kind, e', st, y_with, y_runKind, y_runEnd, y_runWith, y_sort, y_one, y_two, y_from, y_to, y_label, y_held, y_around, y_waiting, y_operand, y_outer, y_kept)) → wpY_examine PY (y_parts, nI cnt, y_place, y_where, y_values, y_variables, y_waits, y_at, y_world, 0, 0, y_result, 0, y_ty, y_part, y_kind, y_end, y_state, y_with, y_runKind, y_runEnd, y_runWith, y_sort, y_one, y_two, y_from, y_to, y_label, y_held, y_around, y_waiting, y_operand, y_outer, y_kept)) (H : gm_run (gs_P kd vl nm cnt) = some out)
    (A : out.1 = 0 → ∀ w e' st r rk re rw' E, gy_H r out.2.2.2 E → gy_rs E = nI out.2.1 → (∀ q, 288 ≤ q → q < 400 → r q = y_ty q) → R 0 (gy_Y y_parts (nI cnt) y_place w 1 r y_part y_kind e' st y_with rk re rw' E))
    (B : out.1 ≠ 0 → ∀ w e' st r rk re rw' E, gy_E r out E → (∀ q, 288 ≤ q → q < 400 → r q = y_ty q) → R (nI out.1) (gy_Y y_parts (nI cnt) y_place w 0 r y_part y_kind e' st y_with rk re rw' E)) : wpY_run R (y_parts, nI cnt, y_place, y_where, y_values, y_variables, y_waits, y_at, y_world, y_steps, y_blame, y_result, y_given, y_ty, y_part, y_kind, y_end, y_state, y_with, y_runKind, y_runEnd, y_runWith, y_sort, y_one, y_two, y_from, y_to, y_label, y_held, y_around, y_waiting, y_operand, y_outer, y_kept) := by
  have dy0 := dy
  obtain ⟨c36, hn, hnm, hK, hk⟩ := dy
  unfold wpY_run
  refine EX _ (fun e' st r w hE hr => br_t rfl (Exists.intro 289 ?_))
  refine gr_y36 (y_ty := r) (y_end := e') (y_state := st) ?_ 288 0 rfl r (fun q hq => absurd hq (Nat.not_lt_zero _)) (fun q _ => rfl)
  intro r2 h1 h2
  refine Exists.intro (cnt + 1) (gr_y67 (y_ty := r2) (y_end := e') (y_state := st) c36 ?_ cnt 0 (Nat.zero_add _) y_runKind y_runEnd y_runWith (fun i hi => absurd hi (Nat.not_lt_zero _)))
  intro rk re rw' h3
  have r288 : ∀ q, 288 ≤ q → q < 400 → r2 q = y_ty q := fun q a b => (h2 q (by omega)).trans (hr q a)
  have hK2 : gy_K r2 := by
    obtain ⟨a, b, c, d, e, f, g, i, j⟩ := hK
    exact ⟨(r288 _ (by decide) (by decide)).trans a, (r288 _ (by decide) (by decide)).trans b, (r288 _ (by decide) (by decide)).trans c, (r288 _ (by decide) (by decide)).trans d, (r288 _ (by decide) (by decide)).trans e, (r288 _ (by decide) (by decide)).trans f, (r288 _ (by decide) (by decide)).trans g, (r288 _ (by decide) (by decide)).trans i, (r288 _ (by decide) (by decide)).trans j⟩
  have hP : gy_P (gs_P kd vl nm cnt) r2 rk re rw' := by
    refine ⟨c36, hK2, fun i hi => ?_⟩
    have hi' : i < cnt := hi
    obtain ⟨k1, k2, k3, k4⟩ := hk i hi'
    obtain ⟨a1, a2, a3⟩ := h3 i hi'
    have tyi : gd_TY (gs_R kd vl nm cnt i).2 := gs_rTY W hn hi'
    have sp := (hE i hi').2
    have okm : ∀ m, m < gs_ar (kd i) → (gs_R kd vl nm cnt (gs_op (gs_en kd cnt) i m)).1 = 0 := fun m hm => all _ (gs_op_lt W hi' hm).2
    have rho := gs_pr_rho (vl := vl) (nm := nm) W hi' okm
    have pr0 : (gs_pr kd vl nm cnt i).1 = 0 := by
      by_cases z : (gs_pr kd vl nm cnt i).1 = 0
      · exact z
      · have c := gs_pre_bad (t2 := gs_t kd vl nm cnt i 2) k2 z
        rw [← rho, all i hi'] at c
        exact absurd c.symm z
    refine ⟨?_, k2, a3.trans k3, fun c => k4 (Or.inl c), tyi, ?_, rfl, ?_, ?_, ?_, ?_⟩
    · rw [a1, k1]; exact gd_nb _ (by omega)
    · refine gd_sp_cp _ (8 * i) (400 + 8 * i) sp (fun m hm => ?_)
      have z := tyi.2
      have hm' : m < gd_sz (gs_R kd vl nm cnt i).2 := hm
      rw [show 400 + 8 * i + m = 400 + (8 * i + m) by omega, h1 (8 * i + m) (by omega)]
      exact gd_sp_b _ (8 * i) tyi.1 sp m hm
    · intro m hm
      have ol := gs_op_lt W hi' hm
      have o0 := gs_op_lt W hi' (show 0 < gs_ar (kd i) from Nat.lt_of_le_of_lt (Nat.zero_le _) hm)
      exact ⟨ol.2, gs_tg_TY tyi (gs_rTY W hn o0.2) (gs_rTY W hn ol.2), rfl⟩
    · intro m hm
      have ol := gs_op_lt W hi' (show m < gs_ar (kd i) from Nat.lt_of_succ_lt hm)
      have e36 := Nat.le_trans (gs_en_ok W ol.2).2.1 c36
      obtain ⟨_, b2, _⟩ := h3 _ ol.2
      show re (gs_op (gs_en kd cnt) i m) = _
      rw [b2, (hE _ ol.2).1]
      exact gd_nb _ (by omega)
    · intro c
      have c' : kd i = 4 := c
      have := gs_pr_hd4 c' pr0
      rw [gs_t_k (show 0 < gs_ar (kd i) by rw [c']; decide)] at this
      exact this
    · intro c
      have c' : kd i = 5 := c
      have e2 : (gs_R kd vl nm cnt i).2 = (gs_pr kd vl nm cnt i).2 := by rw [rho]; exact gs_pre_ty k2 pr0
      show (gs_R kd vl nm cnt i).2 = (gs_R kd vl nm cnt (gs_op (gs_en kd cnt) i 1)).2
      rw [e2, ← gs_t_k (show 1 < gs_ar (kd i) by rw [c']; decide)]
      unfold gs_pr
      rw [c']
      rfl
  have go := gy_ev_sim (post := R) (y_parts := y_parts) (y_count := nI cnt) (y_place := y_place) (y_where := w) (y_given := 0) (y_ty := r2) (y_part := y_part) (y_kind := y_kind) (y_end := e') (y_state := st) (y_with := y_with) (y_runKind := rk) (y_runEnd := re) (y_runWith := rw') hP 41 0 0 0 gm_s0 out (0, 0, 0, 0, -1, 0, 0, y_result, y_sort, y_one, y_two, y_from, y_to, y_label, y_held, y_around, y_waiting, y_operand, y_outer, y_kept) 2000004 0 H (Nat.le_refl _) (by decide) ⟨⟨rfl, by decide, fun c hc => absurd hc (Nat.not_lt_zero _)⟩, rfl, by decide, by decide, rfl, by decide, rfl, fun w h1 h2 => absurd (show w < 1 from h2) (by omega)⟩ rfl (Nat.zero_le _) rfl rfl ?_ (fun z E hE' => B z w e' st r2 rk re rw' E hE' r288)
  · exact Exists.intro 2000004 (go 2000004 (by decide))
  · intro E z b1 b2 b3 b4 N hN
    have u := hu z
    have a := A z w e' st r2 rk re rw' E b1 b4 r288
    obtain ⟨N, rfl⟩ : ∃ m, N = m + 1 := ⟨N - 1, by omega⟩
    obtain ⟨y_values, y_variables, y_waits, y_at, y_world, y_steps, y_blame, y_result, y_sort, y_one, y_two, y_from, y_to, y_label, y_held, y_around, y_waiting, y_operand, y_outer, y_kept⟩ := E
    exact br_t rfl a
end
end
section
/-! ===== 43: run, both sides ===== -/
theorem gm_ok_e {out : gm_O} {Q : Nat → gm_S → Prop} (h : gm_ok (some out) Q) (z : out.1 = 0) : Q out.2.1 out.2.2.2 := by
  obtain ⟨c, v, p, s⟩ := out
  have z' : c = 0 := z
  subst z'
  exact h
theorem gy_DR_s {kd : Nat → Nat} {vl : Nat → Int32} {nm : Nat → Lean.RArray Nat} {cnt : Nat} {ty r kind wit : Nat → Int32} (hd : gy_DR kd vl nm cnt ty kind wit) (h : ∀ q, 288 ≤ q → q < 400 → r q = ty q) : gy_DR kd vl nm cnt r kind wit := by
  obtain ⟨c36, hn, hnm, hK, hk⟩ := hd
  refine ⟨c36, hn, fun n hn' => gd_sp_same (hnm n hn') (fun k hk' => ?_), ?_, hk⟩
  · have := (hn n).2
    exact h _ (by omega) (by omega)
  · obtain ⟨a, b, c, d, e, f, g, i, j⟩ := hK
    exact ⟨(h _ (by decide) (by decide)).trans a, (h _ (by decide) (by decide)).trans b, (h _ (by decide) (by decide)).trans c, (h _ (by decide) (by decide)).trans d, (h _ (by decide) (by decide)).trans e, (h _ (by decide) (by decide)).trans f, (h _ (by decide) (by decide)).trans g, (h _ (by decide) (by decide)).trans i, (h _ (by decide) (by decide)).trans j⟩
theorem i_vc_run {k : Nat} {u : SX} {v : SY} (I : i_Rel k u v) (hk : k + 3 ≤ 1536) : wpX_run (fun r u' => wpY_run (fun r' v' => r' = r ∧ i_Rel (k + 3) u' v') v) u := by
  obtain ⟨x_typeDraft, x_typeCount, x_count, x_wrongAt, x_keptPlace, x_cellCount, x_scopeCount, x_frameCount, x_mode, x_atToken, x_scope, x_current, x_callee, x_side, x_ending, x_faultLabel, x_stepsTaken, x_runVerdict, x_runBlame, x_result, x_named, x_kinds, x_values, x_ends, x_types, x_operands, x_targets, x_cellShape, x_cellLabel, x_cellOne, x_cellTwo, x_cellThree, x_scopeValue, x_scopeOuter, x_frameKind, x_frameOne, x_frameTwo, x_frameThree, x_nKind, x_nOne, x_nTwo, x_nThree⟩ := u
  obtain ⟨y_parts, y_count, y_place, y_where, y_values, y_variables, y_waits, y_at, y_world, y_steps, y_blame, y_result, y_given, y_ty, y_part, y_kind, y_end, y_state, y_with, y_runKind, y_runEnd, y_runWith, y_sort, y_one, y_two, y_from, y_to, y_label, y_held, y_around, y_waiting, y_operand, y_outer, y_kept⟩ := v
  obtain ⟨_, ⟨l1, l2, l3, l4⟩, hD, ⟨kd, vl, nm, cnt, d1, d2, dx, dy⟩, h4, h5, h6, h7⟩ := I
  subst l1 l2 l3 l4 d1 d2
  unfold wpX_run
  refine gr_both (x_count := 0) (y_parts := y_parts) (y_count := nI cnt) (y_place := y_place) (y_where := y_where) (y_values := y_values) (y_variables := y_variables) (y_waits := y_waits) (y_at := y_at) (y_world := y_world) (y_steps := 0) (y_blame := 0) (y_result := y_result) (y_given := 0) (y_ty := y_ty) (y_part := y_part) (y_kind := y_kind) (y_end := y_end) (y_state := y_state) (y_with := y_with) (y_runKind := y_runKind) (y_runEnd := y_runEnd) (y_runWith := y_runWith) (y_sort := y_sort) (y_one := y_one) (y_two := y_two) (y_from := y_from) (y_to := y_to) (y_label := y_label) (y_held := y_held) (y_around := y_around) (y_waiting := y_waiting) (y_operand := y_operand) (y_outer := y_outer) (y_kept := y_kept) dx dy ?_ ?_
  · intro c i e o t g c0 c5 EX
    have nz : ¬ nI c = 0 := nI_ne0 (by omega) (by omega)
    refine br_f nz ?_
    dsimp only
    unfold wpY_run
    refine EX _ (fun e' st r hr => br_f nz ?_)
    exact ⟨rfl, rfl, ⟨rfl, rfl, rfl, rfl⟩, hD, ⟨kd, vl, nm, cnt, rfl, rfl, dx, gy_DR_r dy hr⟩, rfl, rfl, rfl, Or.inr ⟨nz, rfl⟩⟩
  · intro e o t g W all hP EX
    have c0 : 0 < cnt := by
      rcases Nat.eq_zero_or_pos cnt with z | z
      · subst z
        exact absurd (show (1 : Nat) = 0 from W.2) (by decide)
      · exact z
    have SF := gs_SF W dx.2.1 (fun i hi => (dx.2.2.2 i hi).2.1) all
    have ok := gm_run_ok SF rfl c0 rfl
    cases H : gm_run (gs_P kd vl nm cnt) with
    | none => rw [H] at ok; exact ok.elim
    | some out =>
      rw [H] at ok
      have okz := fun z => gm_ok_e ok z
      have c3 : gm_C3 out := gm_ev_c3 41 _ _ _ _ _ H
      refine br_t rfl ?_
      refine gr_xrun (x_types := t) (x_operands := o) (x_targets := g) hP H (fun z => ⟨(okz z).2.1, (okz z).2.2.2⟩) ?_ ?_
      · intro z D hH hcur hend
        obtain ⟨x_cellCount, x_scopeCount, x_frameCount, x_mode, x_atToken, x_scope, x_current, x_callee, x_side, x_ending, x_faultLabel, x_stepsTaken, x_cellShape, x_cellLabel, x_cellOne, x_cellTwo, x_cellThree, x_scopeValue, x_scopeOuter, x_frameKind, x_frameOne, x_frameTwo, x_frameThree⟩ := D
        have e1 : x_ending = 0 := hend
        have e2 : x_current = nI (gm_xv out.2.1) := hcur
        subst e1
        refine br_f (show ¬ (0 : Int32) = 4 by decide) ?_
        refine gr_yrun (y_steps := y_steps) (y_blame := y_blame) (y_given := y_given) W all dy (fun z => (okz z).2.1) EX H ?_ (fun z' => absurd z z')
        intro _ w e' st r rk re rw' E hE hrs r288
        have hH1 := hH
        have hE1 := hE
        obtain ⟨y_values, y_variables, y_waits, y_at, y_world, y_steps, y_blame, y_result, y_sort, y_one, y_two, y_from, y_to, y_label, y_held, y_around, y_waiting, y_operand, y_outer, y_kept⟩ := E
        obtain ⟨_, _, _, hs, _⟩ := hH
        obtain ⟨_, _, _, _, hs', _, hb, _⟩ := hE
        exact ⟨rfl, rfl, ⟨rfl, rfl, rfl, rfl⟩, hD, ⟨kd, vl, nm, cnt, rfl, rfl, dx, gy_DR_s dy r288⟩, h4, hb.symm, hs.trans hs'.symm, Or.inl ⟨rfl, rfl, gs_P kd vl nm cnt, cnt, gs_G kd vl nm cnt, out.2.2.2, out.2.1, SF, (okz z).1, hH1, hE1, e2, hrs⟩⟩
      · intro z D hE
        obtain ⟨x_cellCount, x_scopeCount, x_frameCount, x_mode, x_atToken, x_scope, x_current, x_callee, x_side, x_ending, x_faultLabel, x_stepsTaken, x_cellShape, x_cellLabel, x_cellOne, x_cellTwo, x_cellThree, x_scopeValue, x_scopeOuter, x_frameKind, x_frameOne, x_frameTwo, x_frameThree⟩ := D
        obtain ⟨m4, en, sp, fl, _⟩ := hE
        have en' : x_ending = nI out.1 := en
        have sp' : x_stepsTaken = nI (gm_T out.2.2.2) := sp
        rcases c3 with c | c | c
        · exact absurd c z
        · have fl' : x_faultLabel = gm_lb out.2.2.1 := fl c
          rw [c] at en'
          subst en'
          refine br_t rfl ?_
          refine gr_yrun (y_steps := y_steps) (y_blame := y_blame) (y_given := y_given) W all dy (fun z => (okz z).2.1) EX H (fun z' => absurd z' z) ?_
          intro _ w e' st r rk re rw' E hE r288
          obtain ⟨s1, s2, s3, _⟩ := hE
          obtain ⟨y_values, y_variables, y_waits, y_at, y_world, y_steps, y_blame, y_result, y_sort, y_one, y_two, y_from, y_to, y_label, y_held, y_around, y_waiting, y_operand, y_outer, y_kept⟩ := E
          have b1 : y_blame = gm_lb out.2.2.1 := (s2 c).1
          have b2 : y_steps = nI (gm_T out.2.2.2) := s1
          refine ⟨by rw [c], rfl, ⟨rfl, rfl, rfl, rfl⟩, hD, ⟨kd, vl, nm, cnt, rfl, rfl, dx, gy_DR_s dy r288⟩, h4, fl'.trans b1.symm, sp'.trans b2.symm, Or.inr ⟨show ¬ nI 4 = 0 by decide, rfl⟩⟩
        · rw [c] at en'
          subst en'
          refine br_f (show ¬ nI 5 = 4 by decide) ?_
          refine gr_yrun (y_steps := y_steps) (y_blame := y_blame) (y_given := y_given) W all dy (fun z => (okz z).2.1) EX H (fun z' => absurd z' z) ?_
          intro _ w e' st r rk re rw' E hE r288
          obtain ⟨s1, s2, s3, _⟩ := hE
          obtain ⟨y_values, y_variables, y_waits, y_at, y_world, y_steps, y_blame, y_result, y_sort, y_one, y_two, y_from, y_to, y_label, y_held, y_around, y_waiting, y_operand, y_outer, y_kept⟩ := E
          have b1 : y_blame = 0 := s3 c
          have b2 : y_steps = nI (gm_T out.2.2.2) := s1
          refine ⟨by rw [c], rfl, ⟨rfl, rfl, rfl, rfl⟩, hD, ⟨kd, vl, nm, cnt, rfl, rfl, dx, gy_DR_s dy r288⟩, h4, b1.symm, sp'.trans b2.symm, Or.inr ⟨show ¬ nI 5 = 0 by decide, rfl⟩⟩
end
section
/-! ===== 44: look, as the machine does it ===== -/
def gm_SS (s s' : gm_S) : Prop := gm_le s s' ∧ gm_m s' = gm_m s ∧ gm_e s' = gm_e s ∧ gm_T s' = gm_T s
theorem gm_SS_refl (s : gm_S) : gm_SS s s := ⟨gm_le_refl s, rfl, rfl, rfl⟩
theorem gm_SS_trans {a b c : gm_S} (h : gm_SS a b) (g : gm_SS b c) : gm_SS a c := ⟨gm_le_trans h.1 g.1, g.2.1.trans h.2.1, g.2.2.1.trans h.2.2.1, g.2.2.2.trans h.2.2.2⟩
theorem gm_SS_fc {s : gm_S} {h v : Nat} {f t : Lean.RArray Nat} {p : Int} {out : gm_O} (H : gm_fc s h v f t p = some out) : gm_SS s out.2.2.2 := by
  have le := (gm_LE_fc H).1
  unfold gm_fc at H
  by_cases e : gd_en f = gd_en t
  · rw [if_pos e] at H
    injection H with H
    subst H
    exact gm_SS_refl s
  · rw [if_neg e] at H
    have c := gm_cast_same (gm_tick_e H).2
    exact ⟨le, c.1, c.2.1, c.2.2.1⟩
theorem gm_SS_take {side : Nat} : ∀ (n h v : Nat) (s : gm_S) (out : gm_O), gm_take side n h v s = some out → gm_SS s out.2.2.2 := by
  intro n
  induction n with
  | zero =>
    intro h v s out H
    simp only [gm_take] at H
    obtain ⟨_, H⟩ := gm_if_e (gm_tick_e H).2
    injection H with H
    subst H
    exact ⟨gm_le_tk s, rfl, rfl, rfl⟩
  | succ n ih =>
    intro h v s out H
    simp only [gm_take] at H
    obtain ⟨_, H⟩ := gm_if_e (gm_tick_e H).2
    have tk : gm_SS s (gm_tk s) := ⟨gm_le_tk s, rfl, rfl, rfl⟩
    refine gm_bd_e H ?_ ?_
    · intro u p s1 e1 H1
      exact gm_SS_trans tk (gm_SS_trans (ih _ _ _ _ e1) (gm_SS_fc H1))
    · intro e1 _
      exact gm_SS_trans tk (ih _ _ _ _ e1)
def gm_lk2 (o : Option gm_O) (k : Nat → gm_S → Option (Nat × gm_S × Nat)) : Option (Nat × gm_S × Nat) :=
  match o with
  | none => none
  | some (0, u, _, s) => k u s
  | some (_ + 1, v, _, s) => some (2, s, v)
def gm_lk : Nat → Nat → gm_S → Nat → Option (Nat × gm_S × Nat)
  | 0, _, s, v => some (0, s, v)
  | m + 1, w, s, v => if w % 4 = 0 then some (0, s, v) else if w % 4 = 3 ∨ gm_sh (gm_ck (gm_h s (v / 8))) ≠ 4 then some (1, s, v)
      else gm_lk2 (gm_take (w % 4 - 1) (gm_q1 (gm_h s (v / 8))) 0 v (gm_u0 s)) (fun u s' => gm_lk m (w / 4) s' u)
theorem gm_lk2_e {o : Option gm_O} {k : Nat → gm_S → Option (Nat × gm_S × Nat)} {r : Nat × gm_S × Nat} {C : Prop} (h : gm_lk2 o k = some r) (h1 : ∀ out, o = some out → out.1 = 0 → k out.2.1 out.2.2.2 = some r → C) (h2 : ∀ out, o = some out → out.1 ≠ 0 → r = (2, out.2.2.2, out.2.1) → C) : C := by
  match o, h with
  | some (0, u, p, s), h => exact h1 (0, u, p, s) rfl rfl h
  | some (c + 1, u, p, s), h =>
    have e : some (2, s, u) = some r := h
    injection e with e
    exact h2 (c + 1, u, p, s) rfl (Nat.succ_ne_zero c) e.symm
theorem gm_lk_ok {P : gm_P} {cn : Nat} {G : Nat → List (Lean.RArray Nat)} (hP : gm_SF P cn G) : ∀ (m w : Nat) (s : gm_S) (v : Nat), gm_L P cn G s v → ∃ r, gm_lk m w s v = some r ∧ gm_SS s r.2.1 ∧ (r.1 = 0 → gm_L P cn G r.2.1 r.2.2) ∧ (r.1 = 0 ∨ r.1 = 1 ∨ r.1 = 2) := by
  intro m
  induction m with
  | zero => intro w s v L; exact ⟨(0, s, v), rfl, gm_SS_refl s, fun _ => L, Or.inl rfl⟩
  | succ m ih =>
    intro w s v L
    simp only [gm_lk]
    by_cases c0 : w % 4 = 0
    · rw [if_pos c0]; exact ⟨(0, s, v), rfl, gm_SS_refl s, fun _ => L, Or.inl rfl⟩
    rw [if_neg c0]
    by_cases c1 : w % 4 = 3 ∨ gm_sh (gm_ck (gm_h s (v / 8))) ≠ 4
    · rw [if_pos c1]; exact ⟨(1, s, v), rfl, gm_SS_refl s, fun z => absurd (show (1 : Nat) = 0 from z) (by decide), Or.inr (Or.inl rfl)⟩
    rw [if_neg c1]
    have sh : gm_sh (gm_ck (gm_h s (v / 8))) = 4 := by
      by_cases z : gm_sh (gm_ck (gm_h s (v / 8))) = 4
      · exact z
      · exact absurd (Or.inr z) c1
    have ok := gm_look_take (side := w % 4 - 1) hP L sh
    cases H : gm_take (w % 4 - 1) (gm_q1 (gm_h s (v / 8))) 0 v (gm_u0 s) with
    | none => rw [H] at ok; exact ok.elim
    | some out =>
      have ss : gm_SS s out.2.2.2 := gm_SS_trans (show gm_SS s (gm_u0 s) from ⟨gm_le_refl s, rfl, rfl, rfl⟩) (gm_SS_take _ _ _ _ _ H)
      rw [H] at ok
      obtain ⟨c, u, p, s'⟩ := out
      cases c with
      | zero =>
        have L' : gm_L P cn G s' u := ok.1
        obtain ⟨r, h1, h2, h3, h4⟩ := ih (w / 4) s' u L'
        exact ⟨r, h1, gm_SS_trans ss h2, h3, h4⟩
      | succ c => exact ⟨(2, s', u), rfl, ss, fun z => absurd (show (2 : Nat) = 0 from z) (by decide), Or.inr (Or.inr rfl)⟩
/-- what look tells of a value -/
def gm_ans (s : gm_S) (v a : Nat) : Int32 := if a = 0 then nI (gm_sh (gm_ck (gm_h s (v / 8)))) else if a = 1 then (if gm_ck (gm_h s (v / 8)) < 3 then gm_ci (gm_h s (v / 8)) else 0) else (if v % 8 = 0 then 0 else 1)
theorem gm_L_ck {P : gm_P} {cn : Nat} {G : Nat → List (Lean.RArray Nat)} {s : gm_S} {v : Nat} (L : gm_L P cn G s v) : v / 8 < gm_n s ∧ 1 ≤ gm_ck (gm_h s (v / 8)) ∧ gm_ck (gm_h s (v / 8)) ≤ 6 := by
  obtain ⟨H, ⟨t, _, hv⟩, _⟩ := L
  refine ⟨hv.1, ?_⟩
  rcases H _ hv.1 with x | x | x | x | x
  · have := x.1; omega
  · have := x.1; omega
  · have := x.1; omega
  · have := x.1; omega
  · obtain ⟨_, _, _, _, _, hk, _⟩ := x
    rcases hk with q | q
    · have := q.1; omega
    · have := q.1; omega
def gx_setc (D : gx_D) (x : Int32) : gx_D := match D with | (x_cellCount, x_scopeCount, x_frameCount, x_mode, x_atToken, x_scope, x_current, x_callee, x_side, x_ending, x_faultLabel, x_stepsTaken, x_cellShape, x_cellLabel, x_cellOne, x_cellTwo, x_cellThree, x_scopeValue, x_scopeOuter, x_frameKind, x_frameOne, x_frameTwo, x_frameThree) => (x, x_scopeCount, x_frameCount, x_mode, x_atToken, x_scope, x_current, x_callee, x_side, x_ending, x_faultLabel, x_stepsTaken, x_cellShape, x_cellLabel, x_cellOne, x_cellTwo, x_cellThree, x_scopeValue, x_scopeOuter, x_frameKind, x_frameOne, x_frameTwo, x_frameThree)
theorem gx_back {s s' : gm_S} {D : gx_D} (h : gx_H s' D) (ss : gm_SS s s') : gx_H s (gx_setc D (nI (gm_n s))) := by
  obtain ⟨x_cellCount, x_scopeCount, x_frameCount, x_mode, x_atToken, x_scope, x_current, x_callee, x_side, x_ending, x_faultLabel, x_stepsTaken, x_cellShape, x_cellLabel, x_cellOne, x_cellTwo, x_cellThree, x_scopeValue, x_scopeOuter, x_frameKind, x_frameOne, x_frameTwo, x_frameThree⟩ := D
  obtain ⟨⟨a1, a2, a3⟩, a4, a5, a6, a7, a8⟩ := h
  obtain ⟨le, m, e, T⟩ := ss
  refine ⟨⟨rfl, Nat.le_trans le.1 a2, fun c hc => ?_⟩, ?_, ?_, ?_, ?_, ?_⟩
  · have := a3 c (Nat.lt_of_lt_of_le hc le.1)
    rw [le.2.1 c hc] at this
    exact this
  · rw [← m]; exact a4
  · rw [← m]; exact a5
  · rw [← T]; exact a6
  · rw [← T]; exact a7
  · intro w w0 w1
    rw [← e]
    exact a8 w w0 (by rw [m]; exact w1)
def gy_setv (D : gy_D) (x : Int32) : gy_D := match D with | (y_values, y_variables, y_waits, y_at, y_world, y_steps, y_blame, y_result, y_sort, y_one, y_two, y_from, y_to, y_label, y_held, y_around, y_waiting, y_operand, y_outer, y_kept) => (x, y_variables, y_waits, y_at, y_world, y_steps, 0, y_result, y_sort, y_one, y_two, y_from, y_to, y_label, y_held, y_around, y_waiting, y_operand, y_outer, y_kept)
theorem gy_back {ty : Nat → Int32} {s s' : gm_S} {E : gy_D} (h : gy_H ty s' (gy_clr E)) (ss : gm_SS s s') : gy_H ty s (gy_setv E (nI (gm_n s))) := by
  obtain ⟨y_values, y_variables, y_waits, y_at, y_world, y_steps, y_blame, y_result, y_sort, y_one, y_two, y_from, y_to, y_label, y_held, y_around, y_waiting, y_operand, y_outer, y_kept⟩ := E
  obtain ⟨⟨a1, a2, a3⟩, a4, a5, a6, a7, a8, a9, a10⟩ := h
  obtain ⟨le, m, e, T⟩ := ss
  refine ⟨⟨rfl, Nat.le_trans le.1 a2, fun c hc => ?_⟩, ?_, ?_, ?_, ?_, ?_, rfl, ?_⟩
  · have := a3 c (Nat.lt_of_lt_of_le hc le.1)
    rw [le.2.1 c hc] at this
    exact this
  · rw [← m]; exact a4
  · rw [← m]; exact a5
  · rw [← m]; exact a6
  · rw [← T]; exact a7
  · rw [← T]; exact a8
  · intro w w0 w1
    rw [← e]
    exact a10 w w0 (by rw [m]; exact w1)
theorem gy_clr_H {ty : Nat → Int32} {s : gm_S} {E : gy_D} (h : gy_H ty s E) : gy_H ty s (gy_clr E) := by
  obtain ⟨y_values, y_variables, y_waits, y_at, y_world, y_steps, y_blame, y_result, y_sort, y_one, y_two, y_from, y_to, y_label, y_held, y_around, y_waiting, y_operand, y_outer, y_kept⟩ := E
  obtain ⟨a1, a4, a5, a6, a7, a8, a9, a10⟩ := h
  exact ⟨a1, a4, a5, a6, a7, a8, rfl, a10⟩
section
variable {x_typeDraft x_typeCount x_count x_wrongAt x_keptPlace x_cellCount x_scopeCount x_frameCount x_mode x_atToken x_scope x_current x_callee x_side x_ending x_faultLabel x_stepsTaken x_runVerdict x_runBlame x_result : Int32} {x_named x_kinds x_values x_ends x_types x_operands x_targets x_cellShape x_cellLabel x_cellOne x_cellTwo x_cellThree x_scopeValue x_scopeOuter x_frameKind x_frameOne x_frameTwo x_frameThree : Nat → Int32}
theorem gr_xtake {side n v : Nat} {s : gm_S} {out : gm_O} {D : gx_D} {R : SX → Prop} (h2 : side < 2) (H : gm_take side n 0 v (gm_u0 s) = some out) (hH : gx_H s D) (hc : gx_cur D = nI (gm_xv v)) (hu : out.1 = 0 → gm_u out.2.2.2 < 1000000 ∧ gm_m out.2.2.2 < 64)
    (A : out.1 = 0 → ∀ D', gx_H out.2.2.2 D' → gx_cur D' = nI (gm_xv out.2.1) → gx_end D' = 0 → R (gx_X x_typeDraft x_typeCount x_count x_wrongAt x_keptPlace x_runVerdict x_runBlame x_result x_named x_kinds x_values x_ends x_types x_operands x_targets D')) (B : out.1 ≠ 0 → ∀ D', gx_E out D' → R (gx_X x_typeDraft x_typeCount x_count x_wrongAt x_keptPlace x_runVerdict x_runBlame x_result x_named x_kinds x_values x_ends x_types x_operands x_targets D')) : (match D with | (x_cellCount, x_scopeCount, x_frameCount, x_mode, x_atToken, x_scope, x_current, x_callee, x_side, x_ending, x_faultLabel, x_stepsTaken, x_cellShape, x_cellLabel, x_cellOne, x_cellTwo, x_cellThree, x_scopeValue, x_scopeOuter, x_frameKind, x_frameOne, x_frameTwo, x_frameThree) => wpX_workOut R (x_typeDraft, x_typeCount, x_count, x_wrongAt, x_keptPlace, x_cellCount, x_scopeCount, 0, 3, x_atToken, x_scope, x_current, x_callee, nI side, x_ending, x_faultLabel, x_stepsTaken, x_runVerdict, x_runBlame, x_result, x_named, x_kinds, x_values, x_ends, x_types, x_operands, x_targets, x_cellShape, x_cellLabel, x_cellOne, x_cellTwo, x_cellThree, x_scopeValue, x_scopeOuter, x_frameKind, x_frameOne, x_frameTwo, x_frameThree, 32768, 32768, 32768, 32768)) := by
  obtain ⟨x_cellCount, x_scopeCount, x_frameCount, x_mode, x_atToken, x_scope, x_current, x_callee, x_side, x_ending, x_faultLabel, x_stepsTaken, x_cellShape, x_cellLabel, x_cellOne, x_cellTwo, x_cellThree, x_scopeValue, x_scopeOuter, x_frameKind, x_frameOne, x_frameTwo, x_frameThree⟩ := D
  have go := gx_take_sim (post := R) (x_typeDraft := x_typeDraft) (x_typeCount := x_typeCount) (x_count := x_count) (x_wrongAt := x_wrongAt) (x_keptPlace := x_keptPlace) (x_runVerdict := x_runVerdict) (x_runBlame := x_runBlame) (x_result := x_result) (x_named := x_named) (x_kinds := x_kinds) (x_values := x_values) (x_ends := x_ends) (x_types := x_types) (x_operands := x_operands) (x_targets := x_targets) h2 n 0 v (gm_u0 s) out (x_cellCount, x_scopeCount, 0, 3, x_atToken, x_scope, x_current, x_callee, nI side, 5, x_faultLabel, x_stepsTaken, x_cellShape, x_cellLabel, x_cellOne, x_cellTwo, x_cellThree, x_scopeValue, x_scopeOuter, x_frameKind, x_frameOne, x_frameTwo, x_frameThree) 0 H (Nat.le_refl _) hH rfl rfl rfl hc ?_ (fun z D' hE => B z D' hE)
  · exact Exists.intro 1000002 (go 1000002 (by show 1000002 ≤ 1000002 + 0; omega))
  · intro D' z a1 a2 a3 a4 a5
    obtain ⟨u1, u2⟩ := hu z
    refine gx_last u1 u2 a1 a2 a4 (A z (gx_stop D') ?_ ?_ ?_)
    · obtain ⟨x_cellCount, x_scopeCount, x_frameCount, x_mode, x_atToken, x_scope, x_current, x_callee, x_side, x_ending, x_faultLabel, x_stepsTaken, x_cellShape, x_cellLabel, x_cellOne, x_cellTwo, x_cellThree, x_scopeValue, x_scopeOuter, x_frameKind, x_frameOne, x_frameTwo, x_frameThree⟩ := D'
      exact a1
    · obtain ⟨x_cellCount, x_scopeCount, x_frameCount, x_mode, x_atToken, x_scope, x_current, x_callee, x_side, x_ending, x_faultLabel, x_stepsTaken, x_cellShape, x_cellLabel, x_cellOne, x_cellTwo, x_cellThree, x_scopeValue, x_scopeOuter, x_frameKind, x_frameOne, x_frameTwo, x_frameThree⟩ := D'
      exact a5
    · obtain ⟨x_cellCount, x_scopeCount, x_frameCount, x_mode, x_atToken, x_scope, x_current, x_callee, x_side, x_ending, x_faultLabel, x_stepsTaken, x_cellShape, x_cellLabel, x_cellOne, x_cellTwo, x_cellThree, x_scopeValue, x_scopeOuter, x_frameKind, x_frameOne, x_frameTwo, x_frameThree⟩ := D'
      rfl
end
end
section
/-! ===== 45: look ===== -/
theorem gx_dig {w d : Nat} (hw : w < 2 ^ 31) (hd : d < 16) : (nI w >>> ((2 * nI d) &&& 31)) &&& 3 = nI (w / 4 ^ d % 4) := by
  rw [show (2 : Int32) * nI d = nI (2 * d) from pk_mul 2 d, pk_shrN hw (nI (2 * d) &&& 31) (2 * d) (s_l _ (by omega)), pk_andN (Nat.lt_of_le_of_lt (Nat.div_le_self _ _) (by omega)) 2 (by decide), Nat.pow_mul]
section
variable {x_typeDraft x_typeCount x_count x_wrongAt x_keptPlace x_cellCount x_scopeCount x_frameCount x_mode x_atToken x_scope x_current x_callee x_side x_ending x_faultLabel x_stepsTaken x_runVerdict x_runBlame x_result : Int32} {x_named x_kinds x_values x_ends x_types x_operands x_targets x_cellShape x_cellLabel x_cellOne x_cellTwo x_cellThree x_scopeValue x_scopeOuter x_frameKind x_frameOne x_frameTwo x_frameThree : Nat → Int32}
theorem gx_lk {post : Int32 → SX → Prop} {P : gm_P} {cn : Nat} {G : Nat → List (Lean.RArray Nat)} {w a n0 : Nat} (hP : gm_SF P cn G) (hw : w < 2 ^ 31) : ∀ (m d : Nat) (s : gm_S) (v : Nat) (D : gx_D) (r : Nat × gm_S × Nat), d + m = 16 → gm_lk m (w / 4 ^ d) s v = some r → gm_L P cn G s v → gx_H s D → gx_cur D = nI (gm_xv v) →
    (r.1 = 0 → ∀ D', gx_H r.2.1 D' → gx_cur D' = nI (gm_xv r.2.2) → (match D' with | (x_cellCount, x_scopeCount, x_frameCount, x_mode, x_atToken, x_scope, x_current, x_callee, x_side, x_ending, x_faultLabel, x_stepsTaken, x_cellShape, x_cellLabel, x_cellOne, x_cellTwo, x_cellThree, x_scopeValue, x_scopeOuter, x_frameKind, x_frameOne, x_frameTwo, x_frameThree) => wX_look_131 post (nI a) (nI n0) 0 x_typeDraft x_typeCount x_count x_wrongAt x_keptPlace x_cellCount x_scopeCount x_frameCount x_mode x_atToken x_scope x_current x_callee x_side x_ending x_faultLabel x_stepsTaken x_runVerdict x_runBlame x_result x_named x_kinds x_values x_ends x_types x_operands x_targets x_cellShape x_cellLabel x_cellOne x_cellTwo x_cellThree x_scopeValue x_scopeOuter x_frameKind x_frameOne x_frameTwo x_frameThree 32768 32768 32768 32768)) → (r.1 = 1 → ∀ D', gx_H r.2.1 D' → post (-1) (gx_X x_typeDraft x_typeCount x_count x_wrongAt x_keptPlace x_runVerdict x_runBlame x_result x_named x_kinds x_values x_ends x_types x_operands x_targets (gx_setc D' (nI n0)))) → (r.1 = 2 → ∀ D', gx_H r.2.1 D' → post (-2) (gx_X x_typeDraft x_typeCount x_count x_wrongAt x_keptPlace x_runVerdict x_runBlame x_result x_named x_kinds x_values x_ends x_types x_operands x_targets (gx_setc D' (nI n0)))) →
    (match D with | (x_cellCount, x_scopeCount, x_frameCount, x_mode, x_atToken, x_scope, x_current, x_callee, x_side, x_ending, x_faultLabel, x_stepsTaken, x_cellShape, x_cellLabel, x_cellOne, x_cellTwo, x_cellThree, x_scopeValue, x_scopeOuter, x_frameKind, x_frameOne, x_frameTwo, x_frameThree) => wX_look_41 post (nI w) (nI a) (nI n0) (m + 2) 0 (nI d) x_typeDraft x_typeCount x_count x_wrongAt x_keptPlace x_cellCount x_scopeCount x_frameCount x_mode x_atToken x_scope x_current x_callee x_side x_ending x_faultLabel x_stepsTaken x_runVerdict x_runBlame x_result x_named x_kinds x_values x_ends x_types x_operands x_targets x_cellShape x_cellLabel x_cellOne x_cellTwo x_cellThree x_scopeValue x_scopeOuter x_frameKind x_frameOne x_frameTwo x_frameThree 32768 32768 32768 32768) := by
  intro m
  induction m with
  | zero =>
    intro d s v D r hd H L hH hc K0 K1 K2
    have e : some (0, s, v) = some r := H
    injection e with e
    subst e
    have k := K0 rfl D hH hc
    have e16 : d = 16 := by omega
    subst e16
    obtain ⟨x_cellCount, x_scopeCount, x_frameCount, x_mode, x_atToken, x_scope, x_current, x_callee, x_side, x_ending, x_faultLabel, x_stepsTaken, x_cellShape, x_cellLabel, x_cellOne, x_cellTwo, x_cellThree, x_scopeValue, x_scopeOuter, x_frameKind, x_frameOne, x_frameTwo, x_frameThree⟩ := D
    exact br_t (by decide) k
  | succ m ih =>
    intro d s v D r hd H L hH hc K0 K1 K2
    simp only [gm_lk] at H
    obtain ⟨lv, ck1, ck6⟩ := gm_L_ck L
    /- a failure is told at the next digit -/
    have fail : ∀ (f : Int32) (D' : gx_D) (x : Nat) (k : Nat), ¬ f = 0 → post f (gx_X x_typeDraft x_typeCount x_count x_wrongAt x_keptPlace x_runVerdict x_runBlame x_result x_named x_kinds x_values x_ends x_types x_operands x_targets (gx_setc D' (nI n0))) → (match D' with | (x_cellCount, x_scopeCount, x_frameCount, x_mode, x_atToken, x_scope, x_current, x_callee, x_side, x_ending, x_faultLabel, x_stepsTaken, x_cellShape, x_cellLabel, x_cellOne, x_cellTwo, x_cellThree, x_scopeValue, x_scopeOuter, x_frameKind, x_frameOne, x_frameTwo, x_frameThree) => wX_look_41 post (nI w) (nI a) (nI n0) (k + 1) f (nI x) x_typeDraft x_typeCount x_count x_wrongAt x_keptPlace x_cellCount x_scopeCount x_frameCount x_mode x_atToken x_scope x_current x_callee x_side x_ending x_faultLabel x_stepsTaken x_runVerdict x_runBlame x_result x_named x_kinds x_values x_ends x_types x_operands x_targets x_cellShape x_cellLabel x_cellOne x_cellTwo x_cellThree x_scopeValue x_scopeOuter x_frameKind x_frameOne x_frameTwo x_frameThree 32768 32768 32768 32768) := by
      intro f D' x k nf h
      obtain ⟨x_cellCount, x_scopeCount, x_frameCount, x_mode, x_atToken, x_scope, x_current, x_callee, x_side, x_ending, x_faultLabel, x_stepsTaken, x_cellShape, x_cellLabel, x_cellOne, x_cellTwo, x_cellThree, x_scopeValue, x_scopeOuter, x_frameKind, x_frameOne, x_frameTwo, x_frameThree⟩ := D'
      have l : wX_look_131 post (nI a) (nI n0) f x_typeDraft x_typeCount x_count x_wrongAt x_keptPlace x_cellCount x_scopeCount x_frameCount x_mode x_atToken x_scope x_current x_callee x_side x_ending x_faultLabel x_stepsTaken x_runVerdict x_runBlame x_result x_named x_kinds x_values x_ends x_types x_operands x_targets x_cellShape x_cellLabel x_cellOne x_cellTwo x_cellThree x_scopeValue x_scopeOuter x_frameKind x_frameOne x_frameTwo x_frameThree 32768 32768 32768 32768 := br_f nf h
      exact br_c (fun _ => l) (fun _ => br_f nf l)
    have t4 : w / 4 ^ d % 4 < 4 := Nat.mod_lt _ (by decide)
    have take : ∀ out, ¬ w / 4 ^ d % 4 = 0 → ¬ (w / 4 ^ d % 4 = 3 ∨ gm_sh (gm_ck (gm_h s (v / 8))) ≠ 4) → gm_take (w / 4 ^ d % 4 - 1) (gm_q1 (gm_h s (v / 8))) 0 v (gm_u0 s) = some out → (out.1 = 0 → gm_lk m (w / 4 ^ d / 4) out.2.2.2 out.2.1 = some r) → (out.1 ≠ 0 → r = (2, out.2.2.2, out.2.1)) → (match D with | (x_cellCount, x_scopeCount, x_frameCount, x_mode, x_atToken, x_scope, x_current, x_callee, x_side, x_ending, x_faultLabel, x_stepsTaken, x_cellShape, x_cellLabel, x_cellOne, x_cellTwo, x_cellThree, x_scopeValue, x_scopeOuter, x_frameKind, x_frameOne, x_frameTwo, x_frameThree) => wpX_workOut (fun u => match u with | (x_typeDraft, x_typeCount, x_count, x_wrongAt, x_keptPlace, x_cellCount, x_scopeCount, x_frameCount, x_mode, x_atToken, x_scope, x_current, x_callee, x_side, x_ending, x_faultLabel, x_stepsTaken, x_runVerdict, x_runBlame, x_result, x_named, x_kinds, x_values, x_ends, x_types, x_operands, x_targets, x_cellShape, x_cellLabel, x_cellOne, x_cellTwo, x_cellThree, x_scopeValue, x_scopeOuter, x_frameKind, x_frameOne, x_frameTwo, x_frameThree, x_nKind, x_nOne, x_nTwo, x_nThree) => (((x_ending = 0 → (∀ z : Int32, z = nI d + 1 → (wX_look_41 post (nI w) (nI a) (nI n0) (m + 2) 0 z x_typeDraft x_typeCount x_count x_wrongAt x_keptPlace x_cellCount x_scopeCount x_frameCount x_mode x_atToken x_scope x_current x_callee x_side x_ending x_faultLabel x_stepsTaken x_runVerdict x_runBlame x_result x_named x_kinds x_values x_ends x_types x_operands x_targets x_cellShape x_cellLabel x_cellOne x_cellTwo x_cellThree x_scopeValue x_scopeOuter x_frameKind x_frameOne x_frameTwo x_frameThree x_nKind x_nOne x_nTwo x_nThree))) ∧ (¬ x_ending = 0 → (∀ z : Int32, z = nI d + 1 → (wX_look_41 post (nI w) (nI a) (nI n0) (m + 2) (-2) z x_typeDraft x_typeCount x_count x_wrongAt x_keptPlace x_cellCount x_scopeCount x_frameCount x_mode x_atToken x_scope x_current x_callee x_side x_ending x_faultLabel x_stepsTaken x_runVerdict x_runBlame x_result x_named x_kinds x_values x_ends x_types x_operands x_targets x_cellShape x_cellLabel x_cellOne x_cellTwo x_cellThree x_scopeValue x_scopeOuter x_frameKind x_frameOne x_frameTwo x_frameThree x_nKind x_nOne x_nTwo x_nThree)))))) (x_typeDraft, x_typeCount, x_count, x_wrongAt, x_keptPlace, x_cellCount, x_scopeCount, 0, 3, x_atToken, x_scope, x_current, x_callee, nI (w / 4 ^ d % 4 - 1), x_ending, x_faultLabel, x_stepsTaken, x_runVerdict, x_runBlame, x_result, x_named, x_kinds, x_values, x_ends, x_types, x_operands, x_targets, x_cellShape, x_cellLabel, x_cellOne, x_cellTwo, x_cellThree, x_scopeValue, x_scopeOuter, x_frameKind, x_frameOne, x_frameTwo, x_frameThree, 32768, 32768, 32768, 32768)) := by
      intro out c0 c1 Ht o1 o2
      have sh : gm_sh (gm_ck (gm_h s (v / 8))) = 4 := by
        by_cases z : gm_sh (gm_ck (gm_h s (v / 8))) = 4
        · exact z
        · exact absurd (Or.inr z) c1
      have ok := gm_look_take (side := w / 4 ^ d % 4 - 1) hP L sh
      rw [Ht] at ok
      have c3 : ¬ w / 4 ^ d % 4 = 3 := fun z => c1 (Or.inl z)
      refine gr_xtake (x_typeDraft := x_typeDraft) (x_typeCount := x_typeCount) (x_count := x_count) (x_wrongAt := x_wrongAt) (x_keptPlace := x_keptPlace) (x_runVerdict := x_runVerdict) (x_runBlame := x_runBlame) (x_result := x_result) (x_named := x_named) (x_kinds := x_kinds) (x_values := x_values) (x_ends := x_ends) (x_types := x_types) (x_operands := x_operands) (x_targets := x_targets) (by omega) Ht hH hc (fun z => ⟨(gm_ok_e ok z).2.2.1, (gm_ok_e ok z).2.2.2.2⟩) ?_ ?_
      · intro z D' h1 h2 h3
        have k := ih (d + 1) out.2.2.2 out.2.1 D' r (by omega) (by rw [Nat.pow_succ, ← Nat.div_div_eq_div_mul]; exact o1 z) (gm_ok_e ok z).1 h1 h2 K0 K1 K2
        obtain ⟨x_cellCount, x_scopeCount, x_frameCount, x_mode, x_atToken, x_scope, x_current, x_callee, x_side, x_ending, x_faultLabel, x_stepsTaken, x_cellShape, x_cellLabel, x_cellOne, x_cellTwo, x_cellThree, x_scopeValue, x_scopeOuter, x_frameKind, x_frameOne, x_frameTwo, x_frameThree⟩ := D'
        exact br_t h3 (nm_r (nI_1 d) k)
      · intro z D' hE
        have c4 := gm_take_code _ _ _ _ _ Ht z
        have er := o2 z
        have k := fail (-2) D' (d + 1) (m + 1) (by decide) (K2 (by rw [er]) D' (by rw [er]; exact hE.2.2.2.2))
        have en := hE.2.1
        rw [c4] at en
        obtain ⟨x_cellCount, x_scopeCount, x_frameCount, x_mode, x_atToken, x_scope, x_current, x_callee, x_side, x_ending, x_faultLabel, x_stepsTaken, x_cellShape, x_cellLabel, x_cellOne, x_cellTwo, x_cellThree, x_scopeValue, x_scopeOuter, x_frameKind, x_frameOne, x_frameTwo, x_frameThree⟩ := D'
        have en' : x_ending = nI 4 := en
        exact br_f (by rw [en']; decide) (nm_r (nI_1 d) k)
    have bad : r = (1, s, v) → ∀ k, (match D with | (x_cellCount, x_scopeCount, x_frameCount, x_mode, x_atToken, x_scope, x_current, x_callee, x_side, x_ending, x_faultLabel, x_stepsTaken, x_cellShape, x_cellLabel, x_cellOne, x_cellTwo, x_cellThree, x_scopeValue, x_scopeOuter, x_frameKind, x_frameOne, x_frameTwo, x_frameThree) => wX_look_41 post (nI w) (nI a) (nI n0) (k + 1) (-1) (nI (d + 1)) x_typeDraft x_typeCount x_count x_wrongAt x_keptPlace x_cellCount x_scopeCount x_frameCount x_mode x_atToken x_scope x_current x_callee x_side x_ending x_faultLabel x_stepsTaken x_runVerdict x_runBlame x_result x_named x_kinds x_values x_ends x_types x_operands x_targets x_cellShape x_cellLabel x_cellOne x_cellTwo x_cellThree x_scopeValue x_scopeOuter x_frameKind x_frameOne x_frameTwo x_frameThree 32768 32768 32768 32768) := fun er k => fail (-1) D (d + 1) k (by decide) (K1 (by rw [er]) D (by rw [er]; exact hH))
    by_cases c0 : w / 4 ^ d % 4 = 0
    · rw [if_pos c0] at H
      injection H with H
      have k := K0 (by rw [← H]) D (by rw [← H]; exact hH) (by rw [← H]; exact hc)
      obtain ⟨x_cellCount, x_scopeCount, x_frameCount, x_mode, x_atToken, x_scope, x_current, x_callee, x_side, x_ending, x_faultLabel, x_stepsTaken, x_cellShape, x_cellLabel, x_cellOne, x_cellTwo, x_cellThree, x_scopeValue, x_scopeOuter, x_frameKind, x_frameOne, x_frameTwo, x_frameThree⟩ := D
      refine br_f (nI_ge (b := 16) (by omega) (by decide)) (br_t rfl (nm_r (gx_dig hw (by omega)) ?_))
      rw [c0]
      exact br_t rfl k
    rw [if_neg c0] at H
    by_cases c1 : w / 4 ^ d % 4 = 3 ∨ gm_sh (gm_ck (gm_h s (v / 8))) ≠ 4
    · rw [if_pos c1] at H
      injection H with H
      have b := bad H.symm (m + 1)
      obtain ⟨x_cellCount, x_scopeCount, x_frameCount, x_mode, x_atToken, x_scope, x_current, x_callee, x_side, x_ending, x_faultLabel, x_stepsTaken, x_cellShape, x_cellLabel, x_cellOne, x_cellTwo, x_cellThree, x_scopeValue, x_scopeOuter, x_frameKind, x_frameOne, x_frameTwo, x_frameThree⟩ := D
      have hc' : x_current = nI (gm_xv v) := hc
      subst hc'
      obtain ⟨⟨h1, h2, h3⟩, _⟩ := hH
      have cv := (h3 _ lv).1
      refine br_f (nI_ge (b := 16) (by omega) (by decide)) (br_t rfl (nm_r (gx_dig hw (by omega)) (pk_eq (w / 4 ^ d % 4) 0 (fun z => absurd z c0) (fun _ => pk_eq (w / 4 ^ d % 4) 3 (fun z => nm_r (nI_1 d) b) (fun n3 => ?_)))))
      have nsh : gm_sh (gm_ck (gm_h s (v / 8))) ≠ 4 := c1.resolve_left n3
      have ls : gm_sh (gm_ck (gm_h s (v / 8))) < 8 := by unfold gm_sh; split <;> (try split) <;> omega
      rw [gx_shr (by omega), nI_clamp (show v / 8 < 2 ^ 31 by omega), cv]
      exact And.intro (vp_in_nI (by omega) (by decide)) (pk_eq (gm_sh (gm_ck (gm_h s (v / 8)))) 4 (fun z => absurd z nsh) (fun _ => nm_r (nI_1 d) b))
    · rw [if_neg c1] at H
      have sh : gm_sh (gm_ck (gm_h s (v / 8))) = 4 := by
        by_cases z : gm_sh (gm_ck (gm_h s (v / 8))) = 4
        · exact z
        · exact absurd (Or.inr z) c1
      have c3 : ¬ w / 4 ^ d % 4 = 3 := fun z => c1 (Or.inl z)
      have tk : (match D with | (x_cellCount, x_scopeCount, x_frameCount, x_mode, x_atToken, x_scope, x_current, x_callee, x_side, x_ending, x_faultLabel, x_stepsTaken, x_cellShape, x_cellLabel, x_cellOne, x_cellTwo, x_cellThree, x_scopeValue, x_scopeOuter, x_frameKind, x_frameOne, x_frameTwo, x_frameThree) => wpX_workOut (fun u => match u with | (x_typeDraft, x_typeCount, x_count, x_wrongAt, x_keptPlace, x_cellCount, x_scopeCount, x_frameCount, x_mode, x_atToken, x_scope, x_current, x_callee, x_side, x_ending, x_faultLabel, x_stepsTaken, x_runVerdict, x_runBlame, x_result, x_named, x_kinds, x_values, x_ends, x_types, x_operands, x_targets, x_cellShape, x_cellLabel, x_cellOne, x_cellTwo, x_cellThree, x_scopeValue, x_scopeOuter, x_frameKind, x_frameOne, x_frameTwo, x_frameThree, x_nKind, x_nOne, x_nTwo, x_nThree) => (((x_ending = 0 → (∀ z : Int32, z = nI d + 1 → (wX_look_41 post (nI w) (nI a) (nI n0) (m + 2) 0 z x_typeDraft x_typeCount x_count x_wrongAt x_keptPlace x_cellCount x_scopeCount x_frameCount x_mode x_atToken x_scope x_current x_callee x_side x_ending x_faultLabel x_stepsTaken x_runVerdict x_runBlame x_result x_named x_kinds x_values x_ends x_types x_operands x_targets x_cellShape x_cellLabel x_cellOne x_cellTwo x_cellThree x_scopeValue x_scopeOuter x_frameKind x_frameOne x_frameTwo x_frameThree x_nKind x_nOne x_nTwo x_nThree))) ∧ (¬ x_ending = 0 → (∀ z : Int32, z = nI d + 1 → (wX_look_41 post (nI w) (nI a) (nI n0) (m + 2) (-2) z x_typeDraft x_typeCount x_count x_wrongAt x_keptPlace x_cellCount x_scopeCount x_frameCount x_mode x_atToken x_scope x_current x_callee x_side x_ending x_faultLabel x_stepsTaken x_runVerdict x_runBlame x_result x_named x_kinds x_values x_ends x_types x_operands x_targets x_cellShape x_cellLabel x_cellOne x_cellTwo x_cellThree x_scopeValue x_scopeOuter x_frameKind x_frameOne x_frameTwo x_frameThree x_nKind x_nOne x_nTwo x_nThree)))))) (x_typeDraft, x_typeCount, x_count, x_wrongAt, x_keptPlace, x_cellCount, x_scopeCount, 0, 3, x_atToken, x_scope, x_current, x_callee, nI (w / 4 ^ d % 4 - 1), x_ending, x_faultLabel, x_stepsTaken, x_runVerdict, x_runBlame, x_result, x_named, x_kinds, x_values, x_ends, x_types, x_operands, x_targets, x_cellShape, x_cellLabel, x_cellOne, x_cellTwo, x_cellThree, x_scopeValue, x_scopeOuter, x_frameKind, x_frameOne, x_frameTwo, x_frameThree, 32768, 32768, 32768, 32768)) := by
        refine gm_lk2_e H ?_ ?_
        · intro out e z H1
          exact take out c0 c1 e (fun _ => H1) (fun y => absurd z y)
        · intro out e z er
          exact take out c0 c1 e (fun y => absurd y z) (fun _ => er)
      obtain ⟨x_cellCount, x_scopeCount, x_frameCount, x_mode, x_atToken, x_scope, x_current, x_callee, x_side, x_ending, x_faultLabel, x_stepsTaken, x_cellShape, x_cellLabel, x_cellOne, x_cellTwo, x_cellThree, x_scopeValue, x_scopeOuter, x_frameKind, x_frameOne, x_frameTwo, x_frameThree⟩ := D
      have hc' : x_current = nI (gm_xv v) := hc
      subst hc'
      obtain ⟨⟨h1, h2, h3⟩, _⟩ := hH
      have cv := (h3 _ lv).1
      refine br_f (nI_ge (b := 16) (by omega) (by decide)) (br_t rfl (nm_r (gx_dig hw (by omega)) (pk_eq (w / 4 ^ d % 4) 0 (fun z => absurd z c0) (fun _ => pk_eq (w / 4 ^ d % 4) 3 (fun z => absurd z c3) (fun n3 => ?_)))))
      rw [gx_shr (by omega), nI_clamp (show v / 8 < 2 ^ 31 by omega), cv, sh, show nI (w / 4 ^ d % 4) - 1 = nI (w / 4 ^ d % 4 - 1) from pk_sub (b := 1) (by omega)]
      exact And.intro (vp_in_nI (by omega) (by decide)) (br_t rfl tk)
theorem gx_facet {post : Int32 → SX → Prop} {P : gm_P} {cn : Nat} {G : Nat → List (Lean.RArray Nat)} {a n0 v : Nat} {s : gm_S} {D : gx_D} (ha : a < 3) (L : gm_L P cn G s v) (hH : gx_H s D) (hc : gx_cur D = nI (gm_xv v)) (K : post (gm_ans s v a) (gx_X x_typeDraft x_typeCount x_count x_wrongAt x_keptPlace x_runVerdict x_runBlame x_result x_named x_kinds x_values x_ends x_types x_operands x_targets (gx_setc D (nI n0)))) : (match D with | (x_cellCount, x_scopeCount, x_frameCount, x_mode, x_atToken, x_scope, x_current, x_callee, x_side, x_ending, x_faultLabel, x_stepsTaken, x_cellShape, x_cellLabel, x_cellOne, x_cellTwo, x_cellThree, x_scopeValue, x_scopeOuter, x_frameKind, x_frameOne, x_frameTwo, x_frameThree) => wX_look_131 post (nI a) (nI n0) 0 x_typeDraft x_typeCount x_count x_wrongAt x_keptPlace x_cellCount x_scopeCount x_frameCount x_mode x_atToken x_scope x_current x_callee x_side x_ending x_faultLabel x_stepsTaken x_runVerdict x_runBlame x_result x_named x_kinds x_values x_ends x_types x_operands x_targets x_cellShape x_cellLabel x_cellOne x_cellTwo x_cellThree x_scopeValue x_scopeOuter x_frameKind x_frameOne x_frameTwo x_frameThree 32768 32768 32768 32768) := by
  obtain ⟨lv, ck1, ck6⟩ := gm_L_ck L
  obtain ⟨x_cellCount, x_scopeCount, x_frameCount, x_mode, x_atToken, x_scope, x_current, x_callee, x_side, x_ending, x_faultLabel, x_stepsTaken, x_cellShape, x_cellLabel, x_cellOne, x_cellTwo, x_cellThree, x_scopeValue, x_scopeOuter, x_frameKind, x_frameOne, x_frameTwo, x_frameThree⟩ := D
  have hc' : x_current = nI (gm_xv v) := hc
  subst hc'
  obtain ⟨⟨h1, h2, h3⟩, _⟩ := hH
  have cv := h3 _ lv
  have ls : gm_sh (gm_ck (gm_h s (v / 8))) < 8 := by unfold gm_sh; split <;> (try split) <;> omega
  unfold gm_ans at K
  refine br_t rfl ?_
  unfold wpX_facet
  dsimp only
  rw [gx_shr (by omega), nI_clamp (show v / 8 < 2 ^ 31 by omega), cv.1]
  have vin : vp_in (nI (v / 8)) 8192 := vp_in_nI (by omega) (by decide)
  refine And.intro vin (nm_e (pk_eq a 0 (fun z => ?_) (fun n0' => pk_eq a 1 (fun z => ?_) (fun n1 => ?_))))
  · rw [if_pos z] at K
    exact K
  · rw [if_neg n0', if_pos z] at K
    have f30 : gm_ck (gm_h s (v / 8)) < 3 → wX_facet_30 (fun r => post r (x_typeDraft, x_typeCount, x_count, x_wrongAt, x_keptPlace, nI n0, x_scopeCount, x_frameCount, x_mode, x_atToken, x_scope, nI (gm_xv v), x_callee, x_side, x_ending, x_faultLabel, x_stepsTaken, x_runVerdict, x_runBlame, x_result, x_named, x_kinds, x_values, x_ends, x_types, x_operands, x_targets, x_cellShape, x_cellLabel, x_cellOne, x_cellTwo, x_cellThree, x_scopeValue, x_scopeOuter, x_frameKind, x_frameOne, x_frameTwo, x_frameThree, 32768, 32768, 32768, 32768)) (nI (gm_xv v)) x_typeDraft x_typeCount x_count x_wrongAt x_keptPlace (nI n0) x_scopeCount x_frameCount x_mode x_atToken x_scope (nI (gm_xv v)) x_callee x_side x_ending x_faultLabel x_stepsTaken x_runVerdict x_runBlame x_result x_named x_kinds x_values x_ends x_types x_operands x_targets x_cellShape x_cellLabel x_cellOne x_cellTwo x_cellThree x_scopeValue x_scopeOuter x_frameKind x_frameOne x_frameTwo x_frameThree 32768 32768 32768 32768 := by
      intro c3
      rw [if_pos c3] at K
      unfold wX_facet_30
      rw [gx_shr (by omega), nI_clamp (show v / 8 < 2 ^ 31 by omega), cv.2.2.1 c3]
      exact And.intro vin K
    have es : gm_sh (gm_ck (gm_h s (v / 8))) = (if gm_ck (gm_h s (v / 8)) < 3 then gm_ck (gm_h s (v / 8)) else if gm_ck (gm_h s (v / 8)) < 5 then 3 else 4) := rfl
    refine pk_eq (gm_sh (gm_ck (gm_h s (v / 8)))) 1 (fun z1 => f30 ?_) (fun z1 => pk_eq (gm_sh (gm_ck (gm_h s (v / 8)))) 2 (fun z2 => f30 ?_) (fun z2 => ?_))
    · rw [es] at z1; split at z1 <;> (try split at z1) <;> omega
    · rw [es] at z2; split at z2 <;> (try split at z2) <;> omega
    · have n3 : ¬ gm_ck (gm_h s (v / 8)) < 3 := by
        intro y
        rw [es, if_pos y] at z1 z2
        omega
      rw [if_neg n3] at K
      exact K
  · rw [if_neg n0', if_neg n1] at K
    have e1 : nI (gm_xv v) &&& 1 = (if v % 8 = 0 then 0 else 1) := by
      have := gm_xv_div v
      rw [pk_andN (by omega) 1 (by decide), show (2 : Nat) ^ 1 = 2 from rfl, gm_xv_mod]
      split <;> rfl
    rw [e1]
    exact K
end
section
variable {y_parts y_count y_place y_where y_values y_variables y_waits y_at y_world y_steps y_blame y_result y_given : Int32} {y_ty y_part y_kind y_end y_state y_with y_runKind y_runEnd y_runWith y_sort y_one y_two y_from y_to y_label y_held y_around y_waiting y_operand y_outer y_kept : Nat → Int32}
theorem gy_lk {post : Int32 → SY → Prop} {P : gm_P} {cn : Nat} {G : Nat → List (Lean.RArray Nat)} {a n0 : Nat} (hP : gm_SF P cn G) (hK : gy_K y_ty) : ∀ (m w : Nat) (s : gm_S) (v : Nat) (E : gy_D) (r : Nat × gm_S × Nat), w < 4 ^ m → w < 2 ^ 31 → gm_lk m w s v = some r → gm_L P cn G s v → gy_H y_ty s E →
    (r.1 = 0 → ∀ E', gy_H y_ty r.2.1 E' → gy_rs E' = gy_rs E → (match E' with | (y_values, y_variables, y_waits, y_at, y_world, y_steps, y_blame, y_result, y_sort, y_one, y_two, y_from, y_to, y_label, y_held, y_around, y_waiting, y_operand, y_outer, y_kept) => wY_look_134 post (nI a) (nI n0) (nI r.2.2) (-3) y_parts y_count y_place y_where y_values y_variables y_waits y_at y_world y_steps y_blame y_result y_given y_ty y_part y_kind y_end y_state y_with y_runKind y_runEnd y_runWith y_sort y_one y_two y_from y_to y_label y_held y_around y_waiting y_operand y_outer y_kept)) → (r.1 = 1 → ∀ E', gy_H y_ty r.2.1 (gy_clr E') → gy_rs E' = gy_rs E → post (-1) (gy_Y y_parts y_count y_place y_where y_given y_ty y_part y_kind y_end y_state y_with y_runKind y_runEnd y_runWith (gy_setv E' (nI n0)))) → (r.1 = 2 → ∀ E', gy_H y_ty r.2.1 (gy_clr E') → gy_rs E' = gy_rs E → post (-2) (gy_Y y_parts y_count y_place y_where y_given y_ty y_part y_kind y_end y_state y_with y_runKind y_runEnd y_runWith (gy_setv E' (nI n0)))) →
    (match E with | (y_values, y_variables, y_waits, y_at, y_world, y_steps, y_blame, y_result, y_sort, y_one, y_two, y_from, y_to, y_label, y_held, y_around, y_waiting, y_operand, y_outer, y_kept) => wY_look_39 post (nI a) (nI n0) (m + 2) (nI v) (-3) (nI w) y_parts y_count y_place y_where y_values y_variables y_waits y_at y_world y_steps y_blame y_result y_given y_ty y_part y_kind y_end y_state y_with y_runKind y_runEnd y_runWith y_sort y_one y_two y_from y_to y_label y_held y_around y_waiting y_operand y_outer y_kept) := by
  intro m
  induction m with
  | zero =>
    intro w s v E r hw _ H L hH K0 K1 K2
    have e : some (0, s, v) = some r := H
    injection e with e
    subst e
    have k := K0 rfl E hH rfl
    have e0 : w = 0 := by rw [Nat.pow_zero] at hw; omega
    subst e0
    obtain ⟨y_values, y_variables, y_waits, y_at, y_world, y_steps, y_blame, y_result, y_sort, y_one, y_two, y_from, y_to, y_label, y_held, y_around, y_waiting, y_operand, y_outer, y_kept⟩ := E
    exact br_t (by decide) k
  | succ m ih =>
    intro w s v E r hw hw31 H L hH K0 K1 K2
    simp only [gm_lk] at H
    obtain ⟨lv, ck1, ck6⟩ := gm_L_ck L
    have e3 : nI w &&& 3 = nI (w % 4) := pk_andN (by omega) 2 (by decide)
    have e2 : nI w >>> ((2 : Int32) &&& 31) = nI (w / 4) := pk_shrN hw31 ((2 : Int32) &&& 31) 2 (by decide)
    have fail : ∀ (f : Int32) (E' : gy_D) (x y : Int32) (k : Nat), ¬ f = -3 → post f (gy_Y y_parts y_count y_place y_where y_given y_ty y_part y_kind y_end y_state y_with y_runKind y_runEnd y_runWith (gy_setv E' (nI n0))) → (match E' with | (y_values, y_variables, y_waits, y_at, y_world, y_steps, y_blame, y_result, y_sort, y_one, y_two, y_from, y_to, y_label, y_held, y_around, y_waiting, y_operand, y_outer, y_kept) => wY_look_39 post (nI a) (nI n0) (k + 1) x f y y_parts y_count y_place y_where y_values y_variables y_waits y_at y_world y_steps y_blame y_result y_given y_ty y_part y_kind y_end y_state y_with y_runKind y_runEnd y_runWith y_sort y_one y_two y_from y_to y_label y_held y_around y_waiting y_operand y_outer y_kept) := by
      intro f E' x y k nf h
      obtain ⟨y_values, y_variables, y_waits, y_at, y_world, y_steps, y_blame, y_result, y_sort, y_one, y_two, y_from, y_to, y_label, y_held, y_around, y_waiting, y_operand, y_outer, y_kept⟩ := E'
      have l : wY_look_134 post (nI a) (nI n0) x f y_parts y_count y_place y_where y_values y_variables y_waits y_at y_world y_steps y_blame y_result y_given y_ty y_part y_kind y_end y_state y_with y_runKind y_runEnd y_runWith y_sort y_one y_two y_from y_to y_label y_held y_around y_waiting y_operand y_outer y_kept := br_f nf h
      exact br_c (fun _ => l) (fun _ => br_f nf l)
    have t4 : w % 4 < 4 := Nat.mod_lt _ (by decide)
    by_cases c0 : w % 4 = 0
    · rw [if_pos c0] at H
      injection H with H
      have k := K0 (by rw [← H]) E (by rw [← H]; exact hH) rfl
      rw [← H] at k
      obtain ⟨y_values, y_variables, y_waits, y_at, y_world, y_steps, y_blame, y_result, y_sort, y_one, y_two, y_from, y_to, y_label, y_held, y_around, y_waiting, y_operand, y_outer, y_kept⟩ := E
      refine br_t ?_ k
      rw [e3, c0]
      rfl
    rw [if_neg c0] at H
    have es : gm_sh (gm_ck (gm_h s (v / 8))) = (if gm_ck (gm_h s (v / 8)) < 3 then gm_ck (gm_h s (v / 8)) else if gm_ck (gm_h s (v / 8)) < 5 then 3 else 4) := rfl
    have n5 : gm_n s ≤ 5000 := by
      obtain ⟨y_values, y_variables, y_waits, y_at, y_world, y_steps, y_blame, y_result, y_sort, y_one, y_two, y_from, y_to, y_label, y_held, y_around, y_waiting, y_operand, y_outer, y_kept⟩ := E
      exact hH.1.2.1
    have sort : (match E with | (y_values, y_variables, y_waits, y_at, y_world, y_steps, y_blame, y_result, y_sort, y_one, y_two, y_from, y_to, y_label, y_held, y_around, y_waiting, y_operand, y_outer, y_kept) => y_sort (v / 8) = nI (gm_ck (gm_h s (v / 8)))) := by
      obtain ⟨y_values, y_variables, y_waits, y_at, y_world, y_steps, y_blame, y_result, y_sort, y_one, y_two, y_from, y_to, y_label, y_held, y_around, y_waiting, y_operand, y_outer, y_kept⟩ := E
      exact (hH.1.2.2 _ lv).1
    have nz4 : ¬ nI (w % 4) = 0 := nI_ne0 (by omega) (by omega)
    by_cases c1 : w % 4 = 3 ∨ gm_sh (gm_ck (gm_h s (v / 8))) ≠ 4
    · rw [if_pos c1] at H
      injection H with H
      have b := fail (-1) E (nI v) (nI (w / 4)) (m + 1) (by decide) (K1 (by rw [← H]) E (by rw [← H]; exact gy_clr_H hH) rfl)
      obtain ⟨y_values, y_variables, y_waits, y_at, y_world, y_steps, y_blame, y_result, y_sort, y_one, y_two, y_from, y_to, y_label, y_held, y_around, y_waiting, y_operand, y_outer, y_kept⟩ := E
      have sort' : y_sort (v / 8) = nI (gm_ck (gm_h s (v / 8))) := sort
      have l87 : wY_look_87 post (wY_look_39 post (nI a) (nI n0) (m + 2)) (nI a) (nI n0) (nI v) (nI w) y_parts y_count y_place y_where y_values y_variables y_waits y_at y_world y_steps y_blame y_result y_given y_ty y_part y_kind y_end y_state y_with y_runKind y_runEnd y_runWith y_sort y_one y_two y_from y_to y_label y_held y_around y_waiting y_operand y_outer y_kept := nm_r e2 b
      refine br_f (by rw [e3]; exact nz4) (br_t rfl ?_)
      rw [gy_div (by omega), nI_clamp (show v / 8 < 2 ^ 31 by omega), sort']
      refine And.intro (by decide) (And.intro (vp_in_nI (by omega) (by decide)) (pk_le (gm_ck (gm_h s (v / 8))) 4 (fun z => br_t rfl l87) (fun z => br_f (show ¬ (1 : Int32) = 0 by decide) ?_)))
      have c3 : w % 4 = 3 := by
        rcases c1 with c1 | c1
        · exact c1
        · exact absurd (by rw [es, if_neg (by omega), if_neg (by omega)]) c1
      rw [e3, c3]
      exact br_t rfl l87
    · rw [if_neg c1] at H
      have c3 : ¬ w % 4 = 3 := fun z => c1 (Or.inl z)
      have sh : gm_sh (gm_ck (gm_h s (v / 8))) = 4 := by
        by_cases z : gm_sh (gm_ck (gm_h s (v / 8))) = 4
        · exact z
        · exact absurd (Or.inr z) c1
      have ck5 : 4 < gm_ck (gm_h s (v / 8)) := by
        rw [es] at sh
        split at sh
        · omega
        · split at sh
          · omega
          · omega
      have ok := gm_look_take (side := w % 4 - 1) hP L sh
      have take : ∀ out, gm_take (w % 4 - 1) (gm_q1 (gm_h s (v / 8))) 0 v (gm_u0 s) = some out → (out.1 = 0 → gm_lk m (w / 4) out.2.2.2 out.2.1 = some r) → (out.1 ≠ 0 → r = (2, out.2.2.2, out.2.1)) → (match E with | (y_values, y_variables, y_waits, y_at, y_world, y_steps, y_blame, y_result, y_sort, y_one, y_two, y_from, y_to, y_label, y_held, y_around, y_waiting, y_operand, y_outer, y_kept) => wY_look_109 post (wY_look_39 post (nI a) (nI n0) (m + 2)) (nI a) (nI n0) (-3) (nI w) (if w % 4 - 1 = 0 then 1 else 0) (nI v) y_parts y_count y_place y_where y_values y_variables y_waits y_at y_world y_steps y_blame y_result y_given y_ty y_part y_kind y_end y_state y_with y_runKind y_runEnd y_runWith y_sort y_one y_two y_from y_to y_label y_held y_around y_waiting y_operand y_outer y_kept) := by
        intro out Ht o1 o2
        rw [Ht] at ok
        have g := gy_partOf (y_parts := y_parts) (y_count := y_count) (y_place := y_place) (y_where := y_where) (y_given := y_given) (y_ty := y_ty) (y_part := y_part) (y_kind := y_kind) (y_end := y_end) (y_state := y_state) (y_with := y_with) (y_runKind := y_runKind) (y_runEnd := y_runEnd) (y_runWith := y_runWith) (R0 := fun r_26 u => match u with | (y_parts, y_count, y_place, y_where, y_values, y_variables, y_waits, y_at, y_world, y_steps, y_blame, y_result, y_given, y_ty, y_part, y_kind, y_end, y_state, y_with, y_runKind, y_runEnd, y_runWith, y_sort, y_one, y_two, y_from, y_to, y_label, y_held, y_around, y_waiting, y_operand, y_outer, y_kept) => (((y_blame = 0 → (∀ z : Int32, z = nI w >>> ((2 : Int32) &&& 31) → (wY_look_39 post (nI a) (nI n0) (m + 2) r_26 (-3) z y_parts y_count y_place y_where y_values y_variables y_waits y_at y_world y_steps y_blame y_result y_given y_ty y_part y_kind y_end y_state y_with y_runKind y_runEnd y_runWith y_sort y_one y_two y_from y_to y_label y_held y_around y_waiting y_operand y_outer y_kept))) ∧ (¬ y_blame = 0 → (∀ z : Int32, z = nI w >>> ((2 : Int32) &&& 31) → (wY_look_39 post (nI a) (nI n0) (m + 2) r_26 (-2) z y_parts y_count y_place y_where y_values y_variables y_waits y_at y_world y_steps y_blame y_result y_given y_ty y_part y_kind y_end y_state y_with y_runKind y_runEnd y_runWith y_sort y_one y_two y_from y_to y_label y_held y_around y_waiting y_operand y_outer y_kept)))))) (s := gm_u0 s) (show w % 4 - 1 < 2 by omega) hK Ht hH (fun z E' hE' hS => by
          have rs : gy_rs E' = gy_rs E := hS.2.2.2.1
          have k := ih (w / 4) out.2.2.2 out.2.1 E' r (by rw [Nat.pow_succ] at hw; omega) (by omega) (o1 z) (gm_ok_e ok z).1 hE' (fun q E'' a1 a2 => K0 q E'' a1 (a2.trans rs)) (fun q E'' a1 a2 => K1 q E'' a1 (a2.trans rs)) (fun q E'' a1 a2 => K2 q E'' a1 (a2.trans rs))
          obtain ⟨y_values, y_variables, y_waits, y_at, y_world, y_steps, y_blame, y_result, y_sort, y_one, y_two, y_from, y_to, y_label, y_held, y_around, y_waiting, y_operand, y_outer, y_kept⟩ := E'
          have hb : y_blame = 0 := hE'.2.2.2.2.2.2.1
          exact br_t hb (nm_r e2 k)) (fun z x E' hE rs => by
          have c4 := gm_take_code _ _ _ _ _ Ht z
          have er := o2 z
          have b := hE.2.1 c4
          have nb : ¬ gy_bl E' = 0 := by rw [b.1]; exact gm_lb_ne b.2
          have k := fail (-2) E' x (nI (w / 4)) (m + 1) (by decide) (K2 (by rw [er]) E' (by rw [er]; exact hE.2.2.2) rs)
          obtain ⟨y_values, y_variables, y_waits, y_at, y_world, y_steps, y_blame, y_result, y_sort, y_one, y_two, y_from, y_to, y_label, y_held, y_around, y_waiting, y_operand, y_outer, y_kept⟩ := E'
          exact br_f nb (nm_r e2 k))
        obtain ⟨y_values, y_variables, y_waits, y_at, y_world, y_steps, y_blame, y_result, y_sort, y_one, y_two, y_from, y_to, y_label, y_held, y_around, y_waiting, y_operand, y_outer, y_kept⟩ := E
        exact g
      have l109 : ∀ q : Int32, q = (if w % 4 - 1 = 0 then 1 else 0) → (match E with | (y_values, y_variables, y_waits, y_at, y_world, y_steps, y_blame, y_result, y_sort, y_one, y_two, y_from, y_to, y_label, y_held, y_around, y_waiting, y_operand, y_outer, y_kept) => wY_look_109 post (wY_look_39 post (nI a) (nI n0) (m + 2)) (nI a) (nI n0) (-3) (nI w) q (nI v) y_parts y_count y_place y_where y_values y_variables y_waits y_at y_world y_steps y_blame y_result y_given y_ty y_part y_kind y_end y_state y_with y_runKind y_runEnd y_runWith y_sort y_one y_two y_from y_to y_label y_held y_around y_waiting y_operand y_outer y_kept) := by
        intro q eq
        subst eq
        refine gm_lk2_e H ?_ ?_
        · intro out e z H1
          exact take out e (fun _ => H1) (fun y => absurd z y)
        · intro out e z er
          exact take out e (fun y => absurd y z) (fun _ => er)
      obtain ⟨y_values, y_variables, y_waits, y_at, y_world, y_steps, y_blame, y_result, y_sort, y_one, y_two, y_from, y_to, y_label, y_held, y_around, y_waiting, y_operand, y_outer, y_kept⟩ := E
      have sort' : y_sort (v / 8) = nI (gm_ck (gm_h s (v / 8))) := sort
      refine br_f (by rw [e3]; exact nz4) (br_t rfl ?_)
      rw [gy_div (by omega), nI_clamp (show v / 8 < 2 ^ 31 by omega), sort']
      refine And.intro (by decide) (And.intro (vp_in_nI (by omega) (by decide)) (pk_le (gm_ck (gm_h s (v / 8))) 4 (fun z => by omega) (fun z => br_f (show ¬ (1 : Int32) = 0 by decide) ?_)))
      rw [e3]
      refine pk_eq (w % 4) 3 (fun y => absurd y c3) (fun _ => pk_eq (w % 4) 1 (fun y => ?_) (fun y => ?_))
      · exact l109 1 (by rw [if_pos (by omega)])
      · exact l109 0 (by rw [if_neg (by omega)])
end
end
section
/-! ===== 46: look, both sides ===== -/
section
variable {y_parts y_count y_place y_where y_values y_variables y_waits y_at y_world y_steps y_blame y_result y_given : Int32} {y_ty y_part y_kind y_end y_state y_with y_runKind y_runEnd y_runWith y_sort y_one y_two y_from y_to y_label y_held y_around y_waiting y_operand y_outer y_kept : Nat → Int32}
theorem gy_facet {post : Int32 → SY → Prop} {P : gm_P} {cn : Nat} {G : Nat → List (Lean.RArray Nat)} {a n0 v : Nat} {s : gm_S} {E : gy_D} (ha : a < 3) (L : gm_L P cn G s v) (hH : gy_H y_ty s E) (K : post (gm_ans s v a) (gy_Y y_parts y_count y_place y_where y_given y_ty y_part y_kind y_end y_state y_with y_runKind y_runEnd y_runWith (gy_setv E (nI n0)))) : (match E with | (y_values, y_variables, y_waits, y_at, y_world, y_steps, y_blame, y_result, y_sort, y_one, y_two, y_from, y_to, y_label, y_held, y_around, y_waiting, y_operand, y_outer, y_kept) => wY_look_134 post (nI a) (nI n0) (nI v) (-3) y_parts y_count y_place y_where y_values y_variables y_waits y_at y_world y_steps y_blame y_result y_given y_ty y_part y_kind y_end y_state y_with y_runKind y_runEnd y_runWith y_sort y_one y_two y_from y_to y_label y_held y_around y_waiting y_operand y_outer y_kept) := by
  obtain ⟨lv, ck1, ck6⟩ := gm_L_ck L
  obtain ⟨y_values, y_variables, y_waits, y_at, y_world, y_steps, y_blame, y_result, y_sort, y_one, y_two, y_from, y_to, y_label, y_held, y_around, y_waiting, y_operand, y_outer, y_kept⟩ := E
  obtain ⟨⟨h1, h2, h3⟩, _⟩ := hH
  have cv := h3 _ lv
  have vin : vp_in (nI (v / 8)) 5000 := vp_in_nI (by omega) (by decide)
  unfold gm_ans at K
  have es : gm_sh (gm_ck (gm_h s (v / 8))) = (if gm_ck (gm_h s (v / 8)) < 3 then gm_ck (gm_h s (v / 8)) else if gm_ck (gm_h s (v / 8)) < 5 then 3 else 4) := rfl
  show wY_look_134 post (nI a) (nI n0) (nI v) (-3) y_parts y_count y_place y_where y_values y_variables y_waits y_at y_world y_steps y_blame y_result y_given y_ty y_part y_kind y_end y_state y_with y_runKind y_runEnd y_runWith y_sort y_one y_two y_from y_to y_label y_held y_around y_waiting y_operand y_outer y_kept
  unfold wY_look_134
  rw [gy_div (by omega), nI_clamp (show v / 8 < 2 ^ 31 by omega), cv.1]
  refine br_t rfl (And.intro (by decide) (And.intro vin (nm_e (pk_eq a 0 (fun z => ?_) (fun z0 => pk_eq a 1 (fun z => ?_) (fun z1 => ?_))))))
  · rw [if_pos z, es] at K
    refine pk_le 3 (gm_ck (gm_h s (v / 8))) (fun c => pk_le 5 (gm_ck (gm_h s (v / 8))) (fun c5 => ?_) (fun c5 => ?_)) (fun c => ?_)
    · rw [if_neg (by omega), if_neg (by omega)] at K
      exact K
    · rw [if_neg (by omega), if_pos (by omega)] at K
      exact K
    · rw [if_pos c] at K
      exact K
  · rw [if_neg z0, if_pos z] at K
    refine pk_le 3 (gm_ck (gm_h s (v / 8))) (fun c => ?_) (fun c => And.intro (by decide) (And.intro vin ?_))
    · rw [if_neg (by omega)] at K
      exact K
    · rw [if_pos c] at K
      rw [cv.2.2.1 c]
      exact K
  · rw [if_neg z0, if_neg z1] at K
    rw [gy_and7 (by omega)]
    refine pk_eq (v % 8) 0 (fun c => ?_) (fun c => ?_)
    · rw [if_pos c] at K
      exact K
    · rw [if_neg c] at K
      exact K
end
theorem i_vc_look {k : Nat} {u : SX} {v : SY} (I : i_Rel k u v) (hk : k + 3 ≤ 1536) (v1 : Int32) (v2 : Int32) : wpX_look (fun r u' => wpY_look (fun r' v' => r' = r ∧ i_Rel (k + 3) u' v') v v1 v2) u v1 v2 := by
  have I' := i_up I
  obtain ⟨x_typeDraft, x_typeCount, x_count, x_wrongAt, x_keptPlace, x_cellCount, x_scopeCount, x_frameCount, x_mode, x_atToken, x_scope, x_current, x_callee, x_side, x_ending, x_faultLabel, x_stepsTaken, x_runVerdict, x_runBlame, x_result, x_named, x_kinds, x_values, x_ends, x_types, x_operands, x_targets, x_cellShape, x_cellLabel, x_cellOne, x_cellTwo, x_cellThree, x_scopeValue, x_scopeOuter, x_frameKind, x_frameOne, x_frameTwo, x_frameThree, x_nKind, x_nOne, x_nTwo, x_nThree⟩ := u
  obtain ⟨y_parts, y_count, y_place, y_where, y_values, y_variables, y_waits, y_at, y_world, y_steps, y_blame, y_result, y_given, y_ty, y_part, y_kind, y_end, y_state, y_with, y_runKind, y_runEnd, y_runWith, y_sort, y_one, y_two, y_from, y_to, y_label, y_held, y_around, y_waiting, y_operand, y_outer, y_kept⟩ := v
  obtain ⟨_, ⟨l1, l2, l3, l4⟩, hD, hN, h4, h5, h6, h7⟩ := I
  subst l1 l2 l3 l4
  rcases h7 with ⟨rv, gv, hV⟩ | ⟨rv, gv⟩
  rotate_left
  · refine br_f rv ?_
    exact br_t gv ⟨rfl, I'⟩
  have ng : ¬ y_given = 0 := by rw [gv]; decide
  have both : ∀ R : Int32 → Prop, R 0 → R 1 → wpY_out R v2 3 := fun R a b => br_c (fun _ => b) (fun _ => br_c (fun _ => a) (fun _ => b))
  by_cases n0 : v1 < 0
  · refine br_t rv (br_t n0 ?_)
    have ge : ¬ (0 : Int32) ≤ v1 := Int32.not_le.mpr n0
    exact br_f ng (both _ (br_t rfl (br_f ge ⟨rfl, I'⟩)) (br_f (show ¬ (1 : Int32) = 0 by decide) ⟨rfl, I'⟩))
  by_cases m0 : v2 < 0
  · refine br_t rv (br_f n0 (br_t m0 ?_))
    exact br_f ng (br_t m0 (br_f (show ¬ (1 : Int32) = 0 by decide) ⟨rfl, I'⟩))
  by_cases m3 : v2 < 3
  rotate_left
  · refine br_t rv (br_f n0 (br_f m0 (br_f m3 ?_)))
    exact br_f ng (br_f m0 (br_f m3 (br_f (show ¬ (1 : Int32) = 0 by decide) ⟨rfl, I'⟩)))
  obtain ⟨w, hw, rfl⟩ := nI_of n0
  obtain ⟨a, ha31, rfl⟩ := nI_of m0
  have ha : a < 3 := by
    have : nI a < nI 3 := m3
    rw [nI_ltI ha31 (by decide)] at this
    exact this
  obtain ⟨P, cn, G, s, vv, SF, L, hX, hY, xr, yr⟩ := hV
  have yr' : y_result = nI vv := yr
  obtain ⟨kd, vl, nm, cnt, d1, d2, dx, dy⟩ := id hN
  have hK : gy_K y_ty := dy.2.2.2.1
  have cc : x_cellCount = nI (gm_n s) := hX.1.1
  have yv : y_values = nI (gm_n s) := hY.1.1
  have yb : y_blame = 0 := hY.2.2.2.2.2.2.1
  obtain ⟨r, Hlk, ss, Lr, rc⟩ := gm_lk_ok SF 16 w s vv L
  have fin : ∀ (D' : gx_D) (E' : gy_D), gx_H r.2.1 D' → gy_H y_ty r.2.1 (gy_clr E') → gy_rs E' = y_result → i_Rel (k + 3) (gx_X x_typeDraft x_typeCount x_count x_wrongAt x_keptPlace x_runVerdict x_runBlame x_result x_named x_kinds x_values x_ends x_types x_operands x_targets (gx_setc D' (nI (gm_n s)))) (gy_Y y_parts y_count y_place y_where y_given y_ty y_part y_kind y_end y_state y_with y_runKind y_runEnd y_runWith (gy_setv E' (nI (gm_n s)))) := by
    intro D' E' g1 g2 g3
    have b1 := gx_back g1 ss
    have b2 := gy_back g2 ss
    have b3 : gy_rs (gy_setv E' (nI (gm_n s))) = nI vv := by
      obtain ⟨y_values, y_variables, y_waits, y_at, y_world, y_steps, y_blame, y_result, y_sort, y_one, y_two, y_from, y_to, y_label, y_held, y_around, y_waiting, y_operand, y_outer, y_kept⟩ := E'
      exact (show y_result = _ from g3).trans yr'
    have st : gx_stp (gx_setc D' (nI (gm_n s))) = gy_sp (gy_setv E' (nI (gm_n s))) := by
      obtain ⟨x_cellCount, x_scopeCount, x_frameCount, x_mode, x_atToken, x_scope, x_current, x_callee, x_side, x_ending, x_faultLabel, x_stepsTaken, x_cellShape, x_cellLabel, x_cellOne, x_cellTwo, x_cellThree, x_scopeValue, x_scopeOuter, x_frameKind, x_frameOne, x_frameTwo, x_frameThree⟩ := D'
      obtain ⟨y_values, y_variables, y_waits, y_at, y_world, y_steps, y_blame, y_result, y_sort, y_one, y_two, y_from, y_to, y_label, y_held, y_around, y_waiting, y_operand, y_outer, y_kept⟩ := E'
      obtain ⟨_, _, _, q1, _⟩ := b1
      obtain ⟨_, _, _, _, q2, _⟩ := b2
      exact q1.trans q2.symm
    obtain ⟨x_cellCount, x_scopeCount, x_frameCount, x_mode, x_atToken, x_scope, x_current, x_callee, x_side, x_ending, x_faultLabel, x_stepsTaken, x_cellShape, x_cellLabel, x_cellOne, x_cellTwo, x_cellThree, x_scopeValue, x_scopeOuter, x_frameKind, x_frameOne, x_frameTwo, x_frameThree⟩ := D'
    obtain ⟨y_values, y_variables, y_waits, y_at, y_world, y_steps, y_blame, y_result, y_sort, y_one, y_two, y_from, y_to, y_label, y_held, y_around, y_waiting, y_operand, y_outer, y_kept⟩ := E'
    exact ⟨rfl, ⟨rfl, rfl, rfl, rfl⟩, hD, hN, h4, h5.trans yb, st, Or.inl ⟨rv, gv, P, cn, G, s, vv, SF, L, b1, b2, xr, b3⟩⟩
  have yside : ∀ (q : Int32) (D' : gx_D), gx_H r.2.1 D' → (r.1 = 0 → q = gm_ans r.2.1 r.2.2 a) → (r.1 = 1 → q = -1) → (r.1 = 2 → q = -2) → wpY_look (fun r' v' => r' = q ∧ i_Rel (k + 3) (gx_X x_typeDraft x_typeCount x_count x_wrongAt x_keptPlace x_runVerdict x_runBlame x_result x_named x_kinds x_values x_ends x_types x_operands x_targets (gx_setc D' (nI (gm_n s)))) v') (y_parts, y_count, y_place, y_where, y_values, y_variables, y_waits, y_at, y_world, y_steps, y_blame, y_result, y_given, y_ty, y_part, y_kind, y_end, y_state, y_with, y_runKind, y_runEnd, y_runWith, y_sort, y_one, y_two, y_from, y_to, y_label, y_held, y_around, y_waiting, y_operand, y_outer, y_kept) (nI w) (nI a) := by
    intro q D' g1 q0 q1 q2
    have main := gy_lk (post := fun r' v' => r' = q ∧ i_Rel (k + 3) (gx_X x_typeDraft x_typeCount x_count x_wrongAt x_keptPlace x_runVerdict x_runBlame x_result x_named x_kinds x_values x_ends x_types x_operands x_targets (gx_setc D' (nI (gm_n s)))) v') (y_parts := y_parts) (y_count := y_count) (y_place := y_place) (y_where := y_where) (y_given := y_given) (y_ty := y_ty) (y_part := y_part) (y_kind := y_kind) (y_end := y_end) (y_state := y_state) (y_with := y_with) (y_runKind := y_runKind) (y_runEnd := y_runEnd) (y_runWith := y_runWith) (a := a) (n0 := gm_n s) SF hK 16 w s vv (y_values, y_variables, y_waits, y_at, y_world, y_steps, y_blame, y_result, y_sort, y_one, y_two, y_from, y_to, y_label, y_held, y_around, y_waiting, y_operand, y_outer, y_kept) r (Nat.lt_of_lt_of_le hw (by decide)) hw Hlk L hY (fun z E' e1 e2 => gy_facet (y_parts := y_parts) (y_count := y_count) (y_place := y_place) (y_where := y_where) (y_given := y_given) (y_ty := y_ty) (y_part := y_part) (y_kind := y_kind) (y_end := y_end) (y_state := y_state) (y_with := y_with) (y_runKind := y_runKind) (y_runEnd := y_runEnd) (y_runWith := y_runWith) ha (Lr z) e1 ⟨(q0 z).symm, fin D' E' g1 (gy_clr_H e1) e2⟩) (fun z E' e1 e2 => ⟨(q1 z).symm, fin D' E' g1 e1 e2⟩) (fun z E' e1 e2 => ⟨(q2 z).symm, fin D' E' g1 e1 e2⟩)
    have main' : wY_look_39 (fun r' v' => r' = q ∧ i_Rel (k + 3) (gx_X x_typeDraft x_typeCount x_count x_wrongAt x_keptPlace x_runVerdict x_runBlame x_result x_named x_kinds x_values x_ends x_types x_operands x_targets (gx_setc D' (nI (gm_n s)))) v') (nI a) y_values 18 y_result (-3) (nI w) y_parts y_count y_place y_where y_values y_variables y_waits y_at y_world y_steps y_blame y_result y_given y_ty y_part y_kind y_end y_state y_with y_runKind y_runEnd y_runWith y_sort y_one y_two y_from y_to y_label y_held y_around y_waiting y_operand y_outer y_kept := by
      rw [yr']
      have m2 := main
      simp only [yr', yv] at m2 ⊢
      exact m2
    exact br_f ng (br_f m0 (br_t m3 (br_t rfl (br_t (nI_pos' hw) (Exists.intro 18 main')))))
  refine br_t rv (br_f n0 (br_f m0 (br_t m3 (Exists.intro 18 ?_))))
  have xm := gx_lk (post := fun r u' => wpY_look (fun r' v' => r' = r ∧ i_Rel (k + 3) u' v') (y_parts, y_count, y_place, y_where, y_values, y_variables, y_waits, y_at, y_world, y_steps, y_blame, y_result, y_given, y_ty, y_part, y_kind, y_end, y_state, y_with, y_runKind, y_runEnd, y_runWith, y_sort, y_one, y_two, y_from, y_to, y_label, y_held, y_around, y_waiting, y_operand, y_outer, y_kept) (nI w) (nI a)) (x_typeDraft := x_typeDraft) (x_typeCount := x_typeCount) (x_count := x_count) (x_wrongAt := x_wrongAt) (x_keptPlace := x_keptPlace) (x_runVerdict := x_runVerdict) (x_runBlame := x_runBlame) (x_result := x_result) (x_named := x_named) (x_kinds := x_kinds) (x_values := x_values) (x_ends := x_ends) (x_types := x_types) (x_operands := x_operands) (x_targets := x_targets) (a := a) (n0 := gm_n s) SF hw 16 0 s vv (x_cellCount, x_scopeCount, x_frameCount, x_mode, x_atToken, x_scope, x_result, x_callee, x_side, x_ending, x_faultLabel, x_stepsTaken, x_cellShape, x_cellLabel, x_cellOne, x_cellTwo, x_cellThree, x_scopeValue, x_scopeOuter, x_frameKind, x_frameOne, x_frameTwo, x_frameThree) r rfl (by rw [Nat.pow_zero, Nat.div_one]; exact Hlk) L hX xr (fun z D' e1 e2 => gx_facet (x_typeDraft := x_typeDraft) (x_typeCount := x_typeCount) (x_count := x_count) (x_wrongAt := x_wrongAt) (x_keptPlace := x_keptPlace) (x_runVerdict := x_runVerdict) (x_runBlame := x_runBlame) (x_result := x_result) (x_named := x_named) (x_kinds := x_kinds) (x_values := x_values) (x_ends := x_ends) (x_types := x_types) (x_operands := x_operands) (x_targets := x_targets) ha (Lr z) e1 e2 (yside _ D' e1 (fun _ => rfl) (fun y => by omega) (fun y => by omega))) (fun z D' e1 => yside (-1) D' e1 (fun y => by omega) (fun _ => rfl) (fun y => by omega)) (fun z D' e1 => yside (-2) D' e1 (fun y => by omega) (fun y => by omega) (fun _ => rfl))
  rw [cc]
  simp only [cc] at xm
  exact xm
end
