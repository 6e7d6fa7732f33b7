/-! ===== 10: what it means that the evaluator has an answer ===== -/
theorem gm_bd_e {o : Option gm_O} {k : Nat → gm_S → Option gm_O} {out : gm_O} {C : Prop} (h : gm_bd o k = some out) (h1 : ∀ v p s, o = some (0, v, p, s) → k v s = some out → C) (h2 : o = some out → out.1 ≠ 0 → C) : C := by
  match o, h with
  | some (0, v, p, s), h => exact h1 v p s rfl h
  | some (c + 1, v, p, s), h =>
    have e : some (c + 1, v, p, s) = some out := h
    injection e with e
    subst e
    exact h2 rfl (Nat.succ_ne_zero c)
theorem gm_tick_e {s : gm_S} {h : Nat} {k : gm_S → Option gm_O} {out : gm_O} (H : gm_tick s h k = some out) : (gm_u s < 1000000 ∧ gm_n s ≤ 5000 ∧ gm_m s < 64 ∧ h < 32767) ∧ k (gm_tk s) = some out := by
  unfold gm_tick at H
  by_cases c : gm_u s < 1000000 ∧ gm_n s ≤ 5000 ∧ gm_m s < 64 ∧ h < 32767
  · rw [if_pos c] at H; exact ⟨c, H⟩
  · rw [if_neg c] at H; exact absurd H (by simp)
theorem gm_new_e {s : gm_S} {c : gm_Cell} {add : Nat} {out : gm_O} (H : gm_new s c add = some out) : gm_n s < 5000 ∧ out = (0, 8 * gm_n s + add, 0, gm_push s c) := by
  unfold gm_new at H
  by_cases d : gm_n s < 5000
  · rw [if_pos d] at H
    injection H with H
    exact ⟨d, H.symm⟩
  · rw [if_neg d] at H; exact absurd H (by simp)
/-- an if that has an answer -/
theorem gm_if_e {p : Prop} {_ : Decidable p} {a : Option gm_O} {out : gm_O} (H : (if p then a else none) = some out) : p ∧ a = some out := by
  by_cases c : p
  · rw [if_pos c] at H; exact ⟨c, H⟩
  · rw [if_neg c] at H; exact absurd H (by simp)
theorem gm_cast_e {s : gm_S} {v : Nat} {f t : Lean.RArray Nat} {p : Int} {out : gm_O} (H : gm_cast s v f t p = some out) : gm_wk s v f ∧ gd_TY f ∧ gd_TY t ∧
    (if gd_en f = gd_en t then some (0, v, 0, s)
    else if gd_hd t = 2 then gm_wr s v f (gd_G f) p (gm_tag f)
    else if gd_hd f = 2 then (if v % 8 = gm_tag t then gm_wr s (v - gm_tag t) (gd_G t) t p 0 else some (4, v, p, s))
    else gm_wr s v f t p 0) = some out := by
  unfold gm_cast at H
  obtain ⟨c, H⟩ := gm_if_e H
  rw [Bool.and_eq_true, Bool.and_eq_true, gm_wkb_i, gm_tyb_i, gm_tyb_i] at c
  exact ⟨c.1.1, c.1.2, c.2, H⟩
theorem gm_num_e {s : gm_S} {v : Nat} {k : Int32 → Option gm_O} {out : gm_O} (H : gm_num s v k = some out) : (v / 8 < gm_n s ∧ gm_ck (gm_h s (v / 8)) < 3) ∧ k (gm_ci (gm_h s (v / 8))) = some out := gm_if_e H
/-- X's value of Y's -/
def gm_xv (v : Nat) : Nat := 2 * (v / 8) + (if v % 8 = 0 then 0 else 1)
theorem gm_xv_div (v : Nat) : gm_xv v / 2 = v / 8 := by
  unfold gm_xv
  split <;> omega
theorem gm_xv_mod (v : Nat) : gm_xv v % 2 = if v % 8 = 0 then 0 else 1 := by
  unfold gm_xv
  split <;> omega
theorem gm_xv_8 (n : Nat) : gm_xv (8 * n) = 2 * n := by
  unfold gm_xv
  rw [if_pos (by omega)]
  omega
theorem gm_xv_tag {n a : Nat} (h0 : 0 < a) (h : a < 8) : gm_xv (8 * n + a) = 2 * n + 1 := by
  unfold gm_xv
  rw [if_neg (by omega)]
  omega
/-- labels are small, and not 0 -/
def gm_PB (p : Int) : Prop := p ≠ 0 ∧ -200 < p ∧ p < 200
theorem gm_PB_neg {p : Int} (h : gm_PB p) : gm_PB (-p) := by
  unfold gm_PB at *
  omega
theorem gm_PB_op {i k : Nat} (hi : i < 36) (hk : k < 3) : gm_PB (3 * i + k + 1) := by
  unfold gm_PB
  omega
def gm_lb (p : Int) : Int32 := Int32.ofInt p
theorem gm_lb_toInt {p : Int} (h : gm_PB p) : (gm_lb p).toInt = p := by
  unfold gm_PB at h
  unfold gm_lb
  rw [Int32.toInt_ofInt_of_le (by omega) (by omega)]
theorem gm_lb_ne {p : Int} (h : gm_PB p) : ¬ gm_lb p = 0 := by
  intro z
  have a := gm_lb_toInt h
  rw [z] at a
  exact h.1 a.symm
theorem gm_lb_neg (p : Int) : - gm_lb p = gm_lb (-p) := by
  unfold gm_lb
  rw [Int32.ofInt_neg]
theorem gm_lb_nat (n : Nat) : gm_lb (n : Int) = nI n := rfl
