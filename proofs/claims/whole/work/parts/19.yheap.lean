/-! ===== 19: the reference's values and casts ===== -/
/-- where types are spelled that a run reads -/
def gy_RG (i : Nat) (t : Lean.RArray Nat) : Prop := 368 ≤ i ∧ i + gd_sz t ≤ 688
def gy_C (ty : Nat → Int32) (c : gm_Cell) (so o1 o2 fr to lb : Int32) : Prop :=
  so = nI (gm_ck c) ∧ gm_ck c < 7 ∧ (gm_ck c < 3 → o1 = gm_ci c) ∧ (gm_ck c = 3 → o1 = nI (gm_ca c) ∧ o2 = nI (gm_cb c) - 1) ∧ (gm_ck c = 5 → o1 = nI (gm_ca c) ∧ o2 = nI (gm_cb c)) ∧
  (gm_ck c = 4 ∨ gm_ck c = 6 → o1 = nI (gm_ca c) ∧ lb = gm_lb (gm_cp c) ∧ gm_PB (gm_cp c) ∧ gd_TY (gm_cf c) ∧ gd_TY (gm_ct c) ∧ ∃ i j, fr = nI i ∧ to = nI j ∧ gd_Sp ty (gm_cf c) i ∧ gd_Sp ty (gm_ct c) j ∧ gy_RG i (gm_cf c) ∧ gy_RG j (gm_ct c) ∧ ∃ h a b a' b', gm_cf c = .branch h a b ∧ gm_ct c = .branch h a' b')
def gy_H0 (ty : Nat → Int32) (s : gm_S) (vs : Int32) (so o1 o2 fr to lb : Nat → Int32) : Prop := vs = nI (gm_n s) ∧ gm_n s ≤ 5000 ∧ ∀ c, c < gm_n s → gy_C ty (gm_h s c) (so c) (o1 c) (o2 c) (fr c) (to c) (lb c)
theorem gy_H0_push {ty : Nat → Int32} {s : gm_S} {vs : Int32} {so o1 o2 fr to lb so' o1' o2' fr' to' lb' : Nat → Int32} {c : gm_Cell} (h : gy_H0 ty s vs so o1 o2 fr to lb) (hn : gm_n s < 5000) (hc : gy_C ty c (so' (gm_n s)) (o1' (gm_n s)) (o2' (gm_n s)) (fr' (gm_n s)) (to' (gm_n s)) (lb' (gm_n s))) (g : ∀ j, j ≠ gm_n s → so' j = so j ∧ o1' j = o1 j ∧ o2' j = o2 j ∧ fr' j = fr j ∧ to' j = to j ∧ lb' j = lb j) : gy_H0 ty (gm_push s c) (nI (gm_n s + 1)) so' o1' o2' fr' to' lb' := by
  refine ⟨rfl, by rw [gm_push_n]; omega, ?_⟩
  intro j hj
  rw [gm_push_n] at hj
  by_cases e : j = gm_n s
  · subst e
    rw [gm_push_new]
    exact hc
  · obtain ⟨a, b, d, e1, f, g'⟩ := g j e
    rw [gm_push_old s c (by omega), a, b, d, e1, f, g']
    exact h.2.2 j (by omega)
theorem gy_nb : ∀ k, k < 128 → vp_nar .byte (nI k).toInt8.toInt32 = nI k := by
  intro k hk
  rw [vp_nar_byte]
  revert k
  decide +kernel
theorem gy_ns : ∀ k, k < 700 → vp_nar .short (nI k).toInt16.toInt32 = nI k := by
  intro k hk
  rw [vp_nar_short]
  revert k
  decide +kernel
theorem gy_nl {p : Int} (hp : gm_PB p) : vp_nar .short (gm_lb p).toInt16.toInt32 = gm_lb p := by
  have key : ∀ k : Nat, k < 400 → vp_nar .short (gm_lb ((k : Int) - 200)).toInt16.toInt32 = gm_lb ((k : Int) - 200) := by
    intro k hk
    rw [vp_nar_short]
    revert k
    decide +kernel
  have e : p = ((p + 200).toNat : Int) - 200 := by
    unfold gm_PB at hp
    omega
  rw [e]
  exact key _ (by unfold gm_PB at hp; omega)
theorem gy_div {v : Nat} (h : v / 8 < 5001) : nI v / 8 = nI (v / 8) := pk_div (d := 8) (by omega) (by decide) (by decide)
theorem gy_and7 {v : Nat} (h : v / 8 < 5001) : nI v &&& 7 = nI (v % 8) := pk_andN (by omega) 3 (by decide)
section
variable {y_parts y_count y_place y_where y_values y_variables y_waits y_at y_world y_steps y_blame y_result y_given : Int32} {y_ty y_part y_kind y_end y_state y_with y_runKind y_runEnd y_runWith y_sort y_one y_two y_from y_to y_label y_held y_around y_waiting y_operand y_outer y_kept : Nat → Int32}
theorem gy_make {post : Int32 → SY → Prop} {n k : Nat} (hn : n < 5000) (hk : k < 128) {p1 p2 : Int32} (P : post (nI (8 * n)) (y_parts, y_count, y_place, y_where, nI (n + 1), y_variables, y_waits, y_at, y_world, y_steps, y_blame, y_result, y_given, y_ty, y_part, y_kind, y_end, y_state, y_with, y_runKind, y_runEnd, y_runWith, upd y_sort n (nI k), upd y_one n p1, upd y_two n p2, y_from, y_to, y_label, y_held, y_around, y_waiting, y_operand, y_outer, y_kept)) : wpY_make post (y_parts, y_count, y_place, y_where, nI n, y_variables, y_waits, y_at, y_world, y_steps, y_blame, y_result, y_given, y_ty, y_part, y_kind, y_end, y_state, y_with, y_runKind, y_runEnd, y_runWith, y_sort, y_one, y_two, y_from, y_to, y_label, y_held, y_around, y_waiting, y_operand, y_outer, y_kept) (nI k) p1 p2 := by
  have c : (nI n).toNatClampNeg = n := nI_clamp (by omega)
  have v : vp_in (nI n) 5000 := vp_in_nI hn (by decide)
  have e8 : (8 : Int32) * nI n = nI (8 * n) := pk_mul 8 n
  have es : upd y_sort (nI n).toNatClampNeg (vp_nar .byte (nI k).toInt8.toInt32) = upd y_sort n (nI k) := by rw [c, gy_nb k hk]
  refine And.intro v (nm_r es (And.intro v (nm_r (congrArg (fun k => upd y_one k p1) c) (And.intro v (nm_r (congrArg (fun k => upd y_two k p2) c) (nm_r (nI_1 n) ?_))))))
  rw [e8]
  exact P
theorem gy_wrapped {post : Int32 → SY → Prop} {s : gm_S} {v : Nat} {f t : Lean.RArray Nat} {p : Int} {add i j : Nat} {out : gm_O} (H : gm_wr s v f t p add = some out) (ne : gd_en f ≠ gd_en t) (hH : gy_H0 y_ty s y_values y_sort y_one y_two y_from y_to y_label) (hf : gd_TY f) (ht : gd_TY t) (sf : gd_Sp y_ty f i) (st : gd_Sp y_ty t j) (ri : gy_RG i f) (rj : gy_RG j t) (hp : gm_PB p)
    (K : ∀ w s' vs so o1 o2 fr to lb, out = (0, w + add, 0, s') → w % 8 = 0 → w / 8 < 5000 → gy_H0 y_ty s' vs so o1 o2 fr to lb → post (nI w) (y_parts, y_count, y_place, y_where, vs, y_variables, y_waits, y_at, y_world, y_steps, y_blame, y_result, y_given, y_ty, y_part, y_kind, y_end, y_state, y_with, y_runKind, y_runEnd, y_runWith, so, o1, o2, fr, to, lb, y_held, y_around, y_waiting, y_operand, y_outer, y_kept)) :
    wpY_wrapped post (y_parts, y_count, y_place, y_where, y_values, y_variables, y_waits, y_at, y_world, y_steps, y_blame, y_result, y_given, y_ty, y_part, y_kind, y_end, y_state, y_with, y_runKind, y_runEnd, y_runWith, y_sort, y_one, y_two, y_from, y_to, y_label, y_held, y_around, y_waiting, y_operand, y_outer, y_kept) (nI v) (nI i) (nI j) (gm_lb p) := by
  unfold gm_wr at H
  rw [if_neg ne] at H
  obtain ⟨hk, H⟩ := gm_if_e H
  obtain ⟨hn, H⟩ := gm_new_e H
  have hH0 := hH
  obtain ⟨rfl, h5, hc⟩ := hH
  have h3 : 3 ≤ gd_hd f := by omega
  obtain ⟨l, r, ef, hk3⟩ := gm_br_of h3 hf.1
  obtain ⟨l', r', et, _⟩ := gm_br_of (show 3 ≤ gd_hd t by omega) ht.1
  have zf := gd_sz_pos f
  have zt := gd_sz_pos t
  obtain ⟨ri1, ri2⟩ := ri
  obtain ⟨rj1, rj2⟩ := rj
  have c : (nI (gm_n s)).toNatClampNeg = gm_n s := nI_clamp (by omega)
  have vin : vp_in (nI (gm_n s)) 5000 := vp_in_nI hn (by decide)
  have e1 : upd y_from (nI (gm_n s)).toNatClampNeg (vp_nar .short (nI i).toInt16.toInt32) = upd y_from (gm_n s) (nI i) := by rw [c, gy_ns i (by omega)]
  have e2 : upd y_to (nI (gm_n s)).toNatClampNeg (vp_nar .short (nI j).toInt16.toInt32) = upd y_to (gm_n s) (nI j) := by rw [c, gy_ns j (by omega)]
  have e3 : upd y_label (nI (gm_n s)).toNatClampNeg (vp_nar .short (gm_lb p).toInt16.toInt32) = upd y_label (gm_n s) (gm_lb p) := by rw [c, gy_nl hp]
  refine And.intro vin (nm_r e1 (And.intro vin (nm_r e2 (And.intro vin (nm_r e3 ?_)))))
  rw [nI_clamp (show i < 2 ^ 31 by omega), gd_sp_hd sf]
  refine And.intro (vp_in_nI (by omega) (by decide)) ?_
  have fin : ∀ k, k = (if gd_hd f = 3 then 4 else 6) → wY_wrapped_51 post (nI v) (nI k) y_parts y_count y_place y_where (nI (gm_n s)) y_variables y_waits y_at y_world y_steps y_blame y_result y_given y_ty y_part y_kind y_end y_state y_with y_runKind y_runEnd y_runWith y_sort y_one y_two (upd y_from (gm_n s) (nI i)) (upd y_to (gm_n s) (nI j)) (upd y_label (gm_n s) (gm_lb p)) y_held y_around y_waiting y_operand y_outer y_kept := by
    intro k ek
    have k128 : k < 128 := by rw [ek]; split <;> decide
    refine gy_make hn k128 ?_
    refine K (8 * gm_n s) (gm_push s (gm_cc s v f t p)) (nI (gm_n s + 1)) (upd y_sort (gm_n s) (nI k)) (upd y_one (gm_n s) (nI v)) (upd y_two (gm_n s) 0) (upd y_from (gm_n s) (nI i)) (upd y_to (gm_n s) (nI j)) (upd y_label (gm_n s) (gm_lb p)) H (by omega) (by omega) (gy_H0_push hH0 hn ?_ ?_)
    · rw [pk_us, pk_us, pk_us, pk_us, pk_us, pk_us]
      have ck : gm_ck (gm_cc s v f t p) = k := ek.symm
      refine ⟨by rw [ck], ?_, ?_, ?_, ?_, ?_⟩
      · rw [ck, ek]; split <;> omega
      · rw [ck, ek]; intro z; split at z <;> omega
      · rw [ck, ek]; intro z; split at z <;> omega
      · rw [ck, ek]; intro z; split at z <;> omega
      · intro _
        refine ⟨rfl, rfl, hp, hf, ht, i, j, rfl, rfl, sf, st, ⟨ri1, ri2⟩, ⟨rj1, rj2⟩, gd_hd f, l, r, l', r', ef, ?_⟩
        rw [← hk.2]
        exact et
    · intro x hx
      rw [pk_un hx, pk_un hx, pk_un hx, pk_un hx, pk_un hx, pk_un hx]
      exact ⟨rfl, rfl, rfl, rfl, rfl, rfl⟩
  have lt := gd_hd_lt hf.1
  refine pk_eq (gd_hd f) 3 (fun z => fin 4 (by rw [if_pos z])) (fun z => fin 6 (by rw [if_neg z]))
end
