/-! ===== 11: X's cells and casts ===== -/
/-- a cell of X and a cell of the machine -/
def gx_C (c : gm_Cell) (sh lb o1 o2 o3 : Int32) : Prop :=
  sh = nI (gm_sh (gm_ck c)) ∧ gm_ck c < 7 ∧ (gm_ck c < 3 → o1 = gm_ci c) ∧ (gm_ck c = 3 → lb = 0 ∧ o1 = nI (gm_ca c) ∧ o2 = nI (gm_cb c)) ∧ (gm_ck c = 5 → lb = 0 ∧ o1 = nI (gm_xv (gm_ca c)) ∧ o2 = nI (gm_xv (gm_cb c))) ∧
  (gm_ck c = 4 ∨ gm_ck c = 6 → lb = gm_lb (gm_cp c) ∧ gm_PB (gm_cp c) ∧ o1 = nI (gm_xv (gm_ca c)) ∧ o2 = nI (gd_en (gm_cf c)) ∧ o3 = nI (gd_en (gm_ct c)) ∧ gd_TY (gm_cf c) ∧ gd_TY (gm_ct c) ∧ ∃ h a b a' b', gm_cf c = .branch h a b ∧ gm_ct c = .branch h a' b')
def gx_H0 (s : gm_S) (cc : Int32) (cSh cLb c1 c2 c3 : Nat → Int32) : Prop := cc = nI (gm_n s) ∧ gm_n s ≤ 5000 ∧ ∀ c, c < gm_n s → gx_C (gm_h s c) (cSh c) (cLb c) (c1 c) (c2 c) (c3 c)
theorem gx_H0_push {s : gm_S} {cc : Int32} {cSh cLb c1 c2 c3 cSh' cLb' c1' c2' c3' : Nat → Int32} {c : gm_Cell} (h : gx_H0 s cc cSh cLb c1 c2 c3) (hn : gm_n s < 5000) (hc : gx_C c (cSh' (gm_n s)) (cLb' (gm_n s)) (c1' (gm_n s)) (c2' (gm_n s)) (c3' (gm_n s))) (g : ∀ j, j ≠ gm_n s → cSh' j = cSh j ∧ cLb' j = cLb j ∧ c1' j = c1 j ∧ c2' j = c2 j ∧ c3' j = c3 j) : gx_H0 (gm_push s c) (nI (gm_n s + 1)) cSh' cLb' c1' c2' c3' := by
  refine ⟨rfl, by rw [gm_push_n]; omega, ?_⟩
  intro j hj
  rw [gm_push_n] at hj
  by_cases e : j = gm_n s
  · subst e
    rw [gm_push_new]
    exact hc
  · obtain ⟨a, b, d, e1, f⟩ := g j e
    rw [gm_push_old s c (by omega), a, b, d, e1, f]
    exact h.2.2 j (by omega)
theorem gx_shr {v : Nat} (h : v / 8 < 5001) : nI (gm_xv v) >>> ((1 : Int32) &&& 31) = nI (v / 8) := by
  have := gm_xv_div v
  rw [pk_shrN (by omega) ((1 : Int32) &&& 31) 1 (by decide)]
  exact congrArg nI (by omega)
theorem gx_shl {n : Nat} (h : n < 9000) : nI n <<< ((1 : Int32) &&& 31) = nI (2 * n) := by
  rw [pk_shlN ((1 : Int32) &&& 31) 1 (by decide) (by omega)]
  exact congrArg nI (by omega)
theorem gx_enI {f t : Lean.RArray Nat} (hf : gd_TY f) (ht : gd_TY t) : nI (gd_en f) = nI (gd_en t) ↔ gd_en f = gd_en t := nI_eq (gx_en hf) (gx_en ht)
section
variable {x_typeDraft x_typeCount x_count x_wrongAt x_keptPlace x_cellCount x_scopeCount x_frameCount x_mode x_atToken x_scope x_current x_callee x_side x_ending x_faultLabel x_stepsTaken x_runVerdict x_runBlame x_result : Int32} {x_named x_kinds x_values x_ends x_types x_operands x_targets x_cellShape x_cellLabel x_cellOne x_cellTwo x_cellThree x_scopeValue x_scopeOuter x_frameKind x_frameOne x_frameTwo x_frameThree : Nat → Int32}
theorem gx_newCell {post : Int32 → SX → Prop} {n : Nat} (hn : n < 8192) {p0 p1 p2 : Int32} (P : post (nI (2 * n)) (x_typeDraft, x_typeCount, x_count, x_wrongAt, x_keptPlace, nI (n + 1), x_scopeCount, x_frameCount, x_mode, x_atToken, x_scope, x_current, x_callee, x_side, x_ending, x_faultLabel, x_stepsTaken, x_runVerdict, x_runBlame, x_result, x_named, x_kinds, x_values, x_ends, x_types, x_operands, x_targets, upd x_cellShape n p0, upd x_cellLabel n 0, upd x_cellOne n p1, upd x_cellTwo n p2, x_cellThree, x_scopeValue, x_scopeOuter, x_frameKind, x_frameOne, x_frameTwo, x_frameThree, 32768, 32768, 32768, 32768)) : wpX_newCell post (x_typeDraft, x_typeCount, x_count, x_wrongAt, x_keptPlace, nI n, x_scopeCount, x_frameCount, x_mode, x_atToken, x_scope, x_current, x_callee, x_side, x_ending, x_faultLabel, x_stepsTaken, x_runVerdict, x_runBlame, x_result, x_named, x_kinds, x_values, x_ends, x_types, x_operands, x_targets, x_cellShape, x_cellLabel, x_cellOne, x_cellTwo, x_cellThree, x_scopeValue, x_scopeOuter, x_frameKind, x_frameOne, x_frameTwo, x_frameThree, 32768, 32768, 32768, 32768) p0 p1 p2 := by
  have c : (nI n).toNatClampNeg = n := nI_clamp (by omega)
  have v : vp_in (nI n) 8192 := vp_in_nI hn (by decide)
  refine nm_r (nI_1 n) (And.intro v (nm_r (congrArg (fun k => upd x_cellShape k p0) c) (And.intro v (nm_r (congrArg (fun k => upd x_cellLabel k 0) c) (And.intro v (nm_r (congrArg (fun k => upd x_cellOne k p1) c) (And.intro v (nm_r (congrArg (fun k => upd x_cellTwo k p2) c) ?_))))))))
  rw [gx_shl (by omega)]
  exact P
theorem gx_wrapped {post : Int32 → SX → Prop} {s : gm_S} {v : Nat} {f t : Lean.RArray Nat} {p : Int} {add : Nat} {out : gm_O} (H : gm_wr s v f t p add = some out) (hH : gx_H0 s x_cellCount x_cellShape x_cellLabel x_cellOne x_cellTwo x_cellThree) (hv : v / 8 < gm_n s) (hm : v % 8 = 0) (hf : gd_TY f) (ht : gd_TY t) (hs : 3 ≤ gd_hd f → gm_sh (gm_ck (gm_h s (v / 8))) = gd_hd f) (hp : gm_PB p)
    (K : ∀ w s' cc cSh cLb c1 c2 c3, out = (0, w + add, 0, s') → w % 8 = 0 → gx_H0 s' cc cSh cLb c1 c2 c3 → post (nI (gm_xv w)) (x_typeDraft, x_typeCount, x_count, x_wrongAt, x_keptPlace, cc, x_scopeCount, x_frameCount, x_mode, x_atToken, x_scope, x_current, x_callee, x_side, x_ending, x_faultLabel, x_stepsTaken, x_runVerdict, x_runBlame, x_result, x_named, x_kinds, x_values, x_ends, x_types, x_operands, x_targets, cSh, cLb, c1, c2, c3, x_scopeValue, x_scopeOuter, x_frameKind, x_frameOne, x_frameTwo, x_frameThree, 32768, 32768, 32768, 32768)) :
    wpX_wrapped post (x_typeDraft, x_typeCount, x_count, x_wrongAt, x_keptPlace, x_cellCount, x_scopeCount, x_frameCount, x_mode, x_atToken, x_scope, x_current, x_callee, x_side, x_ending, x_faultLabel, x_stepsTaken, x_runVerdict, x_runBlame, x_result, x_named, x_kinds, x_values, x_ends, x_types, x_operands, x_targets, x_cellShape, x_cellLabel, x_cellOne, x_cellTwo, x_cellThree, x_scopeValue, x_scopeOuter, x_frameKind, x_frameOne, x_frameTwo, x_frameThree, 32768, 32768, 32768, 32768) (nI (gm_xv v)) (nI (gd_en f)) (nI (gd_en t)) (gm_lb p) := by
  unfold gm_wr at H
  by_cases e : gd_en f = gd_en t
  · rw [if_pos e] at H
    injection H with H
    exact br_t (congrArg nI e) (K v s _ _ _ _ _ _ H.symm hm hH)
  · rw [if_neg e] at H
    obtain ⟨hk, H⟩ := gm_if_e H
    obtain ⟨hn, H⟩ := gm_new_e H
    have hH0 := hH
    obtain ⟨rfl, h5, hc⟩ := hH
    refine br_f (fun z => e ((gx_enI hf ht).mp z)) ?_
    have cv := hc _ hv
    rw [gx_shr (by omega), nI_clamp (show v / 8 < 2 ^ 31 by omega)]
    refine And.intro (vp_in_nI (by omega) (by decide)) (gx_newCell (by omega) ?_)
    have e2 : nI (2 * gm_n s) >>> ((1 : Int32) &&& 31) = nI (gm_n s) := by
      have := gx_shr (v := 8 * gm_n s) (by omega)
      rw [gm_xv_8] at this
      rw [this]
      exact congrArg nI (by omega)
    dsimp only
    rw [e2, nI_clamp (show gm_n s < 2 ^ 31 by omega)]
    have vin : vp_in (nI (gm_n s)) 8192 := vp_in_nI (by omega) (by decide)
    refine And.intro vin (nm_e (And.intro vin (nm_e ?_)))
    rw [← gm_xv_8]
    have h3 : 3 ≤ gd_hd f := by omega
    obtain ⟨l, r, ef, hk3⟩ := gm_br_of h3 hf.1
    obtain ⟨l', r', et, _⟩ := gm_br_of (show 3 ≤ gd_hd t by omega) ht.1
    refine K (8 * gm_n s) (gm_push s (gm_cc s v f t p)) _ _ _ _ _ _ H (by omega) (gx_H0_push hH0 hn ?_ ?_)
    · rw [pk_us, pk_us, pk_us, pk_us, pk_us]
      have ck : gm_ck (gm_cc s v f t p) = if gd_hd f = 3 then 4 else 6 := rfl
      refine ⟨?_, ?_, ?_, ?_, ?_, ?_⟩
      · rw [cv.1, hs h3, ck]
        rcases hk3 with k | k
        · rw [k]; rfl
        · rw [k]; rfl
      · rw [ck]; split <;> omega
      · rw [ck]; intro z; split at z <;> omega
      · rw [ck]; intro z; split at z <;> omega
      · rw [ck]; intro z; split at z <;> omega
      · intro _
        refine ⟨rfl, hp, rfl, rfl, rfl, hf, ht, gd_hd f, l, r, l', r', ef, ?_⟩
        rw [← hk.2]
        exact et
    · intro j hj
      rw [pk_un hj, pk_un hj, pk_un hj, pk_un hj, pk_un hj, pk_un hj]
      exact ⟨rfl, rfl, rfl, rfl, rfl⟩
theorem gx_and2 {v : Nat} (h : v / 8 < 5001) : nI (gm_xv v) &&& (-2) = nI (gm_xv (8 * (v / 8))) := by
  have a := gm_xv_div v
  rw [gm_xv_8]
  have key : ∀ n : Nat, n < 2 ^ 31 → nI n &&& (-2) = nI (2 * (n / 2)) := by
    intro n hn
    apply Int32.toBitVec_inj.1
    show BitVec.ofNat 32 n &&& (-2 : Int32).toBitVec = BitVec.ofNat 32 (2 * (n / 2))
    apply BitVec.eq_of_getLsbD_eq
    intro i hi
    have mk : ∀ i, i < 32 → (-2 : Int32).toBitVec.getLsbD i = decide (i ≠ 0) := by decide +kernel
    rw [BitVec.getLsbD_and, BitVec.getLsbD_ofNat, BitVec.getLsbD_ofNat, mk i hi]
    cases i with
    | zero =>
      have e : (2 * (n / 2)).testBit 0 = false := by
        rw [Nat.testBit_zero]
        exact decide_eq_false (by omega)
      rw [e]
      simp
    | succ i =>
      have e : (2 * (n / 2)).testBit (i + 1) = n.testBit (i + 1) := by
        rw [Nat.testBit_succ, Nat.testBit_succ]
        congr 1
        omega
      rw [e]
      simp
  rw [key _ (by omega), a]
theorem gx_or1 {w : Nat} (h : w / 8 < 5001) (hm : w % 8 = 0) {a : Nat} (h0 : 0 < a) (h8 : a < 8) : nI (gm_xv w) ||| 1 = nI (gm_xv (w + a)) := by
  have e1 : gm_xv w = 2 * (w / 8) := by unfold gm_xv; rw [if_pos hm]; omega
  have e2 : gm_xv (w + a) = 2 * (w / 8) + 1 := by
    rw [show w + a = 8 * (w / 8) + a by omega]
    exact gm_xv_tag h0 h8
  rw [e1, e2, Int32.or_comm]
  have := gx_or (k := 1) (a := 1) (b := w / 8) (by decide)
  rw [show (2 : Nat) ^ 1 = 2 from rfl, show 1 + 2 * (w / 8) = 2 * (w / 8) + 1 by omega] at this
  exact this
theorem gx_2 {t : Lean.RArray Nat} (ht : gd_TY t) : nI (gd_en t) = 2 ↔ gd_hd t = 2 := by
  have e := nI_eq (a := gd_en t) (b := 2) (gx_en ht) (by decide)
  have e2 : gd_en t = 2 ↔ gd_hd t = 2 := by
    have hv := ht.1
    cases t with
    | leaf n => simp only [gd_en, gd_hd]
    | branch h l r => simp only [gd_vt] at hv; have hh := gd_h8 hv.1; simp only [gd_en, gd_hd]; omega
  exact e.trans e2
theorem gx_shp {t : Lean.RArray Nat} (ht : gd_vt t) (h2 : gd_hd t ≠ 2) : gd_shp t = gm_tag t := by
  have lt := gd_hd_lt ht
  unfold gd_shp gm_tag
  by_cases a : gd_hd t = 0
  · rw [if_pos a, if_pos (by omega)]; omega
  rw [if_neg a]
  by_cases b : gd_hd t = 1
  · rw [if_pos b, if_pos (by omega)]; omega
  rw [if_neg b]
  by_cases c : gd_hd t = 3
  · rw [if_pos c, if_neg (by omega)]; omega
  · rw [if_neg c, if_neg (by omega)]; omega
theorem gx_tag_pos {t : Lean.RArray Nat} (ht : gd_vt t) : 0 < gm_tag t ∧ gm_tag t < 8 := by
  have := gm_tag_lt ht
  have h : 0 < gm_tag t := by
    unfold gm_tag
    split <;> omega
  omega
theorem gx_hd_tag {t : Lean.RArray Nat} (h : 3 ≤ gd_hd t) : gm_tag t = gd_hd t := by
  unfold gm_tag
  rw [if_neg (by omega)]
theorem gx_castValue {post : Int32 → SX → Prop} {s : gm_S} {v : Nat} {f t : Lean.RArray Nat} {p : Int} {out : gm_O} (H : gm_cast s v f t p = some out) (hH : gx_H0 s x_cellCount x_cellShape x_cellLabel x_cellOne x_cellTwo x_cellThree) (hp : gm_PB p)
    (K : ∀ w s' cc cSh cLb c1 c2 c3, out = (0, w, 0, s') → gx_H0 s' cc cSh cLb c1 c2 c3 → post (nI (gm_xv w)) (x_typeDraft, x_typeCount, x_count, x_wrongAt, x_keptPlace, cc, x_scopeCount, x_frameCount, x_mode, x_atToken, x_scope, x_current, x_callee, x_side, x_ending, x_faultLabel, x_stepsTaken, x_runVerdict, x_runBlame, x_result, x_named, x_kinds, x_values, x_ends, x_types, x_operands, x_targets, cSh, cLb, c1, c2, c3, x_scopeValue, x_scopeOuter, x_frameKind, x_frameOne, x_frameTwo, x_frameThree, 32768, 32768, 32768, 32768))
    (B : out = (4, v, p, s) → post (nI (gm_xv v)) (x_typeDraft, x_typeCount, x_count, x_wrongAt, x_keptPlace, x_cellCount, x_scopeCount, x_frameCount, 4, x_atToken, x_scope, x_current, x_callee, x_side, 4, gm_lb p, x_stepsTaken, x_runVerdict, x_runBlame, x_result, x_named, x_kinds, x_values, x_ends, x_types, x_operands, x_targets, x_cellShape, x_cellLabel, x_cellOne, x_cellTwo, x_cellThree, x_scopeValue, x_scopeOuter, x_frameKind, x_frameOne, x_frameTwo, x_frameThree, 32768, 32768, 32768, 32768)) :
    wpX_castValue post (x_typeDraft, x_typeCount, x_count, x_wrongAt, x_keptPlace, x_cellCount, x_scopeCount, x_frameCount, x_mode, x_atToken, x_scope, x_current, x_callee, x_side, x_ending, x_faultLabel, x_stepsTaken, x_runVerdict, x_runBlame, x_result, x_named, x_kinds, x_values, x_ends, x_types, x_operands, x_targets, x_cellShape, x_cellLabel, x_cellOne, x_cellTwo, x_cellThree, x_scopeValue, x_scopeOuter, x_frameKind, x_frameOne, x_frameTwo, x_frameThree, 32768, 32768, 32768, 32768) (nI (gm_xv v)) (nI (gd_en f)) (nI (gd_en t)) (gm_lb p) := by
  obtain ⟨wk, hf, ht, H⟩ := gm_cast_e H
  obtain ⟨hv, w2, wn⟩ := wk
  have h5 := hH.2.1
  by_cases e : gd_en f = gd_en t
  · rw [if_pos e] at H
    injection H with H
    exact br_t (congrArg nI e) (K v s _ _ _ _ _ _ H.symm hH)
  rw [if_neg e] at H
  refine br_f (fun z => e ((gx_enI hf ht).mp z)) ?_
  by_cases t2 : gd_hd t = 2
  · rw [if_pos t2] at H
    refine br_t ((gx_2 ht).mpr t2) ?_
    have f2 : gd_hd f ≠ 2 := fun z => e (by rw [gm_leaf_of hf.1 (by omega), gm_leaf_of ht.1 (by omega), z, t2])
    have tp := gx_tag_pos hf.1
    refine gx_tagFor hf (gx_wrapped H hH hv (wn f2).1 hf (gm_G_TY hf.1) (fun z => by rw [(wn f2).2, gx_hd_tag z]) hp ?_)
    intro w s' cc cSh cLb c1 c2 c3 eo hm hH'
    have k := K (w + gm_tag f) s' cc cSh cLb c1 c2 c3 eo hH'
    have wl : w / 8 < 5001 := by
      unfold gm_wr at H
      by_cases e3 : gd_en f = gd_en (gd_G f)
      · rw [if_pos e3] at H
        injection H with H
        rw [eo] at H
        injection H with _ H
        injection H with H _
        omega
      · rw [if_neg e3] at H
        obtain ⟨_, H⟩ := gm_if_e H
        obtain ⟨hn, H⟩ := gm_new_e H
        rw [eo] at H
        injection H with _ H
        injection H with H _
        omega
    dsimp only
    rw [gx_or1 wl hm tp.1 tp.2]
    exact k
  rw [if_neg t2] at H
  refine br_f (fun z => t2 ((gx_2 ht).mp z)) ?_
  by_cases f2 : gd_hd f = 2
  · rw [if_pos f2] at H
    refine br_t ((gx_2 hf).mpr f2) ?_
    have cv := hH.2.2 _ hv
    rw [gx_shr (by omega), nI_clamp (show v / 8 < 2 ^ 31 by omega), cv.1]
    refine And.intro (vp_in_nI (by omega) (by decide)) (gx_shapeOf ht ?_)
    have lt5 : gm_tag t < 5 := gm_tag_lt ht.1
    have ls : gm_sh (gm_ck (gm_h s (v / 8))) < 8 := by have := w2 f2; omega
    refine pk_eq (gm_sh (gm_ck (gm_h s (v / 8)))) (gd_shp t) (fun z => ?_) (fun z => ?_) rfl rfl (by omega) (by rw [gx_shp ht.1 t2]; omega)
    · rw [gx_shp ht.1 t2] at z
      rw [if_pos (by rw [w2 f2, z])] at H
      refine gx_tagFor ht ?_
      rw [gx_and2 (by omega)]
      have ev : v - gm_tag t = 8 * (v / 8) := by
        have := w2 f2
        omega
      rw [ev] at H
      refine gx_wrapped H hH (by omega) (by omega) (gm_G_TY ht.1) ht ?_ hp ?_
      · intro z3
        rw [show 8 * (v / 8) / 8 = v / 8 by omega, z, gm_G_hd]
        rw [gm_G_hd] at z3
        exact gx_hd_tag z3
      · intro w s' cc cSh cLb c1 c2 c3 eo _ hH'
        exact K w s' cc cSh cLb c1 c2 c3 (by rw [eo]; rfl) hH'
    · rw [gx_shp ht.1 t2] at z
      rw [if_neg (by rw [w2 f2]; exact z)] at H
      injection H with H
      exact B H.symm
  · rw [if_neg f2] at H
    refine br_f (fun z => f2 ((gx_2 hf).mp z)) ?_
    refine gx_wrapped H hH hv (wn f2).1 hf ht (fun z => by rw [(wn f2).2, gx_hd_tag z]) hp ?_
    intro w s' cc cSh cLb c1 c2 c3 eo _ hH'
    exact K w s' cc cSh cLb c1 c2 c3 (by rw [eo]; rfl) hH'
end
