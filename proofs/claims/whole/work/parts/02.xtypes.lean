/-! ===== 02: X's walks over packed types ===== -/
theorem gx_or {k a b : Nat} (ha : a < 2 ^ k) : nI a ||| nI (2 ^ k * b) = nI (a + 2 ^ k * b) := by
  have e : nI a ||| nI (2 ^ k * b) = nI (a ||| 2 ^ k * b) := by
    apply Int32.toBitVec_inj.1
    show BitVec.ofNat 32 a ||| BitVec.ofNat 32 (2 ^ k * b) = BitVec.ofNat 32 (a ||| 2 ^ k * b)
    apply BitVec.eq_of_getLsbD_eq
    intro i hi
    simp [hi]
  rw [e, Nat.or_comm, ← Nat.two_pow_add_eq_or_of_lt ha, Nat.add_comm]
theorem gx_p8 (i : Nat) : 2 ^ (3 * i) = 8 ^ i := by
  rw [Nat.pow_mul]
theorem gx_tok {s i : Nat} (hs : s < 2 ^ 31) (hi : i < 8) : (nI s >>> ((3 * nI i) &&& 31)) &&& 7 = nI (s / 8 ^ i % 8) := by
  have e3 : (3 : Int32) * nI i = nI (3 * i) := pk_mul 3 i
  rw [e3, pk_shrN hs (nI (3 * i) &&& 31) (3 * i) (s_l _ (by omega)), pk_andN (Nat.lt_of_le_of_lt (Nat.div_le_self _ _) (by omega)) 3 (by decide), gx_p8]
theorem gx_te {post : Int32 → Prop} {s : Nat} (hs : s < 2 ^ 31) : ∀ t : Lean.RArray Nat, gd_vt t → ∀ i m n : Nat, gd_Sp (gd_xr s) t i → i + gd_sz t ≤ 7 → m + gd_sz t < 100 → wX_typeEnd_4 post (nI s) n (nI m) (nI (i + gd_sz t)) → wX_typeEnd_4 post (nI s) (n + gd_sz t) (nI (m + 1)) (nI i) := by
  intro t
  induction t with
  | leaf k =>
    intro hk i m n sp hi hm H
    simp only [gd_vt] at hk
    simp only [gd_sz] at hi hm H ⊢
    have h7 : ¬ (7 : Int32) ≤ nI i := nI_ge (b := 7) (by omega) (by decide)
    have h0 : ¬ nI (m + 1) ≤ 0 := nI_nle (by omega) (by omega)
    have e : nI (s / 8 ^ i % 8) = nI k := sp
    have hk3 : ((nI s >>> ((3 * nI i) &&& 31)) &&& 7) < 3 := by
      rw [gx_tok hs (by omega), e]
      exact nI_lt (b := 3) hk (by decide)
    exact br_f h7 (br_f h0 (br_t hk3 (nm_r (pk_m1 m) (nm_r (nI_1 i) H))))
  | branch h l r ihl ihr =>
    intro hv i m n sp hi hm H
    simp only [gd_vt] at hv
    have hh := gd_h8 hv.1
    have hl := gd_sz_pos l
    have hr := gd_sz_pos r
    simp only [gd_sz] at hi hm H ⊢
    have h7 : ¬ (7 : Int32) ≤ nI i := nI_ge (b := 7) (by omega) (by decide)
    have h0 : ¬ nI (m + 1) ≤ 0 := nI_nle (by omega) (by omega)
    have e : nI (s / 8 ^ i % 8) = nI h := sp.1
    have hk3 : ¬ ((nI s >>> ((3 * nI i) &&& 31)) &&& 7) < 3 := by
      rw [gx_tok hs (by omega), e]
      exact nI_nlt (b := 3) hh.1 (by omega)
    rw [show n + (1 + gd_sz l + gd_sz r) = (n + gd_sz r + gd_sz l) + 1 by omega]
    rw [show i + (1 + gd_sz l + gd_sz r) = i + 1 + gd_sz l + gd_sz r by omega] at H
    exact br_f h7 (br_f h0 (br_f hk3 (nm_r (nI_1 (m + 1)) (nm_r (nI_1 i) (ihl hv.2.1 (i + 1) (m + 1) (n + gd_sz r) sp.2.1 (by omega) (by omega) (ihr hv.2.2 (i + 1 + gd_sz l) m n sp.2.2 (by omega) (by omega) H))))))
theorem gx_typeEnd {post : Int32 → Prop} {s : Nat} (hs : s < 2 ^ 31) {t : Lean.RArray Nat} (ht : gd_vt t) {i : Nat} (sp : gd_Sp (gd_xr s) t i) (hi : i + gd_sz t ≤ 7) (H : post (nI (i + gd_sz t))) : wpX_typeEnd post (nI s) (nI i) := by
  have z : wX_typeEnd_40 post (nI 0) (nI (i + gd_sz t)) := br_t (by rw [nI_0]; exact Int32.le_refl 0) H
  have y : wX_typeEnd_4 post (nI s) 1 (nI 0) (nI (i + gd_sz t)) := br_c (fun _ => z) (fun _ => br_t (by rw [nI_0]; exact Int32.le_refl 0) z)
  exact Exists.intro (1 + gd_sz t) (gx_te hs t ht i 0 1 sp hi (by omega) y)
theorem gx_en {t : Lean.RArray Nat} (h : gd_TY t) : gd_en t < 2 ^ 31 := by
  have := gd_en_big h
  omega
theorem gx_br_en (h : Nat) (l r : Lean.RArray Nat) : gd_en (.branch h l r) = h + 8 * (gd_en l + 8 ^ gd_sz l * gd_en r) := rfl
theorem gx_leftOf {post : Int32 → Prop} {h : Nat} {l r : Lean.RArray Nat} (H : gd_TY (.branch h l r)) (P : post (nI (gd_en l))) : wpX_leftOf post (nI (gd_en (.branch h l r))) := by
  have hs := gx_en H
  have hv := H.1
  simp only [gd_vt] at hv
  have hh := gd_h8 hv.1
  have hz := H.2
  simp only [gd_sz] at hz
  have hr := gd_sz_pos r
  have hl := gd_en_lt l hv.2.1
  have sp := (gd_sp_en H.1).2.1
  refine gx_typeEnd (i := 1) hs hv.2.1 sp (by omega) ?_
  rw [show 1 + gd_sz l = gd_sz l + 1 by omega]
  refine nm_r (nI_pred (gd_sz l)) ?_
  have e3 : (3 : Int32) * nI (gd_sz l) = nI (3 * gd_sz l) := pk_mul 3 _
  have hp : 8 ^ gd_sz l ≤ 8 ^ 7 := Nat.pow_le_pow_right (by decide) (by omega)
  have hp7 : (8 : Nat) ^ 7 = 2097152 := by decide
  have hp0 : 0 < 8 ^ gd_sz l := Nat.pow_pos (by decide)
  have e4 : (1 : Int32) <<< ((3 * nI (gd_sz l)) &&& 31) = nI (8 ^ gd_sz l) := by
    rw [e3, show (1 : Int32) = nI 1 from rfl, pk_shlN (nI (3 * gd_sz l) &&& 31) (3 * gd_sz l) (s_l _ (by omega)) (by rw [gx_p8]; omega), gx_p8, Nat.one_mul]
  have e5 : (1 : Int32) <<< ((3 * nI (gd_sz l)) &&& 31) - 1 = nI (8 ^ gd_sz l - 1) := by
    rw [e4]
    exact pk_sub (b := 1) hp0
  rw [e5, pk_shrN hs ((3 : Int32) &&& 31) 3 (by decide), pk_andN (Nat.lt_of_le_of_lt (Nat.div_le_self _ _) (by omega)) (3 * gd_sz l) (by rw [pk_tn (by omega), gx_p8])]
  rw [gx_p8, gx_br_en]
  have e6 : (h + 8 * (gd_en l + 8 ^ gd_sz l * gd_en r)) / 2 ^ 3 = gd_en l + 8 ^ gd_sz l * gd_en r := by omega
  rw [e6, Nat.add_mul_mod_self_left, Nat.mod_eq_of_lt hl]
  exact P
theorem gx_rightOf {post : Int32 → Prop} {h : Nat} {l r : Lean.RArray Nat} (H : gd_TY (.branch h l r)) (P : post (nI (gd_en r))) : wpX_rightOf post (nI (gd_en (.branch h l r))) := by
  have hs := gx_en H
  have hv := H.1
  simp only [gd_vt] at hv
  have hh := gd_h8 hv.1
  have hz := H.2
  simp only [gd_sz] at hz
  have hr := gd_sz_pos r
  have hl := gd_en_lt l hv.2.1
  have sp := (gd_sp_en H.1).2.1
  refine gx_typeEnd (i := 1) hs hv.2.1 sp (by omega) ?_
  have e3 : (3 : Int32) * nI (1 + gd_sz l) = nI (3 * (1 + gd_sz l)) := pk_mul 3 _
  show post (nI (gd_en (.branch h l r)) >>> ((3 * nI (1 + gd_sz l)) &&& 31))
  rw [e3, pk_shrN hs (nI (3 * (1 + gd_sz l)) &&& 31) (3 * (1 + gd_sz l)) (s_l _ (by omega)), gx_p8, gx_br_en, Nat.pow_add, ← Nat.div_div_eq_div_mul, Nat.pow_one]
  have e6 : (h + 8 * (gd_en l + 8 ^ gd_sz l * gd_en r)) / 8 = gd_en l + 8 ^ gd_sz l * gd_en r := by omega
  rw [e6, Nat.add_mul_div_left _ _ (Nat.pow_pos (by decide)), Nat.div_eq_of_lt hl, Nat.zero_add]
  exact P
theorem gx_typeHead {post : Int32 → Prop} {t : Lean.RArray Nat} (H : gd_TY t) (P : post (nI (gd_hd t))) : wpX_typeHead post (nI (gd_en t)) := by
  show post (nI (gd_en t) &&& 7)
  have hs := gx_en H
  rw [pk_andN (by omega) 3 (by decide)]
  have e : gd_en t % 2 ^ 3 = gd_hd t := by
    have hv := H.1
    cases t with
    | leaf n => simp only [gd_vt] at hv; simp only [gd_en, gd_hd]; omega
    | branch h l r => simp only [gd_vt] at hv; have hh := gd_h8 hv.1; simp only [gd_en, gd_hd]; omega
  rw [e]
  exact P
theorem gx_joined {post : Int32 → Prop} {h : Nat} {l r : Lean.RArray Nat} (hh : h = 3 ∨ h = 4) (hl : gd_TY l) (hr : gd_TY r) (P : 1 + gd_sz l + gd_sz r ≤ 7 → post (nI (gd_en (.branch h l r)))) (Q : ¬ 1 + gd_sz l + gd_sz r ≤ 7 → post (-2)) : wpX_joined post (nI h) (nI (gd_en l)) (nI (gd_en r)) := by
  have h8 := gd_h8 hh
  have zl := hl.2
  have zr := hr.2
  have bl := gd_en_big hl
  have br' := gd_en_big hr
  refine gx_typeEnd (i := 0) (gx_en hl) hl.1 (gd_sp_en hl.1) (by omega) ?_
  rw [Nat.zero_add]
  have e1 : (1 : Int32) + nI (gd_sz l) = nI (1 + gd_sz l) := nI_add 1 _
  refine nm_r e1 ?_
  refine gx_typeEnd (i := 0) (gx_en hr) hr.1 (gd_sp_en hr.1) (by omega) ?_
  rw [Nat.zero_add, nI_add]
  refine pk_le (1 + gd_sz l + gd_sz r) 7 ?_ (fun z => Q (by omega))
  intro hz
  have P' := P hz
  have e3 : (3 : Int32) * nI (1 + gd_sz l) = nI (3 * (1 + gd_sz l)) := pk_mul 3 _
  have ez : 8 ^ (1 + gd_sz l) * gd_en r < 8 ^ 7 := by
    have a := gd_en_lt r hr.1
    have b := Nat.mul_lt_mul_of_pos_left a (Nat.pow_pos (n := 1 + gd_sz l) (show 0 < 8 by decide))
    rw [← Nat.pow_add] at b
    exact Nat.lt_of_lt_of_le b (Nat.pow_le_pow_right (by decide) (by omega))
  have hp7 : (8 : Nat) ^ 7 = 2097152 := by decide
  rw [e3, pk_shlN (nI (3 * (1 + gd_sz l)) &&& 31) (3 * (1 + gd_sz l)) (s_l _ (by omega)) (by rw [gx_p8, Nat.mul_comm]; omega), pk_shlN ((3 : Int32) &&& 31) 3 (by decide) (by omega), gx_p8]
  rw [Nat.mul_comm (gd_en l), gx_or (k := 3) (a := h) (b := gd_en l) (by omega)]
  have hlow : h + 2 ^ 3 * gd_en l < 2 ^ (3 * (1 + gd_sz l)) := by
    have a := gd_en_lt l hl.1
    rw [gx_p8, Nat.pow_add, Nat.pow_one]
    omega
  rw [Nat.mul_comm (gd_en r), ← gx_p8, gx_or hlow]
  have e9 : h + 2 ^ 3 * gd_en l + 2 ^ (3 * (1 + gd_sz l)) * gd_en r = gd_en (.branch h l r) := by
    rw [gx_br_en, gx_p8, Nat.pow_add, Nat.pow_one, Nat.mul_add, Nat.mul_assoc]
    omega
  rw [e9]
  exact P'
theorem gx_typeToken {post : Int32 → Prop} {s i : Nat} (hs : s < 2 ^ 31) (hi : i < 8) (P : post (gd_xr s i)) : wpX_typeToken post (nI s) (nI i) := by
  show post ((nI s >>> ((3 * nI i) &&& 31)) &&& 7)
  rw [gx_tok hs hi]
  exact P
/-- one pair of parts of the two types -/
theorem gx_co {post : Int32 → Prop} {s t : Nat} (hs : s < 2 ^ 31) (ht : t < 2 ^ 31) : ∀ f : Lean.RArray Nat, gd_vt f → ∀ g : Lean.RArray Nat, gd_vt g → ∀ i j m p n : Nat, gd_Sp (gd_xr s) f i → gd_Sp (gd_xr t) g j → i + gd_sz f ≤ 7 → j + gd_sz g ≤ 7 → p ≤ i → m + gd_sz f < 100 →
    (gd_cb f g = true → ∀ p' N, p' ≤ i + gd_sz f → n ≤ N → wX_consistent_10 post (nI s) (nI t) N (nI (i + gd_sz f)) (nI (j + gd_sz g)) (nI m) (nI p')) → (gd_cb f g = false → post 0) →
    ∀ N, n + gd_sz f ≤ N → wX_consistent_10 post (nI s) (nI t) N (nI i) (nI j) (nI (m + 1)) (nI p) := by
  intro f
  induction f with
  | leaf a =>
    intro ha g hg i j m p n sf sg hi hj hp hm C D N hN
    simp only [gd_sz] at hi hm C hN
    have zg := gd_sz_pos g
    obtain ⟨N, rfl⟩ : ∃ K, N = K + 1 := ⟨N - 1, by omega⟩
    refine br_f (nI_ge (b := 7) (by omega) (by decide)) (br_f (nI_nle (by omega) (by omega)) ?_)
    refine gx_typeToken hs (by omega) (gx_typeToken ht (by omega) ?_)
    rw [show gd_xr s i = nI a from sf, gd_sp_hd sg]
    have skip : gd_cb (.leaf a) g = true → wX_consistent_48 post (wX_consistent_10 post (nI s) (nI t) N) (nI s) (nI t) (nI i) (nI j) (nI (m + 1)) (nI p) := by
      intro z
      refine gx_typeEnd hs ha sf (by simp only [gd_sz]; omega) (gx_typeEnd ht hg sg hj ?_)
      exact nm_r (pk_m1 m) (nm_r (nI_1 p) (C z (p + 1) N (by omega) (by omega)))
    have ga := gd_hd_lt hg
    simp only [gd_vt] at ha
    refine pk_eq a 2 (fun z => skip (by rw [z]; exact gd_cb_any g)) (fun z2 => ?_)
    refine pk_eq (gd_hd g) 2 (fun z => skip ?_) (fun z3 => ?_)
    · cases g with
      | leaf b => simp only [gd_hd] at z; rw [z]; exact gd_cb_any' _
      | branch h l r => simp only [gd_vt] at hg; simp only [gd_hd] at z; omega
    refine pk_eq a (gd_hd g) (fun z => ?_) (fun z => ?_)
    · cases g with
      | leaf b =>
        simp only [gd_hd] at z
        subst z
        have C' := C (gd_cb_refl _) (p + 1) N (by omega) (by omega)
        simp only [gd_sz] at C'
        exact nm_r (nI_1 i) (nm_r (nI_1 j) (br_t (nI_lt (b := 3) ha (by decide)) (nm_r (pk_m1 m) (nm_r (nI_1 p) C'))))
      | branch h l r => simp only [gd_vt] at hg; simp only [gd_hd] at z; omega
    · refine D ?_
      cases g with
      | leaf b => simp only [gd_hd] at z z3; simp [gd_cb, z2, z3, z]
      | branch h l r => simp [gd_cb, z2]
  | branch h l r ihl ihr =>
    intro hv g hg i j m p n sf sg hi hj hp hm C D N hN
    have hv0 := hv
    simp only [gd_vt] at hv
    have hh := gd_h8 hv.1
    have zl := gd_sz_pos l
    have zr := gd_sz_pos r
    have zg := gd_sz_pos g
    have hi0 := hi
    simp only [gd_sz] at hi hm hN
    obtain ⟨N, rfl⟩ : ∃ K, N = K + 1 := ⟨N - 1, by omega⟩
    refine br_f (nI_ge (b := 7) (by omega) (by decide)) (br_f (nI_nle (by omega) (by omega)) ?_)
    refine gx_typeToken hs (by omega) (gx_typeToken ht (by omega) ?_)
    rw [show gd_xr s i = nI h from sf.1, gd_sp_hd sg]
    have skip : gd_cb (.branch h l r) g = true → wX_consistent_48 post (wX_consistent_10 post (nI s) (nI t) N) (nI s) (nI t) (nI i) (nI j) (nI (m + 1)) (nI p) := by
      intro z
      refine gx_typeEnd hs hv0 sf hi0 (gx_typeEnd ht hg sg hj ?_)
      exact nm_r (pk_m1 m) (nm_r (nI_1 p) (C z (p + 1) N (by simp only [gd_sz]; omega) (by omega)))
    have ga := gd_hd_lt hg
    refine pk_eq h 2 (fun z => by omega) (fun z2 => ?_)
    refine pk_eq (gd_hd g) 2 (fun z => skip ?_) (fun z3 => ?_)
    · cases g with
      | leaf b => simp only [gd_hd] at z; rw [z]; exact gd_cb_any' _
      | branch h' l' r' => simp only [gd_vt] at hg; simp only [gd_hd] at z; omega
    cases g with
    | leaf b =>
      simp only [gd_vt] at hg
      simp only [gd_hd] at z3 ⊢
      refine pk_eq h b (fun z => by omega) (fun z => D ?_)
      simp [gd_cb, z3]
    | branch h' l' r' =>
      simp only [gd_vt] at hg
      simp only [gd_hd] at z3 ⊢
      simp only [gd_sz] at hj C
      refine pk_eq h h' (fun z => ?_) (fun z => D (by simp [gd_cb, z]))
      refine nm_r (nI_1 i) (nm_r (nI_1 j) (br_f (nI_nlt (b := 3) hh.1 (by omega)) (nm_r (nI_1 (m + 1)) (nm_r (nI_1 p) ?_))))
      refine ihl hv.2.1 l' hg.2.1 (i + 1) (j + 1) (m + 1) (p + 1) (n + gd_sz r) sf.2.1 sg.2.1 (by omega) (by omega) (by omega) (by omega) ?_ ?_ N (by omega)
      · intro cl p' N' hp' hN'
        refine ihr hv.2.2 r' hg.2.2 (i + 1 + gd_sz l) (j + 1 + gd_sz l') m p' n sf.2.2 sg.2.2 (by omega) (by omega) hp' (by omega) ?_ ?_ N' hN'
        · intro cr p'' N'' hp'' hN''
          have c := C (by simp [gd_cb, z, cl, cr]) p'' N'' (by omega) hN''
          rw [show i + 1 + gd_sz l + gd_sz r = i + (1 + gd_sz l + gd_sz r) by omega, show j + 1 + gd_sz l' + gd_sz r' = j + (1 + gd_sz l' + gd_sz r') by omega]
          exact c
        · intro cr
          exact D (by simp [gd_cb, cr])
      · intro cl
        exact D (by simp [gd_cb, cl])
theorem gx_consistent {post : Int32 → Prop} {f g : Lean.RArray Nat} (hf : gd_TY f) (hg : gd_TY g) (P : gd_cb f g = true → post 1) (Q : gd_cb f g = false → post 0) : wpX_consistent post (nI (gd_en f)) (nI (gd_en g)) := by
  refine Exists.intro (1 + gd_sz f) ?_
  have zf := hf.2
  have zg := hg.2
  refine gx_co (gx_en hf) (gx_en hg) f hf.1 g hg.1 0 0 0 0 1 (gd_sp_en hf.1) (gd_sp_en hg.1) (by omega) (by omega) (by omega) (by omega) ?_ Q _ (Nat.le_refl _)
  intro c p' N _ hN
  obtain ⟨N, rfl⟩ : ∃ K, N = K + 1 := ⟨N - 1, by omega⟩
  exact br_c (fun _ => P c) (fun _ => br_t (by rw [nI_0]; exact Int32.le_refl 0) (P c))
theorem gx_tagFor {post : Int32 → Prop} {t : Lean.RArray Nat} (H : gd_TY t) (P : post (nI (gd_en (gd_G t)))) : wpX_tagFor post (nI (gd_en t)) := by
  have hd := gd_hd_lt H.1
  refine gx_typeHead H ?_
  unfold gd_G at P
  refine pk_eq (gd_hd t) 3 (fun z => ?_) (fun z => pk_eq (gd_hd t) 4 (fun y => ?_) (fun y => ?_))
  · rw [if_pos z] at P; exact P
  · rw [if_neg z, if_pos y] at P; exact P
  · rw [if_neg z, if_neg y] at P; exact P
def gd_shp (t : Lean.RArray Nat) : Nat := if gd_hd t = 0 then 1 else if gd_hd t = 1 then 2 else if gd_hd t = 3 then 3 else 4
theorem gx_shapeOf {post : Int32 → Prop} {t : Lean.RArray Nat} (H : gd_TY t) (P : post (nI (gd_shp t))) : wpX_shapeOf post (nI (gd_en t)) := by
  have hd := gd_hd_lt H.1
  refine gx_typeHead H ?_
  refine br_f (nI_pos (by omega)) (pk_lt 3 (gd_hd t) (fun z => ?_) (fun z => ?_))
  · have e : gd_shp t = 4 := by unfold gd_shp; rw [if_neg (by omega), if_neg (by omega), if_neg (by omega)]
    rw [e] at P; exact P
  · refine pk_eq (gd_hd t) 0 (fun y => ?_) (fun y0 => pk_eq (gd_hd t) 1 (fun y => ?_) (fun y1 => pk_eq (gd_hd t) 2 (fun y => ?_) (fun y2 => pk_eq (gd_hd t) 3 (fun y => ?_) (fun y3 => trivial))))
    · have e : gd_shp t = 1 := by unfold gd_shp; rw [if_pos y]
      rw [e] at P; exact P
    · have e : gd_shp t = 2 := by unfold gd_shp; rw [if_neg y0, if_pos y]
      rw [e] at P; exact P
    · have e : gd_shp t = 4 := by unfold gd_shp; rw [if_neg (by omega), if_neg (by omega), if_neg (by omega)]
      rw [e] at P; exact P
    · have e : gd_shp t = 3 := by unfold gd_shp; rw [if_neg (by omega), if_neg (by omega), if_pos y]
      rw [e] at P; exact P
