/-! ===== 07: the machine in between: an evaluator with checks; none means that a check fell ===== -/
abbrev gm_Cell : Type := Nat × Int32 × Nat × Nat × Lean.RArray Nat × Lean.RArray Nat × Int × Nat × Nat × Nat × Nat
/-- kind, int, a, b, from, own type, label, chain counts of levels 1 2 3, rank -/
def gm_ck (c : gm_Cell) : Nat := c.1
def gm_ci (c : gm_Cell) : Int32 := c.2.1
def gm_ca (c : gm_Cell) : Nat := c.2.2.1
def gm_cb (c : gm_Cell) : Nat := c.2.2.2.1
def gm_cf (c : gm_Cell) : Lean.RArray Nat := c.2.2.2.2.1
def gm_ct (c : gm_Cell) : Lean.RArray Nat := c.2.2.2.2.2.1
def gm_cp (c : gm_Cell) : Int := c.2.2.2.2.2.2.1
def gm_q1 (c : gm_Cell) : Nat := c.2.2.2.2.2.2.2.1
def gm_q2 (c : gm_Cell) : Nat := c.2.2.2.2.2.2.2.2.1
def gm_q3 (c : gm_Cell) : Nat := c.2.2.2.2.2.2.2.2.2.1
def gm_rk (c : gm_Cell) : Nat := c.2.2.2.2.2.2.2.2.2.2
/-- cells, their number, scopes, their number (0 is the empty one), steps, turns -/
abbrev gm_S : Type := Nat × (Nat → gm_Cell) × Nat × (Nat → Nat × Nat) × Nat × Nat
def gm_n (s : gm_S) : Nat := s.1
def gm_h (s : gm_S) : Nat → gm_Cell := s.2.1
def gm_m (s : gm_S) : Nat := s.2.2.1
def gm_e (s : gm_S) : Nat → Nat × Nat := s.2.2.2.1
def gm_T (s : gm_S) : Nat := s.2.2.2.2.1
def gm_u (s : gm_S) : Nat := s.2.2.2.2.2
/-- 0 a value, 4 blame with its label, 5 long -/
abbrev gm_O : Type := Nat × Nat × Int × gm_S
def gm_bd (o : Option gm_O) (k : Nat → gm_S → Option gm_O) : Option gm_O :=
  match o with
  | none => none
  | some (0, v, _, s) => k v s
  | some (c + 1, v, p, s) => some (c + 1, v, p, s)
def gm_tk (s : gm_S) : gm_S := (s.1, s.2.1, s.2.2.1, s.2.2.2.1, s.2.2.2.2.1, s.2.2.2.2.2 + 1)
def gm_st (s : gm_S) : gm_S := (s.1, s.2.1, s.2.2.1, s.2.2.2.1, s.2.2.2.2.1 + 1, s.2.2.2.2.2)
def gm_tick (s : gm_S) (h : Nat) (k : gm_S → Option gm_O) : Option gm_O :=
  if gm_u s < 1000000 ∧ gm_n s ≤ 5000 ∧ gm_m s < 64 ∧ h < 32767 then k (gm_tk s) else none
def gm_push (s : gm_S) (c : gm_Cell) : gm_S := (s.1 + 1, (fun j => if j = s.1 then c else s.2.1 j), s.2.2.1, s.2.2.2.1, s.2.2.2.2.1, s.2.2.2.2.2)
def gm_new (s : gm_S) (c : gm_Cell) (add : Nat) : Option gm_O :=
  if gm_n s < 5000 then some (0, 8 * gm_n s + add, 0, gm_push s c) else none
def gm_vtb : Lean.RArray Nat → Bool
  | .leaf n => decide (n < 3)
  | .branch h l r => (h == 3 || h == 4) && gm_vtb l && gm_vtb r
def gm_tyb (t : Lean.RArray Nat) : Bool := gm_vtb t && decide (gd_sz t ≤ 7)
def gm_tag (t : Lean.RArray Nat) : Nat := if gd_hd t < 2 then 1 + gd_hd t else gd_hd t
def gm_sh (k : Nat) : Nat := if k < 3 then k else if k < 5 then 3 else 4
def gm_lv (f t : Lean.RArray Nat) : Nat := gd_mx (gd_dp f) (gd_dp t)
def gm_ind (a b : Nat) : Nat := if a ≤ b then 1 else 0
/-- a cast cell around the value v -/
def gm_cc (s : gm_S) (v : Nat) (f t : Lean.RArray Nat) (p : Int) : gm_Cell :=
  (if gd_hd f = 3 then 4 else 6, 0, v, 0, f, t, p, 1 + gm_q1 (gm_h s (v / 8)), gm_ind 2 (gm_lv f t) + gm_q2 (gm_h s (v / 8)), gm_ind 3 (gm_lv f t) + gm_q3 (gm_h s (v / 8)), gm_rk (gm_h s (v / 8)))
def gm_wr (s : gm_S) (v : Nat) (f t : Lean.RArray Nat) (p : Int) (add : Nat) : Option gm_O :=
  if gd_en f = gd_en t then some (0, v + add, 0, s)
  else if (gd_hd f = 3 ∨ gd_hd f = 4) ∧ gd_hd t = gd_hd f then gm_new s (gm_cc s v f t p) add else none
/-- what a cast looks at: the cell is there, its shape is the type's, a tag stands on what is of type ANY alone -/
def gm_wk (s : gm_S) (v : Nat) (f : Lean.RArray Nat) : Prop :=
  v / 8 < gm_n s ∧ (gd_hd f = 2 → v % 8 = gm_sh (gm_ck (gm_h s (v / 8)))) ∧ (gd_hd f ≠ 2 → v % 8 = 0 ∧ gm_sh (gm_ck (gm_h s (v / 8))) = gm_tag f)
def gm_wkb (s : gm_S) (v : Nat) (f : Lean.RArray Nat) : Bool :=
  decide (v / 8 < gm_n s) && (if gd_hd f = 2 then v % 8 == gm_sh (gm_ck (gm_h s (v / 8))) else (v % 8 == 0 && gm_sh (gm_ck (gm_h s (v / 8))) == gm_tag f))
def gm_cast (s : gm_S) (v : Nat) (f t : Lean.RArray Nat) (p : Int) : Option gm_O :=
  if (gm_wkb s v f && gm_tyb f && gm_tyb t) = true then
    (if gd_en f = gd_en t then some (0, v, 0, s)
    else if gd_hd t = 2 then gm_wr s v f (gd_G f) p (gm_tag f)
    else if gd_hd f = 2 then (if v % 8 = gm_tag t then gm_wr s (v - gm_tag t) (gd_G t) t p 0 else some (4, v, p, s))
    else gm_wr s v f t p 0)
  else none
/-- the cast of a frame: none where the types are alike -/
def gm_fc (s : gm_S) (h v : Nat) (f t : Lean.RArray Nat) (p : Int) : Option gm_O :=
  if gd_en f = gd_en t then some (0, v, 0, s) else gm_tick s h (fun s => gm_cast s v f t p)
/-- the program: kind, value, operand, type, target; its length -/
abbrev gm_P : Type := (Nat → Nat) × (Nat → Int32) × (Nat → Nat → Nat) × (Nat → Lean.RArray Nat) × (Nat → Nat → Lean.RArray Nat) × Nat
def gm_kd (P : gm_P) : Nat → Nat := P.1
def gm_vl (P : gm_P) : Nat → Int32 := P.2.1
def gm_op (P : gm_P) : Nat → Nat → Nat := P.2.2.1
def gm_ty (P : gm_P) : Nat → Lean.RArray Nat := P.2.2.2.1
def gm_tg (P : gm_P) : Nat → Nat → Lean.RArray Nat := P.2.2.2.2.1
def gm_cn (P : gm_P) : Nat := P.2.2.2.2.2
def gm_var (s : gm_S) : Nat → Nat → Option Nat
  | 0, w => if 0 < w ∧ w < gm_m s then some (gm_e s w).1 else none
  | n + 1, w => if 0 < w ∧ w < gm_m s then gm_var s n (gm_e s w).2 else none
def gm_opr (P : gm_P) (f : Nat → Nat → Nat → gm_S → Option gm_O) (h i k w : Nat) (s : gm_S) : Option gm_O :=
  gm_bd (f (h + 2) (gm_op P i k) w s) (fun v s => gm_bd (gm_fc s (h + 2) v (gm_ty P (gm_op P i k)) (gm_tg P i k) (3 * i + k + 1)) (fun v s => gm_tick s (h + 1) (fun s => some (0, v, 0, s))))
def gm_take (side : Nat) : Nat → Nat → Nat → gm_S → Option gm_O
  | 0, h, v, s => gm_tick s h (fun s =>
      if v / 8 < gm_n s ∧ gm_ck (gm_h s (v / 8)) = 5 then some (0, if side = 0 then gm_ca (gm_h s (v / 8)) else gm_cb (gm_h s (v / 8)), 0, s) else none)
  | n + 1, h, v, s => gm_tick s h (fun s =>
      if v / 8 < gm_n s ∧ gm_ck (gm_h s (v / 8)) = 6 then
        gm_bd (gm_take side n (h + 1) (gm_ca (gm_h s (v / 8))) s) (fun u s' =>
          gm_fc s' (h + 1) u (if side = 0 then gd_lf (gm_cf (gm_h s (v / 8))) else gd_rt (gm_cf (gm_h s (v / 8)))) (if side = 0 then gd_lf (gm_ct (gm_h s (v / 8))) else gd_rt (gm_ct (gm_h s (v / 8)))) (gm_cp (gm_h s (v / 8))))
      else none)
def gm_scope (s : gm_S) (a b : Nat) : gm_S :=
  (s.1, s.2.1, s.2.2.1 + 1, (fun j => if j = s.2.2.1 then (a, b) else s.2.2.2.1 j), s.2.2.2.2.1, s.2.2.2.2.2)
def gm_call (f : Nat → Nat → Nat → gm_S → Option gm_O) : Nat → Nat → Nat → Nat → gm_S → Option gm_O
  | 0, h, g, a, s => gm_tick s h (fun s =>
      if g / 8 < gm_n s ∧ gm_ck (gm_h s (g / 8)) = 3 then f h (gm_ca (gm_h s (g / 8)) + 1) (gm_m s) (gm_scope s a (gm_cb (gm_h s (g / 8)))) else none)
  | n + 1, h, g, a, s => gm_tick s h (fun s =>
      if g / 8 < gm_n s ∧ gm_ck (gm_h s (g / 8)) = 4 then
        gm_bd (gm_cast s a (gd_lf (gm_ct (gm_h s (g / 8)))) (gd_lf (gm_cf (gm_h s (g / 8)))) (- gm_cp (gm_h s (g / 8)))) (fun a' s' =>
          gm_bd (gm_call f n (h + 1) (gm_ca (gm_h s (g / 8))) a' s') (fun u s'' =>
            gm_fc s'' (h + 1) u (gd_rt (gm_cf (gm_h s (g / 8)))) (gd_rt (gm_ct (gm_h s (g / 8)))) (gm_cp (gm_h s (g / 8)))))
      else none)
def gm_num (s : gm_S) (v : Nat) (k : Int32 → Option gm_O) : Option gm_O :=
  if v / 8 < gm_n s ∧ gm_ck (gm_h s (v / 8)) < 3 then k (gm_ci (gm_h s (v / 8))) else none
/-- behind the first operand -/
def gm_rest (P : gm_P) (f : Nat → Nat → Nat → gm_S → Option gm_O) (h i w v : Nat) (s : gm_S) : Option gm_O :=
  if gm_kd P i = 9 ∨ gm_kd P i = 10 then gm_take (gm_kd P i - 9) (gm_q1 (gm_h s (v / 8))) h v s
  else if gm_kd P i = 5 then gm_num s v (fun x => gm_opr P f h i (if x = 0 then 2 else 1) w s)
  else if gm_kd P i = 11 then some (0, v, 0, s)
  else gm_bd (gm_opr P f h i 1 w s) (fun v' s =>
    if gm_kd P i = 4 then (if gm_q1 (gm_h s (v / 8)) < 5000 then gm_call f (gm_q1 (gm_h s (v / 8))) h v v' s else none)
    else if gm_kd P i = 6 then gm_num s v (fun x => gm_num s v' (fun y => gm_new s (1, x + y, 0, 0, .leaf 0, .leaf 0, 0, 0, 0, 0, 0) 0))
    else if gm_kd P i = 7 then gm_num s v (fun x => gm_num s v' (fun y => gm_new s (2, if x < y then 1 else 0, 0, 0, .leaf 1, .leaf 1, 0, 0, 0, 0, 0) 0))
    else if gm_kd P i = 8 then (if v / 8 < gm_n s ∧ v' / 8 < gm_n s then gm_new s (5, 0, v, v', gm_ty P i, gm_ty P i, 0, 0, 0, 0, 1 + gd_mx (gm_rk (gm_h s (v / 8))) (gm_rk (gm_h s (v' / 8)))) 0 else none)
    else none)
def gm_ev (P : gm_P) : Nat → Nat → Nat → Nat → gm_S → Option gm_O
  | 0, _, _, _, _ => none
  | d + 1, h, i, w, s => if i < gm_cn P then gm_tick s h (fun s =>
      if 40 ≤ gm_T s then some (5, 0, 0, s) else
        (fun s : gm_S =>
          if gm_kd P i = 0 then gm_new s (1, gm_vl P i, 0, 0, .leaf 0, .leaf 0, 0, 0, 0, 0, 0) 0
          else if gm_kd P i = 1 then gm_new s (2, gm_vl P i, 0, 0, .leaf 1, .leaf 1, 0, 0, 0, 0, 0) 0
          else if gm_kd P i = 2 then (match gm_var s (gm_vl P i).toNatClampNeg w with | none => none | some v => some (0, v, 0, s))
          else if gm_kd P i = 3 then gm_new s (3, 0, i, w, gm_ty P i, gm_ty P i, 0, 0, 0, 0, 0) 0
          else gm_bd (gm_opr P (gm_ev P d) h i 0 w s) (fun v s => gm_rest P (gm_ev P d) h i w v s))
        (gm_st s)) else none
