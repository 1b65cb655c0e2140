def fX0_init (l0 : Nat) (h : e_H) : Option e_H :=
  (o_obj h l0 0).bind fun _ => (o_put h l0 0 0 (.int (nI 0))).bind fun h1 => (o_newA h1 0 (nI 15) 15).bind fun p2 => (o_put p2.2 l0 0 1 (.ref p2.1)).bind fun h3 => some h3
def fX7_init_b47 (k47 : Nat → Int32 → e_H → Option e_H) (l0 : Nat) (l1 : Int32) (h : e_H) : Option e_H :=
  (o_getR h l0 7 3).bind fun v1 => e_on v1 (none) (fun a2 => (o_len h a2 4).bind fun v3 => if v3 ≤ l1 then (some h) else ((o_getR h l0 7 3).bind fun v4 => e_on v4 ((some (o_newO h 0 [.int 0, .null])).bind fun p6 => (fX0_init p6.1 p6.2).bind fun h7 => none) (fun a5 => (some (o_newO h 0 [.int 0, .null])).bind fun p9 => (fX0_init p9.1 p9.2).bind fun h10 => (o_stQ h10 a5 4 l1 p9.1).bind fun h11 => k47 l0 (l1 + (nI 1)) h11)))
def fX7_init_L47 : Nat → Nat → Int32 → e_H → Option e_H
  | 0 => fun _ _ _ => none
  | n + 1 => fX7_init_b47 (fX7_init_L47 n)
def fX7_init (l0 : Nat) (h : e_H) : Option e_H :=
  (o_obj h l0 7).bind fun _ => (o_put h l0 7 0 (.int (nI 0))).bind fun h1 => (o_put h1 l0 7 1 (.int (nI 0))).bind fun h2 => (o_put h2 l0 7 2 (.int (nI 1))).bind fun h3 => (o_newA h3 4 (nI 6) 6).bind fun p4 => (o_put p4.2 l0 7 3 (.ref p4.1)).bind fun h5 => (o_newA h5 5 (nI 14) 14).bind fun p6 => (o_put p6.2 l0 7 4 (.ref p6.1)).bind fun h7 => (o_newA h7 0 (nI 96) 96).bind fun p8 => (o_put p8.2 l0 7 5 (.ref p8.1)).bind fun h9 => fX7_init_L47 10 l0 (nI 0) h9
def fX3_init (l0 : Nat) (h : e_H) : Option e_H :=
  (o_obj h l0 3).bind fun _ => (o_newA h 1 (nI 85) 85).bind fun p1 => (o_put p1.2 l0 3 0 (.ref p1.1)).bind fun h2 => some h2
def fX6_init_b65 (k65 : Nat → Int32 → e_H → Option e_H) (l0 : Nat) (l2 : Int32) (h : e_H) : Option e_H :=
  (o_getR h l0 6 7).bind fun v1 => e_on v1 (none) (fun a2 => (o_len h a2 8).bind fun v3 => if v3 ≤ l2 then (some h) else ((o_getR h l0 6 7).bind fun v4 => e_on v4 ((some (o_newO h 3 [.null])).bind fun p6 => (fX3_init p6.1 p6.2).bind fun h7 => none) (fun a5 => (some (o_newO h 3 [.null])).bind fun p9 => (fX3_init p9.1 p9.2).bind fun h10 => (o_stQ h10 a5 8 l2 p9.1).bind fun h11 => k65 l0 (l2 + (nI 1)) h11)))
def fX6_init_L65 : Nat → Nat → Int32 → e_H → Option e_H
  | 0 => fun _ _ _ => none
  | n + 1 => fX6_init_b65 (fX6_init_L65 n)
def fX6_init (l0 : Nat) (l1 : Nat) (h : e_H) : Option e_H :=
  (o_obj h l0 6).bind fun _ => (o_put h l0 6 0 (.int (nI 0))).bind fun h1 => (o_put h1 l0 6 1 (.int (nI 0))).bind fun h2 => (o_put h2 l0 6 2 (.int (nI 0))).bind fun h3 => (o_newA h3 0 (nI 15) 15).bind fun p4 => (o_put p4.2 l0 6 4 (.ref p4.1)).bind fun h5 => (o_newA h5 0 (nI 121) 121).bind fun p6 => (o_put p6.2 l0 6 5 (.ref p6.1)).bind fun h7 => (o_newA h7 0 (nI 121) 121).bind fun p8 => (o_put p8.2 l0 6 6 (.ref p8.1)).bind fun h9 => (o_newA h9 8 (nI 3) 3).bind fun p10 => (o_put p10.2 l0 6 7 (.ref p10.1)).bind fun h11 => (o_newA h11 1 (nI 5) 5).bind fun p12 => (o_put p12.2 l0 6 8 (.ref p12.1)).bind fun h13 => (o_put h13 l0 6 3 (.ref l1)).bind fun h14 => fX6_init_L65 10 l0 (nI 0) h14
def fX5_init (l0 : Nat) (h : e_H) : Option e_H :=
  (o_obj h l0 5).bind fun _ => (o_put h l0 5 0 (.int (nI 0))).bind fun h1 => (o_newA h1 0 (nI 96) 96).bind fun p2 => (o_put p2.2 l0 5 1 (.ref p2.1)).bind fun h3 => (o_newA h3 0 (nI 96) 96).bind fun p4 => (o_put p4.2 l0 5 2 (.ref p4.1)).bind fun h5 => (o_put h5 l0 5 3 (.int (nI 0))).bind fun h6 => (o_put h6 l0 5 4 (.int (nI 0))).bind fun h7 => (o_put h7 l0 5 5 (.int (-1 : Int32))).bind fun h8 => (o_put h8 l0 5 6 (.int (nI 0))).bind fun h9 => some h9
def fX2_init (l0 : Nat) (h : e_H) : Option e_H :=
  (o_obj h l0 2).bind fun _ => (o_put h l0 2 0 (.int (-1 : Int32))).bind fun h1 => (o_put h1 l0 2 1 (.int (nI 0))).bind fun h2 => (o_newA h2 0 (nI 24) 24).bind fun p3 => (o_put p3.2 l0 2 2 (.ref p3.1)).bind fun h4 => some h4
def fX4_init (l0 : Nat) (h : e_H) : Option e_H :=
  (o_obj h l0 4).bind fun _ => (o_put h l0 4 0 (.int (nI 0))).bind fun h1 => (o_put h1 l0 4 1 (.int (nI 0))).bind fun h2 => (some (o_newO h2 0 [.int 0, .null])).bind fun p3 => (fX0_init p3.1 p3.2).bind fun h4 => (o_put h4 l0 4 2 (.ref p3.1)).bind fun h5 => (some (o_newO h5 2 [.int 0, .int 0, .null])).bind fun p6 => (fX2_init p6.1 p6.2).bind fun h7 => (o_put h7 l0 4 3 (.ref p6.1)).bind fun h8 => some h8
def fX8_init_b133 (k133 : Nat → Int32 → e_H → Option e_H) (l0 : Nat) (l1 : Int32) (h : e_H) : Option e_H :=
  (o_getR h l0 8 6).bind fun v1 => e_on v1 (none) (fun a2 => (o_len h a2 7).bind fun v3 => if v3 ≤ l1 then (some h) else ((o_getR h l0 8 6).bind fun v4 => e_on v4 ((some (o_newO h 4 [.int 0, .int 0, .null, .null])).bind fun p6 => (fX4_init p6.1 p6.2).bind fun h7 => none) (fun a5 => (some (o_newO h 4 [.int 0, .int 0, .null, .null])).bind fun p9 => (fX4_init p9.1 p9.2).bind fun h10 => (o_stQ h10 a5 7 l1 p9.1).bind fun h11 => k133 l0 (l1 + (nI 1)) h11)))
def fX8_init_L133 : Nat → Nat → Int32 → e_H → Option e_H
  | 0 => fun _ _ _ => none
  | n + 1 => fX8_init_b133 (fX8_init_L133 n)
def fX8_init_b103 (k103 : Nat → Int32 → e_H → Option e_H) (l0 : Nat) (l1 : Int32) (h : e_H) : Option e_H :=
  (o_getR h l0 8 5).bind fun v1 => e_on v1 (none) (fun a2 => (o_len h a2 6).bind fun v3 => if v3 ≤ l1 then (fX8_init_L133 10 l0 (nI 0) h) else ((o_getR h l0 8 5).bind fun v4 => e_on v4 ((some (o_newO h 2 [.int 0, .int 0, .null])).bind fun p6 => (fX2_init p6.1 p6.2).bind fun h7 => none) (fun a5 => (some (o_newO h 2 [.int 0, .int 0, .null])).bind fun p9 => (fX2_init p9.1 p9.2).bind fun h10 => (o_stQ h10 a5 6 l1 p9.1).bind fun h11 => k103 l0 (l1 + (nI 1)) h11)))
def fX8_init_L103 : Nat → Nat → Int32 → e_H → Option e_H
  | 0 => fun _ _ _ => none
  | n + 1 => fX8_init_b103 (fX8_init_L103 n)
def fX8_init (l0 : Nat) (h : e_H) : Option e_H :=
  (o_obj h l0 8).bind fun _ => (some (o_newO h 7 [.int 0, .int 0, .int 0, .null, .null, .null])).bind fun p1 => (fX7_init p1.1 p1.2).bind fun h2 => (o_put h2 l0 8 0 (.ref p1.1)).bind fun h3 => (some (o_newO h3 7 [.int 0, .int 0, .int 0, .null, .null, .null])).bind fun p4 => (fX7_init p4.1 p4.2).bind fun h5 => (o_put h5 l0 8 1 (.ref p4.1)).bind fun h6 => (some (o_newO h6 6 [.int 0, .int 0, .int 0, .null, .null, .null, .null, .null, .null])).bind fun p7 => (o_getR p7.2 l0 8 0).bind fun v8 => e_on v8 (none) (fun a9 => (fX6_init p7.1 a9 p7.2).bind fun h10 => (o_put h10 l0 8 2 (.ref p7.1)).bind fun h11 => (some (o_newO h11 6 [.int 0, .int 0, .int 0, .null, .null, .null, .null, .null, .null])).bind fun p12 => (o_getR p12.2 l0 8 1).bind fun v13 => e_on v13 (none) (fun a14 => (fX6_init p12.1 a14 p12.2).bind fun h15 => (o_put h15 l0 8 3 (.ref p12.1)).bind fun h16 => (some (o_newO h16 5 [.int 0, .null, .null, .int 0, .int 0, .int 0, .int 0])).bind fun p17 => (fX5_init p17.1 p17.2).bind fun h18 => (o_put h18 l0 8 4 (.ref p17.1)).bind fun h19 => (o_newA h19 6 (nI 4) 4).bind fun p20 => (o_put p20.2 l0 8 5 (.ref p20.1)).bind fun h21 => (o_newA h21 7 (nI 5) 5).bind fun p22 => (o_put p22.2 l0 8 6 (.ref p22.1)).bind fun h23 => (o_newA h23 0 (nI 60) 60).bind fun p24 => (o_put p24.2 l0 8 7 (.ref p24.1)).bind fun h25 => (o_put h25 l0 8 8 (.int (nI 0))).bind fun h26 => (o_put h26 l0 8 9 (.int (nI 0))).bind fun h27 => fX8_init_L103 10 l0 (nI 0) h27))
def fX8_isKind (l0 : Int32) : Option Bool :=
  if l0 < 0 then (some false) else (if (nI 5) < l0 then (some false) else (some true))
def fJ7_fill_53178_b5 (k5 : Nat → Int32 → Int32 → Int32 → e_H → Option e_H) (l0 : Nat) (l1 : Int32) (l2 : Int32) (l3 : Int32) (h : e_H) : Option e_H :=
  if l3 ≤ l2 then (some h) else ((o_stI h l0 0 l2 l1).bind fun h1 => k5 l0 l1 (l2 + (nI 1)) l3 h1)
def fJ7_fill_53178_L5 : Nat → Nat → Int32 → Int32 → Int32 → e_H → Option e_H
  | 0 => fun _ _ _ _ _ => none
  | n + 1 => fJ7_fill_53178_b5 (fJ7_fill_53178_L5 n)
def fJ7_fill_53178 (l0 : Nat) (l1 : Int32) (h : e_H) : Option e_H :=
  (o_len h l0 0).bind fun v1 => fJ7_fill_53178_L5 200 l0 l1 (nI 0) v1 h
def fX0_becomesZero (l0 : Nat) (l1 : Int32) (h : e_H) : Option e_H :=
  (o_obj h l0 0).bind fun _ => (o_put h l0 0 0 (.int l1)).bind fun h1 => (o_getR h1 l0 0 1).bind fun v2 => e_on v2 (none) (fun a3 => (fJ7_fill_53178 a3 (nI 0) h1).bind fun h4 => some h4)
def fX7_addCurve (l0 : Nat) (l1 : Int32) (h : e_H) : Option (Option Nat × e_H) :=
  (o_obj h l0 7).bind fun _ => (o_getI h l0 7 0).bind fun v1 => if v1 < 0 then (some (none, h)) else ((o_getI h l0 7 0).bind fun v2 => (o_getR h l0 7 3).bind fun v3 => e_on v3 (none) (fun a4 => (o_len h a4 4).bind fun v5 => if v2 < v5 then ((o_getR h l0 7 3).bind fun v6 => e_on v6 ((o_getI h l0 7 0).bind fun v8 => none) (fun a7 => (o_getI h l0 7 0).bind fun v10 => (o_ldR h a7 4 v10).bind fun v11 => e_on v11 (none) (fun a12 => (fX0_becomesZero a12 l1 h).bind fun h13 => (o_getI h13 l0 7 0).bind fun v14 => (o_put h13 l0 7 0 (.int (v14 + (nI 1)))).bind fun h15 => some ((some a12), h15)))) else (some (none, h))))
def fX8_curve (l0 : Nat) (l1 : Int32) (h : e_H) : Option (Int32 × e_H) :=
  (o_obj h l0 8).bind fun _ => (fX8_isKind l1).bind fun v1 => if (e_b v1) = 0 then (some ((-1000000001 : Int32), h)) else ((o_getR h l0 8 0).bind fun v2 => e_on v2 (none) (fun a3 => (fX7_addCurve a3 l1 h).bind fun p4 => e_on p4.1 (some ((-1000000003 : Int32), p4.2)) (fun a6 => (o_getR p4.2 l0 8 0).bind fun v7 => e_on v7 (none) (fun a8 => (o_getI p4.2 a8 7 0).bind fun v9 => some ((v9 - (nI 1)), p4.2)))))
def fX7_curveOf (l0 : Nat) (l1 : Int32) (h : e_H) : Option (Option Nat) :=
  (o_obj h l0 7).bind fun _ => if l1 < 0 then (some none) else ((o_getI h l0 7 0).bind fun v1 => if v1 ≤ l1 then (some none) else ((o_getR h l0 7 3).bind fun v2 => e_on v2 (none) (fun a3 => (o_len h a3 4).bind fun v4 => if l1 < v4 then ((o_getR h l0 7 3).bind fun v5 => e_on v5 (none) (fun a6 => (o_ldR h a6 4 l1).bind fun v8 => e_on v8 (some none) (fun a9 => some (some a9)))) else (some none))))
def fX8_indexOf (l0 : Int32) (l1 : Int32) : Option Int32 :=
  if l0 < 0 then (some (-1 : Int32)) else (if (nI 5) ≤ l0 then (some (-1 : Int32)) else (if l1 < 0 then (some (-1 : Int32)) else (if l1 ≤ ((nI 4) - l0) then (if l0 < 0 ∨ 5 ≤ (l0).toNatClampNeg then none else some ((e_fx (l0).toNatClampNeg) + l1)) else (some (-1 : Int32)))))
def fX0_numberAt (l0 : Nat) (l1 : Int32) (h : e_H) : Option Int32 :=
  (o_obj h l0 0).bind fun _ => if l1 < 0 then (some (nI 0)) else ((o_getR h l0 0 1).bind fun v1 => e_on v1 (none) (fun a2 => (o_len h a2 0).bind fun v3 => if l1 < v3 then ((o_getR h l0 0 1).bind fun v4 => e_on v4 (none) (fun a5 => (o_ldI h a5 0 l1).bind fun v6 => some v6)) else (some (nI 0))))
def fX0_setNumber (l0 : Nat) (l1 : Int32) (l2 : Int32) (h : e_H) : Option e_H :=
  (o_obj h l0 0).bind fun _ => if l1 < 0 then (some h) else ((o_getR h l0 0 1).bind fun v1 => e_on v1 (none) (fun a2 => (o_len h a2 0).bind fun v3 => if v3 ≤ l1 then (some h) else ((o_getR h l0 0 1).bind fun v4 => e_on v4 (none) (fun a5 => (o_stI h a5 0 l1 l2).bind fun h7 => some h7))))
def fX8_put (l0 : Nat) (l1 : Int32) (l2 : Int32) (l3 : Int32) (h : e_H) : Option (Int32 × e_H) :=
  (o_obj h l0 8).bind fun _ => (o_getR h l0 8 0).bind fun v1 => e_on v1 (none) (fun a2 => (fX7_curveOf a2 l1 h).bind fun v3 => e_on v3 ((fX8_indexOf (l2 / (nI 10)) (l2 - l2 / (nI 10) * (nI 10))).bind fun v5 => some ((-1000000001 : Int32), h)) (fun a4 => (fX8_indexOf (l2 / (nI 10)) (l2 - l2 / (nI 10) * (nI 10))).bind fun v6 => if v6 < 0 then (some ((-1000000001 : Int32), h)) else (if l3 < (-99 : Int32) then (some ((-1000000001 : Int32), h)) else (if l3 ≤ (nI 99) then ((fX0_numberAt a4 v6 h).bind fun v7 => (fX0_setNumber a4 v6 l3 h).bind fun h8 => some (v7, h8)) else (some ((-1000000001 : Int32), h))))))
def fX0_isOf_b27 (h : e_H) (l0 : Nat) (l1 : Int32) : Option Bool :=
  if l1 = (nI 2) then ((o_getI h l0 0 0).bind fun v1 => if v1 = (nI 4) then (some true) else (some false)) else (some false)
def fX0_isOf (l0 : Nat) (l1 : Int32) (h : e_H) : Option Bool :=
  (o_obj h l0 0).bind fun _ => if l1 = 0 then (some true) else ((o_getI h l0 0 0).bind fun v1 => if l1 = v1 then (some true) else (if l1 = (nI 1) then ((o_getI h l0 0 0).bind fun v2 => if v2 = (nI 3) then (some true) else (fX0_isOf_b27 h l0 l1)) else (fX0_isOf_b27 h l0 l1)))
def fX0_factor (l0 : Nat) (l1 : Int32) (l2 : Int32) (h : e_H) : Option Int32 :=
  (o_obj h l0 0).bind fun _ => (o_getI h l0 0 0).bind fun v1 => if v1 = nI 2 then (if (l1 - l1 / (nI 2) * (nI 2)) = 0 then (some (nI 1)) else (some (-1 : Int32))) else (if v1 = nI 3 then (some (-1 : Int32)) else (if v1 = nI 4 then (if (l1 - l1 / (nI 2) * (nI 2)) = 0 then (some (nI 2)) else (some (-2 : Int32))) else (if v1 = nI 5 then (if l2 = 0 then (some (nI 1)) else (some (nI 0))) else (some (nI 1)))))
def fX0_number (l0 : Nat) (l1 : Int32) (l2 : Int32) (h : e_H) : Option Int32 :=
  (o_obj h l0 0).bind fun _ => (fX8_indexOf l1 l2).bind fun v1 => (fX0_numberAt l0 v1 h).bind fun v2 => some v2
def fX7_lawAt (l0 : Nat) (l1 : Int32) (h : e_H) : Option (Option Nat) :=
  (o_obj h l0 7).bind fun _ => if l1 < 0 then (some none) else ((o_getI h l0 7 1).bind fun v1 => if v1 ≤ l1 then (some none) else ((o_getR h l0 7 4).bind fun v2 => e_on v2 (none) (fun a3 => (o_len h a3 5).bind fun v4 => if l1 < v4 then ((o_getR h l0 7 4).bind fun v5 => e_on v5 (none) (fun a6 => (o_ldR h a6 5 l1).bind fun v8 => e_on v8 (some none) (fun a9 => some (some a9)))) else (some none))))
def fX7_lastLawOf_b31 (h : e_H) (k7 : Nat → Int32 → Int32 → Option Int32) (l0 : Nat) (l1 : Int32) (l2 : Int32) : Option Int32 :=
  k7 l0 l1 (l2 + (-1 : Int32))
def fX7_lastLawOf_b7 (h : e_H) (k7 : Nat → Int32 → Int32 → Option Int32) (l0 : Nat) (l1 : Int32) (l2 : Int32) : Option Int32 :=
  if l2 < 0 then (some (-1 : Int32)) else ((fX7_lawAt l0 l2 h).bind fun v1 => e_on v1 (fX7_lastLawOf_b31 h k7 l0 l1 l2) (fun a2 => (o_getI h a2 1 0).bind fun v3 => if v3 = l1 then (some l2) else (fX7_lastLawOf_b31 h k7 l0 l1 l2)))
def fX7_lastLawOf_L7 (h : e_H) : Nat → Nat → Int32 → Int32 → Option Int32
  | 0 => fun _ _ _ => none
  | n + 1 => fX7_lastLawOf_b7 h (fX7_lastLawOf_L7 h n)
def fX7_lastLawOf (l0 : Nat) (l1 : Int32) (h : e_H) : Option Int32 :=
  (o_obj h l0 7).bind fun _ => (o_getI h l0 7 1).bind fun v1 => fX7_lastLawOf_L7 h 200 l0 l1 (v1 - (nI 1))
def fX1_joined (l0 : Int32) (l1 : Int32) (l2 : Int32) : Option Int32 :=
  if l0 = nI 38 then (if l1 = 0 then (some (nI 0)) else (if l2 = 0 then (some (nI 0)) else (some (nI 1)))) else (if l0 = nI 42 then (some (l1 * l2)) else (if l0 = nI 43 then (some (l1 + l2)) else (if l0 = nI 45 then (some (l1 - l2)) else (if l0 = nI 47 then (if l2 = 0 then (some (nI 0)) else (if l2 = 0 then none else some (l1 / l2))) else (if l0 = nI 60 then (if l2 ≤ l1 then (some (nI 0)) else (some (nI 1))) else (if l0 = nI 61 then (if l1 = l2 then (some (nI 1)) else (some (nI 0))) else (if l0 = nI 62 then (if l1 ≤ l2 then (some (nI 0)) else (some (nI 1))) else (if l0 = nI 124 then (if l1 = 0 then (if l2 = 0 then (some (nI 0)) else (some (nI 1))) else (some (nI 1))) else (some (nI 0))))))))))
def fX1_gives_b177 (k6 : Nat → Int32 → Int32 → Int32 → Nat → Int32 → Int32 → e_H → Option (Int32 × e_H)) (l0 : Nat) (l1 : Int32) (l2 : Int32) (l3 : Int32) (l4 : Nat) (l5 : Int32) (l6 : Int32) (h : e_H) : Option (Int32 × e_H) :=
  k6 l0 l1 l2 l3 l4 l5 (l6 + (nI 1)) h
def fX1_gives_b129 (k6 : Nat → Int32 → Int32 → Int32 → Nat → Int32 → Int32 → e_H → Option (Int32 × e_H)) (l0 : Nat) (l1 : Int32) (l2 : Int32) (l3 : Int32) (l4 : Nat) (l5 : Int32) (l6 : Int32) (t0 : Int32) (t1 : Int32) (t2 : Nat) (h : e_H) : Option (Int32 × e_H) :=
  (o_stI h t2 0 t1 t0).bind fun h1 => fX1_gives_b177 k6 l0 l1 l2 l3 l4 l5 l6 h1
def fX1_gives_b78 (k6 : Nat → Int32 → Int32 → Int32 → Nat → Int32 → Int32 → e_H → Option (Int32 × e_H)) (l0 : Nat) (l1 : Int32) (l2 : Int32) (l3 : Int32) (l4 : Nat) (l5 : Int32) (l6 : Int32) (t0 : Int32) (t1 : Int32) (t2 : Nat) (h : e_H) : Option (Int32 × e_H) :=
  (o_stI h t2 0 t1 t0).bind fun h1 => fX1_gives_b177 k6 l0 l1 l2 l3 l4 (l5 + (nI 1)) l6 h1
def fX1_gives_b6 (k6 : Nat → Int32 → Int32 → Int32 → Nat → Int32 → Int32 → e_H → Option (Int32 × e_H)) (l0 : Nat) (l1 : Int32) (l2 : Int32) (l3 : Int32) (l4 : Nat) (l5 : Int32) (l6 : Int32) (h : e_H) : Option (Int32 × e_H) :=
  (o_getR h l0 1 2).bind fun v1 => e_on v1 (none) (fun a2 => (o_len h a2 0).bind fun v3 => if v3 ≤ l6 then (if l5 = (nI 1) then ((o_len h l4 0).bind fun v4 => if v4 ≤ 0 then (some ((nI 0), h)) else ((o_ldI h l4 0 (nI 0)).bind fun v5 => some (v5, h))) else (some ((nI 0), h))) else ((o_getR h l0 1 2).bind fun v6 => e_on v6 (none) (fun a7 => (o_ldI h a7 0 l6).bind fun v8 => if v8 < (-3 : Int32) then (if v8 = (-33 : Int32) then (if l5 < (nI 1) then (some ((nI 0), h)) else ((o_len h l4 0).bind fun v9 => if l5 ≤ v9 then ((o_ldI h l4 0 (l5 - (nI 1))).bind fun v10 => if v10 = 0 then (fX1_gives_b129 k6 l0 l1 l2 l3 l4 l5 l6 (nI 1) (l5 - (nI 1)) l4 h) else (fX1_gives_b129 k6 l0 l1 l2 l3 l4 l5 l6 (nI 0) (l5 - (nI 1)) l4 h)) else (some ((nI 0), h)))) else (if l5 < (nI 2) then (some ((nI 0), h)) else ((o_len h l4 0).bind fun v11 => if l5 ≤ v11 then ((o_ldI h l4 0 ((l5 + (-1 : Int32)) - (nI 1))).bind fun v12 => (o_ldI h l4 0 (l5 + (-1 : Int32))).bind fun v13 => (fX1_joined (-v8) v12 v13).bind fun v14 => (o_stI h l4 0 ((l5 + (-1 : Int32)) - (nI 1)) v14).bind fun h15 => fX1_gives_b177 k6 l0 l1 l2 l3 l4 (l5 + (-1 : Int32)) l6 h15) else (some ((nI 0), h))))) else ((o_len h l4 0).bind fun v16 => if l5 < v16 then (if v8 < 0 then (if v8 = (-1 : Int32) then (fX1_gives_b78 k6 l0 l1 l2 l3 l4 l5 l6 l1 l5 l4 h) else (if v8 = (-2 : Int32) then (fX1_gives_b78 k6 l0 l1 l2 l3 l4 l5 l6 l2 l5 l4 h) else (fX1_gives_b78 k6 l0 l1 l2 l3 l4 l5 l6 l3 l5 l4 h))) else (fX1_gives_b78 k6 l0 l1 l2 l3 l4 l5 l6 v8 l5 l4 h)) else (some ((nI 0), h))))))
def fX1_gives_L6 : Nat → Nat → Int32 → Int32 → Int32 → Nat → Int32 → Int32 → e_H → Option (Int32 × e_H)
  | 0 => fun _ _ _ _ _ _ _ _ => none
  | n + 1 => fX1_gives_b6 (fX1_gives_L6 n)
def fX1_gives (l0 : Nat) (l1 : Int32) (l2 : Int32) (l3 : Int32) (l4 : Nat) (h : e_H) : Option (Int32 × e_H) :=
  (o_obj h l0 1).bind fun _ => fX1_gives_L6 200 l0 l1 l2 l3 l4 (nI 0) (nI 0) h
def fX7_lawGives (l0 : Nat) (l1 : Int32) (l2 : Int32) (l3 : Int32) (l4 : Int32) (l5 : Int32) (h : e_H) : Option (Int32 × e_H) :=
  (o_obj h l0 7).bind fun _ => (fX7_lastLawOf l0 l1 h).bind fun v1 => (fX7_lawAt l0 v1 h).bind fun v2 => e_on v2 (some (l5, h)) (fun a3 => (o_getR h l0 7 5).bind fun v4 => e_on v4 (none) (fun a5 => (fX1_gives a3 l2 l3 l4 a5 h).bind fun p6 => some (p6.1, p6.2)))
def fX8_held (l0 : Int32) : Option Int32 :=
  some (if (-99 : Int32) < (if l0 < (nI 99) then l0 else (nI 99)) then (if l0 < (nI 99) then l0 else (nI 99)) else (-99 : Int32))
def fX7_termAt_b29 (l0 : Nat) (l1 : Nat) (l2 : Int32) (l3 : Int32) (l5 : Int32) (t0 : Int32) (h : e_H) : Option (Int32 × e_H) :=
  (fX0_factor l1 l2 l3 h).bind fun v1 => (fX0_number l1 l5 t0 h).bind fun v2 => (fX0_number l1 l5 t0 h).bind fun v3 => (fX7_lawGives l0 (nI 0) l5 t0 v2 v3 h).bind fun p4 => (fX8_held p4.1).bind fun v5 => some ((v1 * v5), p4.2)
def fX7_termAt_b17 (l0 : Nat) (l1 : Nat) (l2 : Int32) (l3 : Int32) (l4 : Int32) (t0 : Int32) (h : e_H) : Option (Int32 × e_H) :=
  if l4 = 0 then (fX7_termAt_b29 l0 l1 l2 l3 t0 l3 h) else (fX7_termAt_b29 l0 l1 l2 l3 t0 l2 h)
def fX7_termAt (l0 : Nat) (l1 : Nat) (l2 : Int32) (l3 : Int32) (h : e_H) : Option (Int32 × e_H) :=
  (o_obj h l0 7).bind fun _ => (fX0_isOf l1 (nI 1) h).bind fun v1 => if (e_b v1) = 0 then (fX7_termAt_b17 l0 l1 l2 l3 (e_b v1) l2 h) else (fX7_termAt_b17 l0 l1 l2 l3 (e_b v1) l3 h)
def fX8_term (l0 : Nat) (l1 : Int32) (l2 : Int32) (l3 : Int32) (h : e_H) : Option (Int32 × e_H) :=
  (o_obj h l0 8).bind fun _ => (o_getR h l0 8 0).bind fun v1 => e_on v1 (none) (fun a2 => (fX7_curveOf a2 l1 h).bind fun v3 => e_on v3 ((fX8_indexOf (l2 / (nI 10)) (l2 - l2 / (nI 10) * (nI 10))).bind fun v5 => some ((-1000000001 : Int32), h)) (fun a4 => (fX8_indexOf (l2 / (nI 10)) (l2 - l2 / (nI 10) * (nI 10))).bind fun v6 => if v6 < 0 then (some ((-1000000001 : Int32), h)) else (if l3 < 0 then (some ((-1000000001 : Int32), h)) else (if l3 ≤ (nI 1) then (if l3 = 0 then ((fX0_numberAt a4 v6 h).bind fun v7 => some (v7, h)) else ((o_getR h l0 8 0).bind fun v8 => e_on v8 (none) (fun a9 => (fX7_termAt a9 a4 (l2 / (nI 10)) (l2 - l2 / (nI 10) * (nI 10)) h).bind fun p10 => some (p10.1, p10.2)))) else (some ((-1000000001 : Int32), h))))))
def fX0_notZero_b25 (h : e_H) (k4 : Nat → Int32 → Int32 → Option Int32) (l0 : Nat) (l1 : Int32) (l2 : Int32) : Option Int32 :=
  k4 l0 l1 (l2 + (nI 1))
def fX0_notZero_b4 (h : e_H) (k4 : Nat → Int32 → Int32 → Option Int32) (l0 : Nat) (l1 : Int32) (l2 : Int32) : Option Int32 :=
  (o_getR h l0 0 1).bind fun v1 => e_on v1 (none) (fun a2 => (o_len h a2 0).bind fun v3 => if v3 ≤ l2 then (some l1) else ((o_getR h l0 0 1).bind fun v4 => e_on v4 (none) (fun a5 => (o_ldI h a5 0 l2).bind fun v6 => if v6 = 0 then (fX0_notZero_b25 h k4 l0 l1 l2) else (fX0_notZero_b25 h k4 l0 (l1 + (nI 1)) l2))))
def fX0_notZero_L4 (h : e_H) : Nat → Nat → Int32 → Int32 → Option Int32
  | 0 => fun _ _ _ => none
  | n + 1 => fX0_notZero_b4 h (fX0_notZero_L4 h n)
def fX0_notZero (l0 : Nat) (h : e_H) : Option Int32 :=
  (o_obj h l0 0).bind fun _ => fX0_notZero_L4 h 200 l0 (nI 0) (nI 0)
def fX0_worth (l0 : Nat) (h : e_H) : Option Int32 :=
  (o_obj h l0 0).bind fun _ => (o_getI h l0 0 0).bind fun v1 => if v1 = nI 1 then ((fX0_notZero l0 h).bind fun v2 => (fX0_number l0 (nI 1) (nI 0) h).bind fun v3 => some (v2 + v3)) else (if v1 = nI 2 then ((fX0_notZero l0 h).bind fun v4 => some ((nI 2) * v4)) else (if v1 = nI 3 then ((fX0_notZero l0 h).bind fun v5 => (fX0_number l0 (nI 1) (nI 0) h).bind fun v6 => some (-(v5 + v6))) else (if v1 = nI 4 then ((fX0_notZero l0 h).bind fun v7 => some (((nI 2) * v7) + (nI 1))) else (if v1 = nI 5 then ((fX0_number l0 (nI 0) (nI 0) h).bind fun v8 => some v8) else ((fX0_notZero l0 h).bind fun v9 => some v9)))))
def fX6_setTerm (l0 : Nat) (l1 : Int32) (l2 : Int32) (h : e_H) : Option e_H :=
  (o_obj h l0 6).bind fun _ => if l1 < 0 then (some h) else ((o_getR h l0 6 4).bind fun v1 => e_on v1 (none) (fun a2 => (o_len h a2 0).bind fun v3 => if v3 ≤ l1 then (some h) else ((o_getR h l0 6 4).bind fun v4 => e_on v4 (none) (fun a5 => (o_stI h a5 0 l1 l2).bind fun h7 => some h7))))
def fX6_look_b9 (k2 : Nat → Nat → Int32 → e_H → Option e_H) (k9 : Nat → Nat → Int32 → Int32 → e_H → Option e_H) (l0 : Nat) (l1 : Nat) (l2 : Int32) (l3 : Int32) (h : e_H) : Option e_H :=
  if ((nI 4) - l2) < l3 then (k2 l0 l1 (l2 + (nI 1)) h) else ((fX8_indexOf l2 l3).bind fun v1 => (o_getR h l0 6 3).bind fun v2 => e_on v2 (none) (fun a3 => (fX7_termAt a3 l1 l2 l3 h).bind fun p4 => (fX6_setTerm l0 v1 p4.1 p4.2).bind fun h5 => k9 l0 l1 l2 (l3 + (nI 1)) h5))
def fX6_look_L9 (k2 : Nat → Nat → Int32 → e_H → Option e_H) : Nat → Nat → Nat → Int32 → Int32 → e_H → Option e_H
  | 0 => fun _ _ _ _ _ => none
  | n + 1 => fX6_look_b9 k2 (fX6_look_L9 k2 n)
def fX6_look_b2 (k2 : Nat → Nat → Int32 → e_H → Option e_H) (l0 : Nat) (l1 : Nat) (l2 : Int32) (h : e_H) : Option e_H :=
  if (nI 4) < l2 then (some h) else (fX6_look_L9 k2 200 l0 l1 l2 (nI 0) h)
def fX6_look_L2 : Nat → Nat → Nat → Int32 → e_H → Option e_H
  | 0 => fun _ _ _ _ => none
  | n + 1 => fX6_look_b2 (fX6_look_L2 n)
def fX6_look (l0 : Nat) (l1 : Nat) (h : e_H) : Option e_H :=
  (o_obj h l0 6).bind fun _ => fX6_look_L2 200 l0 l1 (nI 0) h
def fX6_termOf (l0 : Nat) (l1 : Int32) (l2 : Int32) (h : e_H) : Option Int32 :=
  (o_obj h l0 6).bind fun _ => (fX8_indexOf l1 l2).bind fun v1 => if v1 < 0 then (some (nI 0)) else ((o_getR h l0 6 4).bind fun v2 => e_on v2 (none) (fun a3 => (o_len h a3 0).bind fun v4 => if v1 < v4 then ((o_getR h l0 6 4).bind fun v5 => e_on v5 (none) (fun a6 => (o_ldI h a6 0 v1).bind fun v7 => some v7)) else (some (nI 0))))
def fX6_degree_b35 (h : e_H) (k4 : Nat → Int32 → Int32 → Option Int32) (k11 : Nat → Int32 → Int32 → Int32 → Option Int32) (l0 : Nat) (l1 : Int32) (l2 : Int32) (l3 : Int32) : Option Int32 :=
  k11 l0 l1 l2 (l3 + (nI 1))
def fX6_degree_b11 (h : e_H) (k4 : Nat → Int32 → Int32 → Option Int32) (k11 : Nat → Int32 → Int32 → Int32 → Option Int32) (l0 : Nat) (l1 : Int32) (l2 : Int32) (l3 : Int32) : Option Int32 :=
  if ((nI 4) - l2) < l3 then (k4 l0 l1 (l2 + (nI 1))) else ((fX6_termOf l0 l2 l3 h).bind fun v1 => if v1 = 0 then (fX6_degree_b35 h k4 k11 l0 l1 l2 l3) else (fX6_degree_b35 h k4 k11 l0 (if l1 < (l2 + l3) then (l2 + l3) else l1) l2 l3))
def fX6_degree_L11 (h : e_H) (k4 : Nat → Int32 → Int32 → Option Int32) : Nat → Nat → Int32 → Int32 → Int32 → Option Int32
  | 0 => fun _ _ _ _ => none
  | n + 1 => fX6_degree_b11 h k4 (fX6_degree_L11 h k4 n)
def fX6_degree_b4 (h : e_H) (k4 : Nat → Int32 → Int32 → Option Int32) (l0 : Nat) (l1 : Int32) (l2 : Int32) : Option Int32 :=
  if (nI 4) < l2 then (some l1) else (fX6_degree_L11 h k4 200 l0 l1 l2 (nI 0))
def fX6_degree_L4 (h : e_H) : Nat → Nat → Int32 → Int32 → Option Int32
  | 0 => fun _ _ _ => none
  | n + 1 => fX6_degree_b4 h (fX6_degree_L4 h n)
def fX6_degree (l0 : Nat) (h : e_H) : Option Int32 :=
  (o_obj h l0 6).bind fun _ => fX6_degree_L4 h 200 l0 (-1 : Int32) (nI 0)
def fX6_termsNotZero_b25 (h : e_H) (k4 : Nat → Int32 → Int32 → Option Int32) (l0 : Nat) (l1 : Int32) (l2 : Int32) : Option Int32 :=
  k4 l0 l1 (l2 + (nI 1))
def fX6_termsNotZero_b4 (h : e_H) (k4 : Nat → Int32 → Int32 → Option Int32) (l0 : Nat) (l1 : Int32) (l2 : Int32) : Option Int32 :=
  (o_getR h l0 6 4).bind fun v1 => e_on v1 (none) (fun a2 => (o_len h a2 0).bind fun v3 => if v3 ≤ l2 then (some l1) else ((o_getR h l0 6 4).bind fun v4 => e_on v4 (none) (fun a5 => (o_ldI h a5 0 l2).bind fun v6 => if v6 = 0 then (fX6_termsNotZero_b25 h k4 l0 l1 l2) else (fX6_termsNotZero_b25 h k4 l0 (l1 + (nI 1)) l2))))
def fX6_termsNotZero_L4 (h : e_H) : Nat → Nat → Int32 → Int32 → Option Int32
  | 0 => fun _ _ _ => none
  | n + 1 => fX6_termsNotZero_b4 h (fX6_termsNotZero_L4 h n)
def fX6_termsNotZero (l0 : Nat) (h : e_H) : Option Int32 :=
  (o_obj h l0 6).bind fun _ => fX6_termsNotZero_L4 h 200 l0 (nI 0) (nI 0)
def fX8_told (l0 : Nat) (l1 : Int32) (l2 : Int32) (h : e_H) : Option (Int32 × e_H) :=
  (o_obj h l0 8).bind fun _ => (o_getR h l0 8 0).bind fun v1 => e_on v1 (none) (fun a2 => (fX7_curveOf a2 l1 h).bind fun v3 => e_on v3 (some ((-1000000001 : Int32), h)) (fun a4 => if l2 < 0 then (some ((-1000000001 : Int32), h)) else (if l2 ≤ (nI 3) then (if l2 = 0 then ((o_getI h a4 0 0).bind fun v5 => some (v5, h)) else (if l2 = (nI 2) then ((fX0_worth a4 h).bind fun v6 => some (v6, h)) else ((o_getR h l0 8 2).bind fun v7 => e_on v7 (none) (fun a8 => (fX6_look a8 a4 h).bind fun h9 => if l2 = (nI 1) then ((o_getR h9 l0 8 2).bind fun v10 => e_on v10 (none) (fun a11 => (fX6_degree a11 h9).bind fun v12 => some (v12, h9))) else ((o_getR h9 l0 8 2).bind fun v13 => e_on v13 (none) (fun a14 => (fX6_termsNotZero a14 h9).bind fun v15 => some (v15, h9))))))) else (some ((-1000000001 : Int32), h)))))
def fX8_as (l0 : Nat) (l1 : Int32) (l2 : Int32) (h : e_H) : Option Int32 :=
  (o_obj h l0 8).bind fun _ => (o_getR h l0 8 0).bind fun v1 => e_on v1 (none) (fun a2 => (fX7_curveOf a2 l1 h).bind fun v3 => e_on v3 (some (-1000000001 : Int32)) (fun a4 => (fX8_isKind l2).bind fun v5 => if (e_b v5) = 0 then (some (-1000000001 : Int32)) else ((fX0_isOf a4 l2 h).bind fun v6 => if (e_b v6) = 0 then (some (-1000000012 : Int32)) else ((fX0_number a4 (nI 0) (nI 0) h).bind fun v7 => some v7))))
def fX8_turns (l0 : Nat) (l1 : Int32) (l2 : Int32) (h : e_H) : Option (Int32 × e_H) :=
  (o_obj h l0 8).bind fun _ => (o_getR h l0 8 0).bind fun v1 => e_on v1 (none) (fun a2 => (fX7_curveOf a2 l1 h).bind fun v3 => e_on v3 (some ((-1000000001 : Int32), h)) (fun a4 => (fX8_isKind l2).bind fun v5 => if (e_b v5) = 0 then (some ((-1000000001 : Int32), h)) else ((o_getI h a4 0 0).bind fun v6 => (o_put h a4 0 0 (.int l2)).bind fun h7 => some (v6, h7))))
def fX8_mix_b74 (k74 : Nat → Nat → Nat → Int32 → Int32 → e_H → Option (Int32 × e_H)) (l5 : Nat) (l6 : Nat) (l7 : Nat) (l8 : Int32) (l9 : Int32) (h : e_H) : Option (Int32 × e_H) :=
  if (nI 15) ≤ l9 then ((fX0_notZero l5 h).bind fun v1 => some (v1, h)) else ((fX0_numberAt l7 l9 h).bind fun v2 => (fX0_numberAt l6 l9 h).bind fun v3 => (fX8_held (v2 + (l8 * v3))).bind fun v4 => (fX0_setNumber l5 l9 v4 h).bind fun h5 => k74 l5 l6 l7 l8 (l9 + (nI 1)) h5)
def fX8_mix_L74 : Nat → Nat → Nat → Nat → Int32 → Int32 → e_H → Option (Int32 × e_H)
  | 0 => fun _ _ _ _ _ _ => none
  | n + 1 => fX8_mix_b74 (fX8_mix_L74 n)
def fX8_mix_b69 (l5 : Nat) (l6 : Nat) (l7 : Nat) (t0 : Int32) (h : e_H) : Option (Int32 × e_H) :=
  fX8_mix_L74 200 l5 l6 l7 t0 (nI 0) h
def fX8_mix (l0 : Nat) (l1 : Int32) (l2 : Int32) (l3 : Int32) (l4 : Int32) (h : e_H) : Option (Int32 × e_H) :=
  (o_obj h l0 8).bind fun _ => (o_getR h l0 8 0).bind fun v1 => e_on v1 (none) (fun a2 => (fX7_curveOf a2 l1 h).bind fun v3 => e_on v3 ((o_getR h l0 8 0).bind fun v5 => e_on v5 (none) (fun a6 => (fX7_curveOf a6 l2 h).bind fun v7 => e_on v7 ((o_getR h l0 8 0).bind fun v9 => e_on v9 (none) (fun a10 => (fX7_curveOf a10 l3 h).bind fun v11 => e_on v11 (some ((-1000000001 : Int32), h)) (fun a12 => some ((-1000000001 : Int32), h)))) (fun a8 => (o_getR h l0 8 0).bind fun v13 => e_on v13 (none) (fun a14 => (fX7_curveOf a14 l3 h).bind fun v15 => e_on v15 (some ((-1000000001 : Int32), h)) (fun a16 => some ((-1000000001 : Int32), h)))))) (fun a4 => (o_getR h l0 8 0).bind fun v17 => e_on v17 (none) (fun a18 => (fX7_curveOf a18 l2 h).bind fun v19 => e_on v19 ((o_getR h l0 8 0).bind fun v21 => e_on v21 (none) (fun a22 => (fX7_curveOf a22 l3 h).bind fun v23 => e_on v23 (some ((-1000000001 : Int32), h)) (fun a24 => some ((-1000000001 : Int32), h)))) (fun a20 => (o_getR h l0 8 0).bind fun v25 => e_on v25 (none) (fun a26 => (fX7_curveOf a26 l3 h).bind fun v27 => e_on v27 (some ((-1000000001 : Int32), h)) (fun a28 => if l4 < 0 then (some ((-1000000001 : Int32), h)) else (if l4 ≤ (nI 1) then (if l4 = 0 then (fX8_mix_b69 a4 a20 a28 (nI 1) h) else (fX8_mix_b69 a4 a20 a28 (-1 : Int32) h)) else (some ((-1000000001 : Int32), h)))))))))
def fX7_drawNumbers_b2 (k2 : Nat → Nat → Int32 → e_H → Option e_H) (l0 : Nat) (l1 : Nat) (l2 : Int32) (h : e_H) : Option e_H :=
  if (nI 15) ≤ l2 then (some h) else ((o_getI h l0 7 2).bind fun v1 => (o_put h l0 7 2 (.int ((v1 * (1103515245 : Int32)) + (nI 12345)))).bind fun h2 => (o_getI h2 l0 7 2).bind fun v3 => (fX0_setNumber l1 l2 ((((v3).toUInt32 >>> (((nI 8)).toUInt32 &&& Int32.toUInt32 31)).toInt32 - ((v3).toUInt32 >>> (((nI 8)).toUInt32 &&& Int32.toUInt32 31)).toInt32 / (nI 7) * (nI 7)) - (nI 3)) h2).bind fun h4 => k2 l0 l1 (l2 + (nI 1)) h4)
def fX7_drawNumbers_L2 : Nat → Nat → Nat → Int32 → e_H → Option e_H
  | 0 => fun _ _ _ _ => none
  | n + 1 => fX7_drawNumbers_b2 (fX7_drawNumbers_L2 n)
def fX7_drawNumbers (l0 : Nat) (l1 : Nat) (h : e_H) : Option e_H :=
  (o_obj h l0 7).bind fun _ => fX7_drawNumbers_L2 200 l0 l1 (nI 0) h
def fX8_deal_b50 (k18 : Nat → Int32 → Int32 → Int32 → e_H → Option (Int32 × e_H)) (l0 : Nat) (l1 : Int32) (l2 : Int32) (l3 : Int32) (h : e_H) : Option (Int32 × e_H) :=
  k18 l0 l1 l2 (l3 + (nI 1)) h
def fX8_deal_b18 (k18 : Nat → Int32 → Int32 → Int32 → e_H → Option (Int32 × e_H)) (l0 : Nat) (l1 : Int32) (l2 : Int32) (l3 : Int32) (h : e_H) : Option (Int32 × e_H) :=
  if l1 ≤ l3 then (some (l2, h)) else ((o_getR h l0 8 0).bind fun v1 => e_on v1 (none) (fun a2 => (fX7_addCurve a2 (nI 0) h).bind fun p3 => e_on p3.1 (fX8_deal_b50 k18 l0 l1 l2 l3 p3.2) (fun a5 => (o_getR p3.2 l0 8 0).bind fun v6 => e_on v6 (none) (fun a7 => (fX7_drawNumbers a7 a5 p3.2).bind fun h8 => fX8_deal_b50 k18 l0 l1 (l2 + (nI 1)) l3 h8))))
def fX8_deal_L18 : Nat → Nat → Int32 → Int32 → Int32 → e_H → Option (Int32 × e_H)
  | 0 => fun _ _ _ _ _ => none
  | n + 1 => fX8_deal_b18 (fX8_deal_L18 n)
def fX8_deal (l0 : Nat) (l1 : Int32) (h : e_H) : Option (Int32 × e_H) :=
  (o_obj h l0 8).bind fun _ => if l1 < (nI 1) then (some ((-1000000001 : Int32), h)) else (if l1 ≤ (nI 6) then (fX8_deal_L18 200 l0 l1 (nI 0) (nI 0) h) else (some ((-1000000001 : Int32), h)))
def fX8_seed (l0 : Nat) (l1 : Int32) (h : e_H) : Option (Int32 × e_H) :=
  (o_obj h l0 8).bind fun _ => (o_getR h l0 8 0).bind fun v1 => e_on v1 (none) (fun a2 => (o_getI h a2 7 2).bind fun v3 => (o_getR h l0 8 0).bind fun v4 => e_on v4 (none) (fun a5 => (o_put h a5 7 2 (.int l1)).bind fun h6 => some (v3, h6)))
def fX6_valueAt_b19 (h : e_H) (k5 : Nat → Int32 → Int32 → Int64 → Int32 → Option Int64) (k19 : Nat → Int32 → Int32 → Int64 → Int32 → Int64 → Int32 → Option Int64) (l0 : Nat) (l1 : Int32) (l2 : Int32) (l3 : Int64) (l5 : Int32) (l6 : Int64) (l8 : Int32) : Option Int64 :=
  if l8 < 0 then (k5 l0 l1 l2 ((l3 * (l1).toInt64) + l6) (l5 + (-1 : Int32))) else ((fX6_termOf l0 l5 l8 h).bind fun v1 => k19 l0 l1 l2 l3 l5 ((l6 * (l2).toInt64) + (v1).toInt64) (l8 + (-1 : Int32)))
def fX6_valueAt_L19 (h : e_H) (k5 : Nat → Int32 → Int32 → Int64 → Int32 → Option Int64) : Nat → Nat → Int32 → Int32 → Int64 → Int32 → Int64 → Int32 → Option Int64
  | 0 => fun _ _ _ _ _ _ _ => none
  | n + 1 => fX6_valueAt_b19 h k5 (fX6_valueAt_L19 h k5 n)
def fX6_valueAt_b5 (h : e_H) (k5 : Nat → Int32 → Int32 → Int64 → Int32 → Option Int64) (l0 : Nat) (l1 : Int32) (l2 : Int32) (l3 : Int64) (l5 : Int32) : Option Int64 :=
  if l5 < 0 then (some l3) else (fX6_valueAt_L19 h k5 200 l0 l1 l2 l3 l5 (0 : Int64) ((nI 4) - l5))
def fX6_valueAt_L5 (h : e_H) : Nat → Nat → Int32 → Int32 → Int64 → Int32 → Option Int64
  | 0 => fun _ _ _ _ _ => none
  | n + 1 => fX6_valueAt_b5 h (fX6_valueAt_L5 h n)
def fX6_valueAt (l0 : Nat) (l1 : Int32) (l2 : Int32) (h : e_H) : Option Int64 :=
  (o_obj h l0 6).bind fun _ => fX6_valueAt_L5 h 200 l0 l1 l2 (0 : Int64) (nI 4)
def fX8_value (l0 : Nat) (l1 : Int32) (l2 : Int32) (l3 : Int32) (h : e_H) : Option (Int64 × e_H) :=
  (o_obj h l0 8).bind fun _ => (o_getR h l0 8 0).bind fun v1 => e_on v1 (none) (fun a2 => (fX7_curveOf a2 l1 h).bind fun v3 => e_on v3 (some ((-1000000001 : Int64), h)) (fun a4 => if l2 < (-9 : Int32) then (some ((-1000000001 : Int64), h)) else (if (nI 9) < l2 then (some ((-1000000001 : Int64), h)) else (if l3 < (-9 : Int32) then (some ((-1000000001 : Int64), h)) else (if l3 ≤ (nI 9) then ((o_getR h l0 8 2).bind fun v5 => e_on v5 (none) (fun a6 => (fX6_look a6 a4 h).bind fun h7 => (o_getR h7 l0 8 2).bind fun v8 => e_on v8 (none) (fun a9 => (fX6_valueAt a9 l2 l3 h7).bind fun v10 => some (v10, h7)))) else (some ((-1000000001 : Int64), h)))))))
def fJ7_fill_d0a16_b6 (k6 : Nat → Int64 → Int32 → Int32 → e_H → Option e_H) (l0 : Nat) (l1 : Int64) (l3 : Int32) (l4 : Int32) (h : e_H) : Option e_H :=
  if l4 ≤ l3 then (some h) else ((o_stL h l0 1 l3 l1).bind fun h1 => k6 l0 l1 (l3 + (nI 1)) l4 h1)
def fJ7_fill_d0a16_L6 : Nat → Nat → Int64 → Int32 → Int32 → e_H → Option e_H
  | 0 => fun _ _ _ _ _ => none
  | n + 1 => fJ7_fill_d0a16_b6 (fJ7_fill_d0a16_L6 n)
def fJ7_fill_d0a16 (l0 : Nat) (l1 : Int64) (h : e_H) : Option e_H :=
  (o_len h l0 1).bind fun v1 => fJ7_fill_d0a16_L6 200 l0 l1 (nI 0) v1 h
def fX3_clear (l0 : Nat) (h : e_H) : Option e_H :=
  (o_obj h l0 3).bind fun _ => (o_getR h l0 3 0).bind fun v1 => e_on v1 (none) (fun a2 => (fJ7_fill_d0a16 a2 (0 : Int64) h).bind fun h3 => some h3)
def fX3_add_b18 (l0 : Nat) (l3 : Int64) (t0 : Int32) (h : e_H) : Option e_H :=
  if t0 < 0 then (some h) else ((o_getR h l0 3 0).bind fun v1 => e_on v1 (none) (fun a2 => (o_len h a2 1).bind fun v3 => if v3 ≤ t0 then (some h) else ((o_getR h l0 3 0).bind fun v4 => e_on v4 (none) (fun a5 => (o_ldL h a5 1 t0).bind fun v7 => (o_stL h a5 1 t0 (v7 + l3)).bind fun h8 => some h8))))
def fX3_add_b9 (l0 : Nat) (l3 : Int64) (h : e_H) : Option e_H :=
  fX3_add_b18 l0 l3 (-1 : Int32) h
def fX3_add (l0 : Nat) (l1 : Int32) (l2 : Int32) (l3 : Int64) (h : e_H) : Option e_H :=
  (o_obj h l0 3).bind fun _ => if l2 < 0 then (fX3_add_b9 l0 l3 h) else (if l2 ≤ (nI 4) then (fX3_add_b18 l0 l3 ((l1 * (nI 5)) + l2) h) else (fX3_add_b9 l0 l3 h))
def fX3_number_b18 (h : e_H) (l0 : Nat) (t0 : Int32) : Option Int64 :=
  if t0 < 0 then (some (0 : Int64)) else ((o_getR h l0 3 0).bind fun v1 => e_on v1 (none) (fun a2 => (o_len h a2 1).bind fun v3 => if t0 < v3 then ((o_getR h l0 3 0).bind fun v4 => e_on v4 (none) (fun a5 => (o_ldL h a5 1 t0).bind fun v7 => some v7)) else (some (0 : Int64))))
def fX3_number_b9 (h : e_H) (l0 : Nat) : Option Int64 :=
  fX3_number_b18 h l0 (-1 : Int32)
def fX3_number (l0 : Nat) (l1 : Int32) (l2 : Int32) (h : e_H) : Option Int64 :=
  (o_obj h l0 3).bind fun _ => if l2 < 0 then (fX3_number_b9 h l0) else (if l2 ≤ (nI 4) then (fX3_number_b18 h l0 ((l1 * (nI 5)) + l2)) else (fX3_number_b9 h l0))
def fX3_moveX_b17 (k2 : Nat → Int32 → Int32 → e_H → Option e_H) (k9 : Nat → Int32 → Int32 → Int32 → e_H → Option e_H) (k17 : Nat → Int32 → Int32 → Int32 → Int32 → e_H → Option e_H) (l0 : Nat) (l1 : Int32) (l2 : Int32) (l3 : Int32) (l4 : Int32) (h : e_H) : Option e_H :=
  if ((nI 4) - l3) ≤ l4 then (k9 l0 l1 l2 (l3 + (-1 : Int32)) h) else ((fX3_number l0 (l3 + (nI 1)) l4 h).bind fun v1 => (fX3_add l0 l3 l4 ((l1).toInt64 * v1) h).bind fun h2 => k17 l0 l1 l2 l3 (l4 + (nI 1)) h2)
def fX3_moveX_L17 (k2 : Nat → Int32 → Int32 → e_H → Option e_H) (k9 : Nat → Int32 → Int32 → Int32 → e_H → Option e_H) : Nat → Nat → Int32 → Int32 → Int32 → Int32 → e_H → Option e_H
  | 0 => fun _ _ _ _ _ _ => none
  | n + 1 => fX3_moveX_b17 k2 k9 (fX3_moveX_L17 k2 k9 n)
def fX3_moveX_b9 (k2 : Nat → Int32 → Int32 → e_H → Option e_H) (k9 : Nat → Int32 → Int32 → Int32 → e_H → Option e_H) (l0 : Nat) (l1 : Int32) (l2 : Int32) (l3 : Int32) (h : e_H) : Option e_H :=
  if l3 < l2 then (k2 l0 l1 (l2 + (nI 1)) h) else (fX3_moveX_L17 k2 k9 200 l0 l1 l2 l3 (nI 0) h)
def fX3_moveX_L9 (k2 : Nat → Int32 → Int32 → e_H → Option e_H) : Nat → Nat → Int32 → Int32 → Int32 → e_H → Option e_H
  | 0 => fun _ _ _ _ _ => none
  | n + 1 => fX3_moveX_b9 k2 (fX3_moveX_L9 k2 n)
def fX3_moveX_b2 (k2 : Nat → Int32 → Int32 → e_H → Option e_H) (l0 : Nat) (l1 : Int32) (l2 : Int32) (h : e_H) : Option e_H :=
  if (nI 4) ≤ l2 then (some h) else (fX3_moveX_L9 k2 200 l0 l1 l2 (nI 3) h)
def fX3_moveX_L2 : Nat → Nat → Int32 → Int32 → e_H → Option e_H
  | 0 => fun _ _ _ _ => none
  | n + 1 => fX3_moveX_b2 (fX3_moveX_L2 n)
def fX3_moveX (l0 : Nat) (l1 : Int32) (h : e_H) : Option e_H :=
  (o_obj h l0 3).bind fun _ => fX3_moveX_L2 200 l0 l1 (nI 0) h
def fX3_moveY_b19 (k2 : Nat → Int32 → Int32 → Int32 → e_H → Option e_H) (k10 : Nat → Int32 → Int32 → Int32 → Int32 → e_H → Option e_H) (k19 : Nat → Int32 → Int32 → Int32 → Int32 → Int32 → e_H → Option e_H) (l0 : Nat) (l1 : Int32) (l2 : Int32) (l3 : Int32) (l4 : Int32) (l5 : Int32) (h : e_H) : Option e_H :=
  if l2 < l5 then (k10 l0 l1 l2 l3 (l4 + (-1 : Int32)) h) else ((fX3_number l0 l5 (l4 + (nI 1)) h).bind fun v1 => (fX3_add l0 l5 l4 ((l1).toInt64 * v1) h).bind fun h2 => k19 l0 l1 l2 l3 l4 (l5 + (nI 1)) h2)
def fX3_moveY_L19 (k2 : Nat → Int32 → Int32 → Int32 → e_H → Option e_H) (k10 : Nat → Int32 → Int32 → Int32 → Int32 → e_H → Option e_H) : Nat → Nat → Int32 → Int32 → Int32 → Int32 → Int32 → e_H → Option e_H
  | 0 => fun _ _ _ _ _ _ _ => none
  | n + 1 => fX3_moveY_b19 k2 k10 (fX3_moveY_L19 k2 k10 n)
def fX3_moveY_b10 (k2 : Nat → Int32 → Int32 → Int32 → e_H → Option e_H) (k10 : Nat → Int32 → Int32 → Int32 → Int32 → e_H → Option e_H) (l0 : Nat) (l1 : Int32) (l2 : Int32) (l3 : Int32) (l4 : Int32) (h : e_H) : Option e_H :=
  if l4 < l3 then (k2 l0 l1 l2 (l3 + (nI 1)) h) else (fX3_moveY_L19 k2 k10 200 l0 l1 l2 l3 l4 (nI 0) h)
def fX3_moveY_L10 (k2 : Nat → Int32 → Int32 → Int32 → e_H → Option e_H) : Nat → Nat → Int32 → Int32 → Int32 → Int32 → e_H → Option e_H
  | 0 => fun _ _ _ _ _ _ => none
  | n + 1 => fX3_moveY_b10 k2 (fX3_moveY_L10 k2 n)
def fX3_moveY_b2 (k2 : Nat → Int32 → Int32 → Int32 → e_H → Option e_H) (l0 : Nat) (l1 : Int32) (l2 : Int32) (l3 : Int32) (h : e_H) : Option e_H :=
  if (nI 4) ≤ l3 then (some h) else (fX3_moveY_L10 k2 200 l0 l1 l2 l3 (nI 3) h)
def fX3_moveY_L2 : Nat → Nat → Int32 → Int32 → Int32 → e_H → Option e_H
  | 0 => fun _ _ _ _ _ => none
  | n + 1 => fX3_moveY_b2 (fX3_moveY_L2 n)
def fX3_moveY (l0 : Nat) (l1 : Int32) (l2 : Int32) (h : e_H) : Option e_H :=
  (o_obj h l0 3).bind fun _ => fX3_moveY_L2 200 l0 l1 l2 (nI 0) h
def fX6_stand_b23 (k14 : Nat → Int32 → Int32 → Nat → Int32 → e_H → Option (Option Nat × e_H)) (k23 : Nat → Int32 → Int32 → Nat → Int32 → Int32 → e_H → Option (Option Nat × e_H)) (l0 : Nat) (l1 : Int32) (l2 : Int32) (l3 : Nat) (l4 : Int32) (l5 : Int32) (h : e_H) : Option (Option Nat × e_H) :=
  if ((nI 4) - l4) < l5 then (k14 l0 l1 l2 l3 (l4 + (nI 1)) h) else ((fX6_termOf l0 l4 l5 h).bind fun v1 => (fX3_add l3 l4 l5 (v1).toInt64 h).bind fun h2 => k23 l0 l1 l2 l3 l4 (l5 + (nI 1)) h2)
def fX6_stand_L23 (k14 : Nat → Int32 → Int32 → Nat → Int32 → e_H → Option (Option Nat × e_H)) : Nat → Nat → Int32 → Int32 → Nat → Int32 → Int32 → e_H → Option (Option Nat × e_H)
  | 0 => fun _ _ _ _ _ _ _ => none
  | n + 1 => fX6_stand_b23 k14 (fX6_stand_L23 k14 n)
def fX6_stand_b14 (k14 : Nat → Int32 → Int32 → Nat → Int32 → e_H → Option (Option Nat × e_H)) (l0 : Nat) (l1 : Int32) (l2 : Int32) (l3 : Nat) (l4 : Int32) (h : e_H) : Option (Option Nat × e_H) :=
  if (nI 4) < l4 then ((fX3_moveX l3 l1 h).bind fun h1 => (fX3_moveY l3 l2 (nI 4) h1).bind fun h2 => some ((some l3), h2)) else (fX6_stand_L23 k14 200 l0 l1 l2 l3 l4 (nI 0) h)
def fX6_stand_L14 : Nat → Nat → Int32 → Int32 → Nat → Int32 → e_H → Option (Option Nat × e_H)
  | 0 => fun _ _ _ _ _ _ => none
  | n + 1 => fX6_stand_b14 (fX6_stand_L14 n)
def fX6_stand (l0 : Nat) (l1 : Int32) (l2 : Int32) (h : e_H) : Option (Option Nat × e_H) :=
  (o_obj h l0 6).bind fun _ => (o_getR h l0 6 7).bind fun v1 => e_on v1 (none) (fun a2 => (o_ldR h a2 8 (nI 0)).bind fun v4 => e_on v4 (none) (fun a5 => (fX3_clear a5 h).bind fun h6 => fX6_stand_L14 200 l0 l1 l2 a5 (nI 0) h6))
def fX8_shapeAt (l0 : Nat) (l1 : Int32) (l2 : Int32) (h : e_H) : Option (Option Nat × e_H) :=
  (o_obj h l0 8).bind fun _ => (o_getR h l0 8 0).bind fun v1 => e_on v1 (none) (fun a2 => (fX7_curveOf a2 l1 h).bind fun v3 => e_on v3 (some (none, h)) (fun a4 => if l2 < 0 then (some (none, h)) else (if (nI 11) ≤ (l2 / (nI 100)) then (some (none, h)) else (if (l2 - l2 / (nI 100) * (nI 100)) < (nI 11) then ((o_getR h l0 8 2).bind fun v5 => e_on v5 (none) (fun a6 => (fX6_look a6 a4 h).bind fun h7 => (o_getR h7 l0 8 2).bind fun v8 => e_on v8 (none) (fun a9 => (fX6_stand a9 ((l2 / (nI 100)) - (nI 5)) ((l2 - l2 / (nI 100) * (nI 100)) - (nI 5)) h7).bind fun p10 => e_on p10.1 (some (none, p10.2)) (fun a12 => some ((some a12), p10.2))))) else (some (none, h))))))
def fX3_least_b10 (h : e_H) (k2 : Nat → Int32 → Option Int32) (k10 : Nat → Int32 → Int32 → Option Int32) (l0 : Nat) (l1 : Int32) (l2 : Int32) : Option Int32 :=
  if (nI 4) < l2 then (k2 l0 (l1 + (nI 1))) else ((fX3_number l0 (l1 - l2) l2 h).bind fun v1 => if (lg_cmp v1 (0 : Int64)) = 0 then (k10 l0 l1 (l2 + (nI 1))) else (some l1))
def fX3_least_L10 (h : e_H) (k2 : Nat → Int32 → Option Int32) : Nat → Nat → Int32 → Int32 → Option Int32
  | 0 => fun _ _ _ => none
  | n + 1 => fX3_least_b10 h k2 (fX3_least_L10 h k2 n)
def fX3_least_b2 (h : e_H) (k2 : Nat → Int32 → Option Int32) (l0 : Nat) (l1 : Int32) : Option Int32 :=
  if (nI 16) < l1 then (some (nI 17)) else (fX3_least_L10 h k2 200 l0 l1 (nI 0))
def fX3_least_L2 (h : e_H) : Nat → Nat → Int32 → Option Int32
  | 0 => fun _ _ => none
  | n + 1 => fX3_least_b2 h (fX3_least_L2 h n)
def fX3_least (l0 : Nat) (h : e_H) : Option Int32 :=
  (o_obj h l0 3).bind fun _ => fX3_least_L2 h 200 l0 (nI 0)
def fX8_times (l0 : Nat) (l1 : Int32) (l2 : Int32) (h : e_H) : Option (Int32 × e_H) :=
  (o_obj h l0 8).bind fun _ => (fX8_shapeAt l0 l1 l2 h).bind fun p1 => e_on p1.1 (some ((-1000000001 : Int32), p1.2)) (fun a3 => (fX3_least a3 p1.2).bind fun v4 => some (v4, p1.2))
def fX3_has (l0 : Int32) (l1 : Int32) : Option Bool :=
  if l0 < 0 then (some false) else (if (nI 16) < l0 then (some false) else (if l1 < 0 then (some false) else (if (nI 4) < l1 then (some false) else (some true))))
def fX8_shape (l0 : Nat) (l1 : Int32) (l2 : Int32) (l3 : Int32) (h : e_H) : Option (Int64 × e_H) :=
  (o_obj h l0 8).bind fun _ => (fX8_shapeAt l0 l1 l2 h).bind fun p1 => e_on p1.1 (some ((-1000000001 : Int64), p1.2)) (fun a3 => (fX3_has (l3 / (nI 10)) (l3 - l3 / (nI 10) * (nI 10))).bind fun v4 => if (e_b v4) = 0 then (some ((-1000000001 : Int64), p1.2)) else ((fX3_number a3 (l3 / (nI 10)) (l3 - l3 / (nI 10) * (nI 10)) p1.2).bind fun v5 => some (v5, p1.2)))
def fX3_branches (l0 : Int32) : Option Bool :=
  if l0 < (nI 1) then (some false) else (if (nI 16) < l0 then (some false) else (some true))
def fX3_lowestOf (l0 : Nat) (l1 : Int32) (l2 : Int32) (h : e_H) : Option Int64 :=
  (o_obj h l0 3).bind fun _ => (fX3_number l0 (l1 - l2) l2 h).bind fun v1 => some v1
def fX8_lowest (l0 : Nat) (l1 : Int32) (l2 : Int32) (l3 : Int32) (h : e_H) : Option (Int64 × e_H) :=
  (o_obj h l0 8).bind fun _ => (fX8_shapeAt l0 l1 l2 h).bind fun p1 => e_on p1.1 (some ((-1000000001 : Int64), p1.2)) (fun a3 => if l3 < 0 then (some ((-1000000001 : Int64), p1.2)) else (if l3 ≤ (nI 4) then ((fX3_least a3 p1.2).bind fun v4 => (fX3_branches v4).bind fun v5 => if (e_b v5) = 0 then (some ((-1000000002 : Int64), p1.2)) else ((fX3_lowestOf a3 v4 l3 p1.2).bind fun v6 => some (v6, p1.2))) else (some ((-1000000001 : Int64), p1.2))))
def fX3_sumOnLine_b5 (h : e_H) (k5 : Nat → Int32 → Int32 → Int64 → Int32 → Option Int64) (l0 : Nat) (l1 : Int32) (l2 : Int32) (l3 : Int64) (l5 : Int32) : Option Int64 :=
  if l5 < 0 then (some l3) else ((fX3_number l0 (l1 - l5) l5 h).bind fun v1 => k5 l0 l1 l2 ((l3 * (l2).toInt64) + v1) (l5 + (-1 : Int32)))
def fX3_sumOnLine_L5 (h : e_H) : Nat → Nat → Int32 → Int32 → Int64 → Int32 → Option Int64
  | 0 => fun _ _ _ _ _ => none
  | n + 1 => fX3_sumOnLine_b5 h (fX3_sumOnLine_L5 h n)
def fX3_sumOnLine (l0 : Nat) (l1 : Int32) (l2 : Int32) (h : e_H) : Option Int64 :=
  (o_obj h l0 3).bind fun _ => fX3_sumOnLine_L5 h 200 l0 l1 l2 (0 : Int64) (nI 4)
def fX6_slopeBits_b49 (k6 : Nat → Nat → Int32 → Int32 → Int32 → e_H → Option (Int32 × e_H)) (l0 : Nat) (l1 : Nat) (l2 : Int32) (l3 : Int32) (l4 : Int32) (h : e_H) : Option (Int32 × e_H) :=
  k6 l0 l1 l2 l3 (l4 + (nI 1)) h
def fX6_slopeBits_b6 (k6 : Nat → Nat → Int32 → Int32 → Int32 → e_H → Option (Int32 × e_H)) (l0 : Nat) (l1 : Nat) (l2 : Int32) (l3 : Int32) (l4 : Int32) (h : e_H) : Option (Int32 × e_H) :=
  if (nI 5) < l4 then (some (l3, h)) else ((fX3_sumOnLine l1 l2 l4 h).bind fun v1 => if (lg_cmp v1 (0 : Int64)) = 0 then ((o_getR h l0 6 3).bind fun v2 => e_on v2 (none) (fun a3 => (fX7_lawGives a3 (nI 1) l4 l2 (nI 0) (nI 1) h).bind fun p4 => if p4.1 = 0 then (fX6_slopeBits_b49 k6 l0 l1 l2 l3 l4 p4.2) else (fX6_slopeBits_b49 k6 l0 l1 l2 (l3 ||| ((nI 1) <<< ((l4 + (nI 5)) &&& 31))) l4 p4.2))) else (fX6_slopeBits_b49 k6 l0 l1 l2 l3 l4 h))
def fX6_slopeBits_L6 : Nat → Nat → Nat → Int32 → Int32 → Int32 → e_H → Option (Int32 × e_H)
  | 0 => fun _ _ _ _ _ _ => none
  | n + 1 => fX6_slopeBits_b6 (fX6_slopeBits_L6 n)
def fX6_slopeBits (l0 : Nat) (l1 : Nat) (l2 : Int32) (h : e_H) : Option (Int32 × e_H) :=
  (o_obj h l0 6).bind fun _ => fX6_slopeBits_L6 200 l0 l1 l2 (nI 0) (-5 : Int32) h
def fX8_slopes (l0 : Nat) (l1 : Int32) (l2 : Int32) (h : e_H) : Option (Int32 × e_H) :=
  (o_obj h l0 8).bind fun _ => (fX8_shapeAt l0 l1 l2 h).bind fun p1 => e_on p1.1 (some ((-1000000001 : Int32), p1.2)) (fun a3 => (fX3_least a3 p1.2).bind fun v4 => (fX3_branches v4).bind fun v5 => if (e_b v5) = 0 then (some ((-1000000002 : Int32), p1.2)) else ((o_getR p1.2 l0 8 2).bind fun v6 => e_on v6 (none) (fun a7 => (fX6_slopeBits a7 a3 v4 p1.2).bind fun p8 => some (p8.1, p8.2))))
def fX8_isSlope (l0 : Int32) : Option Bool :=
  if l0 < (-5 : Int32) then (some false) else (if (nI 5) < l0 then (some false) else (some true))
def fX6_partBy_b55 (k55 : Nat → Int32 → Int64 → Int32 → e_H → Option (Bool × e_H)) (l0 : Nat) (l1 : Int32) (l4 : Int64) (l6 : Int32) (h : e_H) : Option (Bool × e_H) :=
  if l6 < 0 then (some (true, h)) else ((o_getR h l0 6 8).bind fun v1 => e_on v1 (none) (fun a2 => (o_ldL h a2 1 l6).bind fun v4 => (o_getR h l0 6 8).bind fun v5 => e_on v5 (none) (fun a6 => (o_stL h a6 1 l6 l4).bind fun h8 => k55 l0 l1 ((l4 * (l1).toInt64) + v4) (l6 + (-1 : Int32)) h8)))
def fX6_partBy_L55 : Nat → Nat → Int32 → Int64 → Int32 → e_H → Option (Bool × e_H)
  | 0 => fun _ _ _ _ _ => none
  | n + 1 => fX6_partBy_b55 (fX6_partBy_L55 n)
def fX6_partBy_b11 (k11 : Nat → Int32 → Int64 → Int32 → e_H → Option (Bool × e_H)) (l0 : Nat) (l1 : Int32) (l2 : Int64) (l4 : Int32) (h : e_H) : Option (Bool × e_H) :=
  if l4 < 0 then (if (lg_cmp l2 (0 : Int64)) = 0 then ((o_getR h l0 6 8).bind fun v1 => e_on v1 (none) (fun a2 => (o_len h a2 1).bind fun v3 => fX6_partBy_L55 200 l0 l1 (0 : Int64) (v3 - (nI 1)) h)) else (some (false, h))) else ((o_getR h l0 6 8).bind fun v4 => e_on v4 (none) (fun a5 => (o_ldL h a5 1 l4).bind fun v7 => k11 l0 l1 ((l2 * (l1).toInt64) + v7) (l4 + (-1 : Int32)) h))
def fX6_partBy_L11 : Nat → Nat → Int32 → Int64 → Int32 → e_H → Option (Bool × e_H)
  | 0 => fun _ _ _ _ _ => none
  | n + 1 => fX6_partBy_b11 (fX6_partBy_L11 n)
def fX6_partBy (l0 : Nat) (l1 : Int32) (h : e_H) : Option (Bool × e_H) :=
  (o_obj h l0 6).bind fun _ => (o_getR h l0 6 8).bind fun v1 => e_on v1 (none) (fun a2 => (o_len h a2 1).bind fun v3 => fX6_partBy_L11 200 l0 l1 (0 : Int64) (v3 - (nI 1)) h)
def fX6_oftenOf_b39 (k39 : Nat → Int32 → Int32 → Int32 → e_H → Option (Int32 × e_H)) (l0 : Nat) (l3 : Int32) (l4 : Int32) (l5 : Int32) (h : e_H) : Option (Int32 × e_H) :=
  if (nI 4) ≤ l5 then (some (l4, h)) else ((fX6_partBy l0 l3 h).bind fun p1 => if (e_b p1.1) = 0 then (some (l4, p1.2)) else (k39 l0 l3 (l4 + (nI 1)) (l5 + (nI 1)) p1.2))
def fX6_oftenOf_L39 : Nat → Nat → Int32 → Int32 → Int32 → e_H → Option (Int32 × e_H)
  | 0 => fun _ _ _ _ _ => none
  | n + 1 => fX6_oftenOf_b39 (fX6_oftenOf_L39 n)
def fX6_oftenOf_b3 (k3 : Nat → Nat → Int32 → Int32 → Int32 → e_H → Option (Int32 × e_H)) (l0 : Nat) (l1 : Nat) (l2 : Int32) (l3 : Int32) (l4 : Int32) (h : e_H) : Option (Int32 × e_H) :=
  (o_getR h l0 6 8).bind fun v1 => e_on v1 (none) (fun a2 => (o_len h a2 1).bind fun v3 => if v3 ≤ l4 then (fX6_oftenOf_L39 200 l0 l3 (nI 0) (nI 0) h) else ((o_getR h l0 6 8).bind fun v4 => e_on v4 ((fX3_lowestOf l1 l2 l4 h).bind fun v6 => none) (fun a5 => (fX3_lowestOf l1 l2 l4 h).bind fun v8 => (o_stL h a5 1 l4 v8).bind fun h9 => k3 l0 l1 l2 l3 (l4 + (nI 1)) h9)))
def fX6_oftenOf_L3 : Nat → Nat → Nat → Int32 → Int32 → Int32 → e_H → Option (Int32 × e_H)
  | 0 => fun _ _ _ _ _ _ => none
  | n + 1 => fX6_oftenOf_b3 (fX6_oftenOf_L3 n)
def fX6_oftenOf (l0 : Nat) (l1 : Nat) (l2 : Int32) (l3 : Int32) (h : e_H) : Option (Int32 × e_H) :=
  (o_obj h l0 6).bind fun _ => fX6_oftenOf_L3 200 l0 l1 l2 l3 (nI 0) h
def fX8_often (l0 : Nat) (l1 : Int32) (l2 : Int32) (l3 : Int32) (h : e_H) : Option (Int32 × e_H) :=
  (o_obj h l0 8).bind fun _ => (fX8_shapeAt l0 l1 l2 h).bind fun p1 => e_on p1.1 (some ((-1000000001 : Int32), p1.2)) (fun a3 => (fX8_isSlope l3).bind fun v4 => if (e_b v4) = 0 then (some ((-1000000001 : Int32), p1.2)) else ((fX3_least a3 p1.2).bind fun v5 => (fX3_branches v5).bind fun v6 => if (e_b v6) = 0 then (some ((-1000000002 : Int32), p1.2)) else ((o_getR p1.2 l0 8 2).bind fun v7 => e_on v7 (none) (fun a8 => (fX6_oftenOf a8 a3 v5 l3 p1.2).bind fun p9 => some (p9.1, p9.2)))))
def fX3_blowInto_b17 (k7 : Nat → Nat → Int32 → Int32 → Int32 → e_H → Option e_H) (k17 : Nat → Nat → Int32 → Int32 → Int32 → Int32 → e_H → Option e_H) (l0 : Nat) (l1 : Nat) (l2 : Int32) (l3 : Int32) (l4 : Int32) (l5 : Int32) (h : e_H) : Option e_H :=
  if (nI 4) < l5 then (k7 l0 l1 l2 l3 (l4 + (nI 1)) h) else ((fX3_number l0 l4 l5 h).bind fun v1 => (fX3_add l1 ((l4 + l5) - l3) l5 v1 h).bind fun h2 => k17 l0 l1 l2 l3 l4 (l5 + (nI 1)) h2)
def fX3_LlowInto_L17 (k7 : Nat → Nat → Int32 → Int32 → Int32 → e_H → Option e_H) : Nat → Nat → Nat → Int32 → Int32 → Int32 → Int32 → e_H → Option e_H
  | 0 => fun _ _ _ _ _ _ _ => none
  | n + 1 => fX3_blowInto_b17 k7 (fX3_LlowInto_L17 k7 n)
def fX3_blowInto_b7 (k7 : Nat → Nat → Int32 → Int32 → Int32 → e_H → Option e_H) (l0 : Nat) (l1 : Nat) (l2 : Int32) (l3 : Int32) (l4 : Int32) (h : e_H) : Option e_H :=
  if (nI 16) < l4 then ((fX3_moveY l1 l2 (nI 16) h).bind fun h1 => some h1) else (fX3_LlowInto_L17 k7 200 l0 l1 l2 l3 l4 (nI 0) h)
def fX3_LlowInto_L7 : Nat → Nat → Nat → Int32 → Int32 → Int32 → e_H → Option e_H
  | 0 => fun _ _ _ _ _ _ => none
  | n + 1 => fX3_blowInto_b7 (fX3_LlowInto_L7 n)
def fX3_blowInto (l0 : Nat) (l1 : Nat) (l2 : Int32) (l3 : Int32) (h : e_H) : Option e_H :=
  (o_obj h l0 3).bind fun _ => (fX3_clear l1 h).bind fun h1 => fX3_LlowInto_L7 200 l0 l1 l2 l3 (nI 0) h1
def fX6_blow (l0 : Nat) (l1 : Int32) (l2 : Int32) (h : e_H) : Option (Option Nat × e_H) :=
  (o_obj h l0 6).bind fun _ => if l1 < (nI 1) then (some (none, h)) else ((o_getR h l0 6 7).bind fun v1 => e_on v1 (none) (fun a2 => (o_len h a2 8).bind fun v3 => if l1 < v3 then ((o_getR h l0 6 7).bind fun v4 => e_on v4 (none) (fun a5 => (o_ldR h a5 8 (l1 - (nI 1))).bind fun v7 => e_on v7 (none) (fun a8 => (fX3_least a8 h).bind fun v9 => (fX3_branches v9).bind fun v10 => if (e_b v10) = 0 then (some (none, h)) else ((o_getR h l0 6 7).bind fun v11 => e_on v11 (none) (fun a12 => (o_ldR h a12 8 l1).bind fun v14 => e_on v14 (none) (fun a15 => (fX3_blowInto a8 a15 l2 v9 h).bind fun h16 => (o_getR h16 l0 6 7).bind fun v17 => e_on v17 (none) (fun a18 => (o_ldR h16 a18 8 l1).bind fun v20 => e_on v20 (some (none, h16)) (fun a21 => some ((some a21), h16))))))))) else (some (none, h))))
def fX8_blown_b73 (h : e_H) : Option (Int32 × e_H) :=
  some ((-1000000002 : Int32), h)
def fX8_blown_b73x1 (l6 : Nat) (h : e_H) : Option (Int32 × e_H) :=
  (fX3_least l6 h).bind fun v1 => some (v1, h)
def fX8_blown_b38 (l0 : Nat) (l3 : Int32) (l4 : Int32) (h : e_H) : Option (Int32 × e_H) :=
  (o_getR h l0 8 2).bind fun v1 => e_on v1 (none) (fun a2 => (fX6_blow a2 (nI 1) l3 h).bind fun p3 => e_on p3.1 (fX8_blown_b73 p3.2) (fun a5 => if l4 = (nI 6) then (fX8_blown_b73x1 a5 p3.2) else ((o_getR p3.2 l0 8 2).bind fun v6 => e_on v6 (none) (fun a7 => (fX6_blow a7 (nI 2) l4 p3.2).bind fun p8 => e_on p8.1 (fX8_blown_b73 p8.2) (fun a10 => fX8_blown_b73x1 a10 p8.2)))))
def fX8_blown (l0 : Nat) (l1 : Int32) (l2 : Int32) (l3 : Int32) (l4 : Int32) (h : e_H) : Option (Int32 × e_H) :=
  (o_obj h l0 8).bind fun _ => (fX8_shapeAt l0 l1 l2 h).bind fun p1 => e_on p1.1 (some ((-1000000001 : Int32), p1.2)) (fun a3 => (fX8_isSlope l3).bind fun v4 => if (e_b v4) = 0 then (some ((-1000000001 : Int32), p1.2)) else (if l4 = (nI 6) then (fX8_blown_b38 l0 l3 l4 p1.2) else ((fX8_isSlope l4).bind fun v5 => if (e_b v5) = 0 then (some ((-1000000001 : Int32), p1.2)) else (fX8_blown_b38 l0 l3 l4 p1.2))))
def fX6_clearTree (l0 : Nat) (h : e_H) : Option e_H :=
  (o_obj h l0 6).bind fun _ => (o_put h l0 6 0 (.int (nI 0))).bind fun h1 => (o_put h1 l0 6 1 (.int (nI 0))).bind fun h2 => (o_put h2 l0 6 2 (.int (nI 0))).bind fun h3 => some h3
def fX6_grow_b95 (rec : Nat → Int32 → Int32 → e_H → Option (Bool × e_H)) (t0 : Int32) (t1 : Int32) (t2 : Nat) (h : e_H) : Option (Bool × e_H) :=
  (o_put h t2 6 2 (.int (t1 + t0))).bind fun h1 => some (true, h1)
def fX6_grow_b181 (rec : Nat → Int32 → Int32 → e_H → Option (Bool × e_H)) (t0 : Int32) (t1 : Int32) (t2 : Nat) (h : e_H) : Option (Bool × e_H) :=
  (o_put h t2 6 2 (.int (t1 + t0))).bind fun h1 => some (true, h1)
def fX6_grow_b160 (rec : Nat → Int32 → Int32 → e_H → Option (Bool × e_H)) (k117 : Nat → Int32 → Int32 → Int32 → Int32 → Int32 → e_H → Option (Bool × e_H)) (l0 : Nat) (l1 : Int32) (l2 : Int32) (l5 : Int32) (l6 : Int32) (l7 : Int32) (h : e_H) : Option (Bool × e_H) :=
  k117 l0 l1 l2 l5 l6 (l7 + (nI 1)) h
def fX6_grow_b117 (rec : Nat → Int32 → Int32 → e_H → Option (Bool × e_H)) (k117 : Nat → Int32 → Int32 → Int32 → Int32 → Int32 → e_H → Option (Bool × e_H)) (l0 : Nat) (l1 : Int32) (l2 : Int32) (l5 : Int32) (l6 : Int32) (l7 : Int32) (h : e_H) : Option (Bool × e_H) :=
  if (nI 5) < l7 then ((o_getI h l0 6 2).bind fun v1 => if l5 = 0 then (fX6_grow_b181 rec (nI 1) v1 l0 h) else (fX6_grow_b181 rec (nI 0) v1 l0 h)) else (if ((l6 >>> ((l7 + (nI 5)) &&& 31)) &&& (nI 1)) = (nI 1) then ((fX6_blow l0 l1 l7 h).bind fun p2 => e_on p2.1 (fX6_grow_b160 rec k117 l0 l1 l2 l5 l6 l7 p2.2) (fun a4 => (rec l0 (l1 + (nI 1)) l2 p2.2).bind fun p5 => if (e_b p5.1) = 0 then (fX6_grow_b160 rec k117 l0 l1 l2 l5 l6 l7 p5.2) else (fX6_grow_b160 rec k117 l0 l1 l2 (l5 + (nI 1)) l6 l7 p5.2))) else (fX6_grow_b160 rec k117 l0 l1 l2 l5 l6 l7 h))
def fX6_grow_L117 (rec : Nat → Int32 → Int32 → e_H → Option (Bool × e_H)) : Nat → Nat → Int32 → Int32 → Int32 → Int32 → Int32 → e_H → Option (Bool × e_H)
  | 0 => fun _ _ _ _ _ _ _ => none
  | n + 1 => fX6_grow_b117 rec (fX6_grow_L117 rec n)
def fX6_grow_r (rec : Nat → Int32 → Int32 → e_H → Option (Bool × e_H)) (l0 : Nat) (l1 : Int32) (l2 : Int32) (h : e_H) : Option (Bool × e_H) :=
  if l1 < (nI 1) then (some (false, h)) else (if l2 < l1 then (some (false, h)) else ((o_getR h l0 6 7).bind fun v1 => e_on v1 (none) (fun a2 => (o_len h a2 8).bind fun v3 => if l1 ≤ v3 then ((o_getR h l0 6 7).bind fun v4 => e_on v4 (none) (fun a5 => (o_ldR h a5 8 (l1 - (nI 1))).bind fun v7 => e_on v7 (none) (fun a8 => (fX3_least a8 h).bind fun v9 => (fX3_branches v9).bind fun v10 => if (e_b v10) = 0 then (some (false, h)) else ((o_getI h l0 6 0).bind fun v11 => (o_put h l0 6 0 (.int (v11 + (nI 1)))).bind fun h12 => (o_getI h12 l0 6 1).bind fun v13 => (o_put h12 l0 6 1 (.int (v13 + ((v9 * (v9 - (nI 1))) / (nI 2))))).bind fun h14 => if l1 = l2 then ((o_getI h14 l0 6 2).bind fun v15 => if v9 = (nI 1) then (fX6_grow_b95 rec (nI 1) v15 l0 h14) else (fX6_grow_b95 rec (nI 0) v15 l0 h14)) else ((fX6_slopeBits l0 a8 v9 h14).bind fun p16 => fX6_grow_L117 rec 200 l0 l1 l2 (nI 0) p16.1 (-5 : Int32) p16.2))))) else (some (false, h)))))
def fX6_grow_R : Nat → Nat → Int32 → Int32 → e_H → Option (Bool × e_H)
  | 0 => fun _ _ _ _ => none
  | n + 1 => fX6_grow_r (fX6_grow_R n)
def fX6_grow : Nat → Int32 → Int32 → e_H → Option (Bool × e_H) := fX6_grow_R 100
def fX6_growTree (l0 : Nat) (l1 : Int32) (h : e_H) : Option e_H :=
  (o_obj h l0 6).bind fun _ => (fX6_clearTree l0 h).bind fun h1 => (fX6_grow l0 (nI 1) l1 h1).bind fun p2 => some p2.2
def fX8_tree (l0 : Nat) (l1 : Int32) (l2 : Int32) (l3 : Int32) (l4 : Int32) (h : e_H) : Option (Int32 × e_H) :=
  (o_obj h l0 8).bind fun _ => (fX8_shapeAt l0 l1 l2 h).bind fun p1 => e_on p1.1 (some ((-1000000001 : Int32), p1.2)) (fun a3 => if l3 < (nI 1) then (some ((-1000000001 : Int32), p1.2)) else (if (nI 3) < l3 then (some ((-1000000001 : Int32), p1.2)) else (if l4 < 0 then (some ((-1000000001 : Int32), p1.2)) else (if l4 ≤ (nI 2) then ((o_getR p1.2 l0 8 2).bind fun v4 => e_on v4 (none) (fun a5 => (fX6_growTree a5 l3 p1.2).bind fun h6 => if l4 = 0 then ((o_getR h6 l0 8 2).bind fun v7 => e_on v7 (none) (fun a8 => (o_getI h6 a8 6 0).bind fun v9 => some (v9, h6))) else (if l4 = (nI 1) then ((o_getR h6 l0 8 2).bind fun v10 => e_on v10 (none) (fun a11 => (o_getI h6 a11 6 1).bind fun v12 => some (v12, h6))) else ((o_getR h6 l0 8 2).bind fun v13 => e_on v13 (none) (fun a14 => (o_getI h6 a14 6 2).bind fun v15 => some (v15, h6)))))) else (some ((-1000000001 : Int32), p1.2))))))
def fX3_leastX_b2 (h : e_H) (k2 : Nat → Int32 → Int32 → Option Int32) (l0 : Nat) (l1 : Int32) (l2 : Int32) : Option Int32 :=
  if (nI 16) < l2 then (some (nI 17)) else ((fX3_number l0 l2 l1 h).bind fun v1 => if (lg_cmp v1 (0 : Int64)) = 0 then (k2 l0 l1 (l2 + (nI 1))) else (some l2))
def fX3_leastX_L2 (h : e_H) : Nat → Nat → Int32 → Int32 → Option Int32
  | 0 => fun _ _ _ => none
  | n + 1 => fX3_leastX_b2 h (fX3_leastX_L2 h n)
def fX3_leastX (l0 : Nat) (l1 : Int32) (h : e_H) : Option Int32 :=
  (o_obj h l0 3).bind fun _ => fX3_leastX_L2 h 200 l0 l1 (nI 0)
def fX8_corner (l0 : Nat) (l1 : Int32) (l2 : Int32) (l3 : Int32) (h : e_H) : Option (Int32 × e_H) :=
  (o_obj h l0 8).bind fun _ => (fX8_shapeAt l0 l1 l2 h).bind fun p1 => e_on p1.1 (some ((-1000000001 : Int32), p1.2)) (fun a3 => if l3 < 0 then (some ((-1000000001 : Int32), p1.2)) else (if l3 ≤ (nI 4) then ((fX3_leastX a3 l3 p1.2).bind fun v4 => if v4 = (nI 17) then (some ((-1000000005 : Int32), p1.2)) else (some (v4, p1.2))) else (some ((-1000000001 : Int32), p1.2))))
def fX3_firstCorner_b2 (h : e_H) (k2 : Nat → Int32 → Option Int32) (l0 : Nat) (l1 : Int32) : Option Int32 :=
  if (nI 4) < l1 then (some (-1 : Int32)) else ((fX3_leastX l0 l1 h).bind fun v1 => if v1 = (nI 17) then (k2 l0 (l1 + (nI 1))) else (some l1))
def fX3_firstCorner_L2 (h : e_H) : Nat → Nat → Int32 → Option Int32
  | 0 => fun _ _ => none
  | n + 1 => fX3_firstCorner_b2 h (fX3_firstCorner_L2 h n)
def fX3_firstCorner (l0 : Nat) (h : e_H) : Option Int32 :=
  (o_obj h l0 3).bind fun _ => fX3_firstCorner_L2 h 200 l0 (nI 0)
def fX3_steepestFrom_b81 (h : e_H) (k9 : Nat → Int32 → Int32 → Int32 → Int32 → Option Int32) (l0 : Nat) (l1 : Int32) (l2 : Int32) (l3 : Int32) (l4 : Int32) : Option Int32 :=
  k9 l0 l1 l2 l3 (l4 + (nI 1))
def fX3_steepestFrom_b75 (h : e_H) (k9 : Nat → Int32 → Int32 → Int32 → Int32 → Option Int32) (l0 : Nat) (l1 : Int32) (l4 : Int32) (l5 : Int32) : Option Int32 :=
  fX3_steepestFrom_b81 h k9 l0 l1 l4 l5 l4
def fX3_steepestFrom_b49 (h : e_H) (k9 : Nat → Int32 → Int32 → Int32 → Int32 → Option Int32) (l0 : Nat) (l1 : Int32) (l2 : Int32) (l3 : Int32) (l4 : Int32) (l5 : Int32) (t0 : Int32) : Option Int32 :=
  if t0 = 0 then (fX3_steepestFrom_b81 h k9 l0 l1 l2 l3 l4) else (if l2 < 0 then (fX3_steepestFrom_b75 h k9 l0 l1 l4 l5) else (if (l5 * (l2 - l1)) < (l3 * (l4 - l1)) then (fX3_steepestFrom_b81 h k9 l0 l1 l2 l3 l4) else (fX3_steepestFrom_b75 h k9 l0 l1 l4 l5)))
def fX3_steepestFrom_b9 (h : e_H) (k9 : Nat → Int32 → Int32 → Int32 → Int32 → Option Int32) (l0 : Nat) (l1 : Int32) (l2 : Int32) (l3 : Int32) (l4 : Int32) : Option Int32 :=
  if l1 < 0 then (some l2) else (if (nI 4) < l4 then (some l2) else ((fX3_leastX l0 l1 h).bind fun v1 => (fX3_leastX l0 l4 h).bind fun v2 => (fX3_leastX l0 l4 h).bind fun v3 => if v3 = (nI 17) then (fX3_steepestFrom_b49 h k9 l0 l1 l2 l3 l4 (v1 - v2) (nI 0)) else (fX3_steepestFrom_b49 h k9 l0 l1 l2 l3 l4 (v1 - v2) (nI 1))))
def fX3_steepestFrom_L9 (h : e_H) : Nat → Nat → Int32 → Int32 → Int32 → Int32 → Option Int32
  | 0 => fun _ _ _ _ _ => none
  | n + 1 => fX3_steepestFrom_b9 h (fX3_steepestFrom_L9 h n)
def fX3_steepestFrom (l0 : Nat) (l1 : Int32) (h : e_H) : Option Int32 :=
  (o_obj h l0 3).bind fun _ => fX3_steepestFrom_L9 h 200 l0 l1 (-1 : Int32) (nI 0) (l1 + (nI 1))
def fX8_greatestShared_b7 (k7 : Int32 → Int32 → Int32 → Option Int32) (l2 : Int32) (l3 : Int32) (l4 : Int32) : Option Int32 :=
  if (nI 100) ≤ l4 then (some l2) else (if l3 = 0 then (some l2) else (if l3 = 0 then none else k7 l3 (l2 - l2 / l3 * l3) (l4 + (nI 1))))
def fX8_greatestShared_L7 : Nat → Int32 → Int32 → Int32 → Option Int32
  | 0 => fun _ _ _ => none
  | n + 1 => fX8_greatestShared_b7 (fX8_greatestShared_L7 n)
def fX8_greatestShared (l0 : Int32) (l1 : Int32) : Option Int32 :=
  fX8_greatestShared_L7 200 l0 l1 (nI 0)
def fX8_power (l0 : Nat) (l1 : Int32) (l2 : Int32) (l3 : Int32) (h : e_H) : Option (Int32 × e_H) :=
  (o_obj h l0 8).bind fun _ => (fX8_shapeAt l0 l1 l2 h).bind fun p1 => e_on p1.1 (some ((-1000000001 : Int32), p1.2)) (fun a3 => if l3 < 0 then (some ((-1000000001 : Int32), p1.2)) else (if l3 ≤ (nI 1) then ((fX3_firstCorner a3 p1.2).bind fun v4 => (fX3_steepestFrom a3 v4 p1.2).bind fun v5 => if 0 ≤ v5 then ((fX3_leastX a3 v4 p1.2).bind fun v6 => (fX3_leastX a3 v5 p1.2).bind fun v7 => (fX8_greatestShared (if 0 ≤ (v6 - v7) then (v6 - v7) else 0 - (v6 - v7)) (v5 - v4)).bind fun v8 => if (nI 1) ≤ v8 then (if l3 = 0 then (if v8 = 0 then none else some (((v6 - v7) / v8), p1.2)) else (if v8 = 0 then none else some (((v5 - v4) / v8), p1.2))) else (some ((-1000000005 : Int32), p1.2))) else (some ((-1000000005 : Int32), p1.2))) else (some ((-1000000001 : Int32), p1.2))))
def fX3_holdsToUpright_b2 (h : e_H) (k2 : Nat → Int32 → Option Int32) (l0 : Nat) (l1 : Int32) : Option Int32 :=
  if (nI 4) < l1 then (some (-1 : Int32)) else ((fX3_number l0 (nI 0) l1 h).bind fun v1 => if (lg_cmp v1 (0 : Int64)) = 0 then (k2 l0 (l1 + (nI 1))) else (some l1))
def fX3_holdsToUpright_L2 (h : e_H) : Nat → Nat → Int32 → Option Int32
  | 0 => fun _ _ => none
  | n + 1 => fX3_holdsToUpright_b2 h (fX3_holdsToUpright_L2 h n)
def fX3_holdsToUpright (l0 : Nat) (h : e_H) : Option Int32 :=
  (o_obj h l0 3).bind fun _ => fX3_holdsToUpright_L2 h 200 l0 (nI 0)
def fX3_holdsTo_b2 (h : e_H) (k2 : Nat → Int32 → Int32 → Option Int32) (l0 : Nat) (l1 : Int32) (l2 : Int32) : Option Int32 :=
  if (nI 20) < l2 then (some (-1 : Int32)) else ((fX3_sumOnLine l0 l2 l1 h).bind fun v1 => if (lg_cmp v1 (0 : Int64)) = 0 then (k2 l0 l1 (l2 + (nI 1))) else (some l2))
def fX3_holdsTo_L2 (h : e_H) : Nat → Nat → Int32 → Int32 → Option Int32
  | 0 => fun _ _ _ => none
  | n + 1 => fX3_holdsTo_b2 h (fX3_holdsTo_L2 h n)
def fX3_holdsTo (l0 : Nat) (l1 : Int32) (h : e_H) : Option Int32 :=
  (o_obj h l0 3).bind fun _ => fX3_holdsTo_L2 h 200 l0 l1 (nI 0)
def fX8_line_b29 (l3 : Int32) (l4 : Nat) (h : e_H) : Option (Int32 × e_H) :=
  if l3 = (nI 6) then ((fX3_holdsToUpright l4 h).bind fun v1 => some (v1, h)) else ((fX3_holdsTo l4 l3 h).bind fun v2 => some (v2, h))
def fX8_line (l0 : Nat) (l1 : Int32) (l2 : Int32) (l3 : Int32) (h : e_H) : Option (Int32 × e_H) :=
  (o_obj h l0 8).bind fun _ => (fX8_shapeAt l0 l1 l2 h).bind fun p1 => e_on p1.1 (some ((-1000000001 : Int32), p1.2)) (fun a3 => if l3 = (nI 6) then (fX8_line_b29 l3 a3 p1.2) else ((fX8_isSlope l3).bind fun v4 => if (e_b v4) = 0 then (some ((-1000000001 : Int32), p1.2)) else (fX8_line_b29 l3 a3 p1.2)))
def fX6_walk_b62 (k7 : Nat → Int32 → e_H → Option e_H) (l0 : Nat) (l2 : Int32) (t0 : Int32) (t1 : Int32) (h : e_H) : Option e_H :=
  none
def fX6_walk_b62x1 (k7 : Nat → Int32 → e_H → Option e_H) (l0 : Nat) (l2 : Int32) (t0 : Int32) (t1 : Int32) (t2 : Nat) (h : e_H) : Option e_H :=
  (o_stI h t2 0 t1 t0).bind fun h1 => k7 l0 (l2 + (nI 1)) h1
def fX6_walk_b7 (k7 : Nat → Int32 → e_H → Option e_H) (l0 : Nat) (l2 : Int32) (h : e_H) : Option e_H :=
  (o_getR h l0 6 5).bind fun v1 => e_on v1 (none) (fun a2 => (o_len h a2 0).bind fun v3 => if v3 ≤ l2 then (some h) else ((o_getR h l0 6 5).bind fun v4 => e_on v4 ((fX6_valueAt l0 ((l2 / (nI 11)) - (nI 5)) ((l2 - l2 / (nI 11) * (nI 11)) - (nI 5)) h).bind fun v6 => if (lg_cmp v6 (0 : Int64)) = 0 then ((fX6_stand l0 ((l2 / (nI 11)) - (nI 5)) ((l2 - l2 / (nI 11) * (nI 11)) - (nI 5)) h).bind fun p7 => e_on p7.1 (none) (fun a9 => (fX3_least a9 p7.2).bind fun v10 => fX6_walk_b62 k7 l0 l2 v10 l2 p7.2)) else (fX6_walk_b62 k7 l0 l2 (nI 0) l2 h)) (fun a5 => (fX6_valueAt l0 ((l2 / (nI 11)) - (nI 5)) ((l2 - l2 / (nI 11) * (nI 11)) - (nI 5)) h).bind fun v11 => if (lg_cmp v11 (0 : Int64)) = 0 then ((fX6_stand l0 ((l2 / (nI 11)) - (nI 5)) ((l2 - l2 / (nI 11) * (nI 11)) - (nI 5)) h).bind fun p12 => e_on p12.1 (none) (fun a14 => (fX3_least a14 p12.2).bind fun v15 => fX6_walk_b62x1 k7 l0 l2 v15 l2 a5 p12.2)) else (fX6_walk_b62x1 k7 l0 l2 (nI 0) l2 a5 h))))
def fX6_walk_L7 : Nat → Nat → Int32 → e_H → Option e_H
  | 0 => fun _ _ _ => none
  | n + 1 => fX6_walk_b7 (fX6_walk_L7 n)
def fX6_walk (l0 : Nat) (l1 : Nat) (h : e_H) : Option e_H :=
  (o_obj h l0 6).bind fun _ => (fX6_look l0 l1 h).bind fun h1 => fX6_walk_L7 200 l0 (nI 0) h1
def fX6_sumOfMarks_b67 (k4 : Nat → Int32 → Int32 → e_H → Option (Int32 × e_H)) (l0 : Nat) (l1 : Int32) (l2 : Int32) (h : e_H) : Option (Int32 × e_H) :=
  k4 l0 l1 (l2 + (nI 1)) h
def fX6_sumOfMarks_b4 (k4 : Nat → Int32 → Int32 → e_H → Option (Int32 × e_H)) (l0 : Nat) (l1 : Int32) (l2 : Int32) (h : e_H) : Option (Int32 × e_H) :=
  (o_getR h l0 6 5).bind fun v1 => e_on v1 (none) (fun a2 => (o_len h a2 0).bind fun v3 => if v3 ≤ l2 then (some (l1, h)) else ((o_getR h l0 6 5).bind fun v4 => e_on v4 (none) (fun a5 => (o_ldI h a5 0 l2).bind fun v6 => if v6 < (nI 1) then (fX6_sumOfMarks_b67 k4 l0 l1 l2 h) else ((o_getR h l0 6 3).bind fun v7 => e_on v7 ((o_getR h l0 6 5).bind fun v9 => e_on v9 (none) (fun a10 => (o_ldI h a10 0 l2).bind fun v11 => (o_getR h l0 6 5).bind fun v12 => e_on v12 (none) (fun a13 => (o_ldI h a13 0 l2).bind fun v14 => none))) (fun a8 => (o_getR h l0 6 5).bind fun v15 => e_on v15 (none) (fun a16 => (o_ldI h a16 0 l2).bind fun v17 => (o_getR h l0 6 5).bind fun v18 => e_on v18 (none) (fun a19 => (o_ldI h a19 0 l2).bind fun v20 => (fX7_lawGives a8 (nI 2) ((l2 / (nI 11)) - (nI 5)) ((l2 - l2 / (nI 11) * (nI 11)) - (nI 5)) v17 v20 h).bind fun p21 => (fX8_held p21.1).bind fun v22 => fX6_sumOfMarks_b67 k4 l0 (l1 + v22) l2 p21.2)))))))
def fX6_sumOfMarks_L4 : Nat → Nat → Int32 → Int32 → e_H → Option (Int32 × e_H)
  | 0 => fun _ _ _ _ => none
  | n + 1 => fX6_sumOfMarks_b4 (fX6_sumOfMarks_L4 n)
def fX6_sumOfMarks (l0 : Nat) (h : e_H) : Option (Int32 × e_H) :=
  (o_obj h l0 6).bind fun _ => fX6_sumOfMarks_L4 200 l0 (nI 0) (nI 0) h
def fX6_placesWith_b26 (h : e_H) (k4 : Nat → Int32 → Int32 → Int32 → Option Int32) (l0 : Nat) (l1 : Int32) (l2 : Int32) (l3 : Int32) : Option Int32 :=
  k4 l0 l1 l2 (l3 + (nI 1))
def fX6_placesWith_b4 (h : e_H) (k4 : Nat → Int32 → Int32 → Int32 → Option Int32) (l0 : Nat) (l1 : Int32) (l2 : Int32) (l3 : Int32) : Option Int32 :=
  (o_getR h l0 6 5).bind fun v1 => e_on v1 (none) (fun a2 => (o_len h a2 0).bind fun v3 => if v3 ≤ l3 then (some l2) else ((o_getR h l0 6 5).bind fun v4 => e_on v4 (none) (fun a5 => (o_ldI h a5 0 l3).bind fun v6 => if v6 < l1 then (fX6_placesWith_b26 h k4 l0 l1 l2 l3) else (fX6_placesWith_b26 h k4 l0 l1 (l2 + (nI 1)) l3))))
def fX6_placesWith_L4 (h : e_H) : Nat → Nat → Int32 → Int32 → Int32 → Option Int32
  | 0 => fun _ _ _ _ => none
  | n + 1 => fX6_placesWith_b4 h (fX6_placesWith_L4 h n)
def fX6_placesWith (l0 : Nat) (l1 : Int32) (h : e_H) : Option Int32 :=
  (o_obj h l0 6).bind fun _ => fX6_placesWith_L4 h 200 l0 l1 (nI 0) (nI 0)
def fX8_all_b61 (t0 : Int32) (h : e_H) : Option (Int32 × e_H) :=
  none
def fX8_all_b61x1 (t0 : Int32) (t1 : Nat) (h : e_H) : Option (Int32 × e_H) :=
  (fX6_placesWith t1 t0 h).bind fun v1 => some (v1, h)
def fX8_all (l0 : Nat) (l1 : Int32) (l2 : Int32) (h : e_H) : Option (Int32 × e_H) :=
  (o_obj h l0 8).bind fun _ => (o_getR h l0 8 0).bind fun v1 => e_on v1 (none) (fun a2 => (fX7_curveOf a2 l1 h).bind fun v3 => e_on v3 (some ((-1000000001 : Int32), h)) (fun a4 => if l2 < 0 then (some ((-1000000001 : Int32), h)) else (if l2 ≤ (nI 2) then ((o_getR h l0 8 2).bind fun v5 => e_on v5 (none) (fun a6 => (fX6_walk a6 a4 h).bind fun h7 => if l2 = (nI 2) then ((o_getR h7 l0 8 2).bind fun v8 => e_on v8 (none) (fun a9 => (fX6_sumOfMarks a9 h7).bind fun p10 => some (p10.1, p10.2))) else ((o_getR h7 l0 8 2).bind fun v11 => e_on v11 (if l2 = 0 then (fX8_all_b61 (nI 1) h7) else (fX8_all_b61 (nI 2) h7)) (fun a12 => if l2 = 0 then (fX8_all_b61x1 (nI 1) a12 h7) else (fX8_all_b61x1 (nI 2) a12 h7))))) else (some ((-1000000001 : Int32), h)))))
def fX6_toldPlace (l0 : Int32) : Option Int32 :=
  some (((l0 / (nI 11)) * (nI 100)) + (l0 - l0 / (nI 11) * (nI 11)))
def fX6_placeOn_b36 (h : e_H) (k4 : Nat → Int32 → Int32 → Int32 → Option Int32) (l0 : Nat) (l1 : Int32) (l2 : Int32) (l3 : Int32) : Option Int32 :=
  k4 l0 l1 l2 (l3 + (nI 1))
def fX6_placeOn_b4 (h : e_H) (k4 : Nat → Int32 → Int32 → Int32 → Option Int32) (l0 : Nat) (l1 : Int32) (l2 : Int32) (l3 : Int32) : Option Int32 :=
  (o_getR h l0 6 5).bind fun v1 => e_on v1 (none) (fun a2 => (o_len h a2 0).bind fun v3 => if v3 ≤ l3 then (some (-1000000005 : Int32)) else ((o_getR h l0 6 5).bind fun v4 => e_on v4 (none) (fun a5 => (o_ldI h a5 0 l3).bind fun v6 => if v6 < (nI 1) then (fX6_placeOn_b36 h k4 l0 l1 l2 l3) else (if l2 = l1 then ((fX6_toldPlace l3).bind fun v7 => some v7) else (fX6_placeOn_b36 h k4 l0 l1 (l2 + (nI 1)) l3)))))
def fX6_placeOn_L4 (h : e_H) : Nat → Nat → Int32 → Int32 → Int32 → Option Int32
  | 0 => fun _ _ _ _ => none
  | n + 1 => fX6_placeOn_b4 h (fX6_placeOn_L4 h n)
def fX6_placeOn (l0 : Nat) (l1 : Int32) (h : e_H) : Option Int32 :=
  (o_obj h l0 6).bind fun _ => fX6_placeOn_L4 h 200 l0 l1 (nI 0) (nI 0)
def fX8_on (l0 : Nat) (l1 : Int32) (l2 : Int32) (h : e_H) : Option (Int32 × e_H) :=
  (o_obj h l0 8).bind fun _ => (o_getR h l0 8 0).bind fun v1 => e_on v1 (none) (fun a2 => (fX7_curveOf a2 l1 h).bind fun v3 => e_on v3 (some ((-1000000001 : Int32), h)) (fun a4 => if 0 ≤ l2 then ((o_getR h l0 8 2).bind fun v5 => e_on v5 (none) (fun a6 => (fX6_walk a6 a4 h).bind fun h7 => (o_getR h7 l0 8 2).bind fun v8 => e_on v8 (none) (fun a9 => (fX6_placeOn a9 l2 h7).bind fun v10 => some (v10, h7)))) else (some ((-1000000001 : Int32), h))))
def fX6_belongsOfKnots_b49 (k6 : Nat → Int32 → e_H → Option (Int32 × e_H)) (l0 : Nat) (l1 : Int32) (h : e_H) : Option (Int32 × e_H) :=
  k6 l0 (l1 + (nI 1)) h
def fX6_belongsOfKnots_b6 (k6 : Nat → Int32 → e_H → Option (Int32 × e_H)) (l0 : Nat) (l1 : Int32) (h : e_H) : Option (Int32 × e_H) :=
  (o_getR h l0 6 5).bind fun v1 => e_on v1 (none) (fun a2 => (o_len h a2 0).bind fun v3 => if v3 ≤ l1 then ((o_getI h l0 6 1).bind fun v4 => some (v4, h)) else ((o_getR h l0 6 5).bind fun v5 => e_on v5 (none) (fun a6 => (o_ldI h a6 0 l1).bind fun v7 => if v7 < (nI 2) then (fX6_belongsOfKnots_b49 k6 l0 l1 h) else ((fX6_stand l0 ((l1 / (nI 11)) - (nI 5)) ((l1 - l1 / (nI 11) * (nI 11)) - (nI 5)) h).bind fun p8 => e_on p8.1 ((fX6_grow l0 (nI 1) (nI 3) p8.2).bind fun p11 => fX6_belongsOfKnots_b49 k6 l0 l1 p11.2) (fun a10 => (fX6_grow l0 (nI 1) (nI 3) p8.2).bind fun p12 => fX6_belongsOfKnots_b49 k6 l0 l1 p12.2)))))
def fX6_LelongsOfKnots_L6 : Nat → Nat → Int32 → e_H → Option (Int32 × e_H)
  | 0 => fun _ _ _ => none
  | n + 1 => fX6_belongsOfKnots_b6 (fX6_LelongsOfKnots_L6 n)
def fX6_belongsOfKnots (l0 : Nat) (h : e_H) : Option (Int32 × e_H) :=
  (o_obj h l0 6).bind fun _ => (fX6_clearTree l0 h).bind fun h1 => fX6_LelongsOfKnots_L6 200 l0 (nI 0) h1
def fX8_genus (l0 : Nat) (l1 : Int32) (h : e_H) : Option (Int32 × e_H) :=
  (o_obj h l0 8).bind fun _ => (o_getR h l0 8 0).bind fun v1 => e_on v1 (none) (fun a2 => (fX7_curveOf a2 l1 h).bind fun v3 => e_on v3 (some ((-1000000001 : Int32), h)) (fun a4 => (o_getR h l0 8 2).bind fun v5 => e_on v5 (none) (fun a6 => (fX6_walk a6 a4 h).bind fun h7 => (o_getR h7 l0 8 2).bind fun v8 => e_on v8 (none) (fun a9 => (fX6_degree a9 h7).bind fun v10 => if 0 ≤ v10 then ((o_getR h7 l0 8 2).bind fun v11 => e_on v11 (none) (fun a12 => (fX6_belongsOfKnots a12 h7).bind fun p13 => some (((((v10 - (nI 1)) * (v10 - (nI 2))) / (nI 2)) - p13.1), p13.2))) else (some ((-1000000002 : Int32), h7))))))
def fX6_setAside (l0 : Nat) (h : e_H) : Option e_H :=
  (o_obj h l0 6).bind fun _ => (o_getR h l0 6 5).bind fun v1 => e_on v1 ((o_getR h l0 6 6).bind fun v3 => e_on v3 (none) (fun a4 => none)) (fun a2 => (o_getR h l0 6 6).bind fun v5 => e_on v5 (none) (fun a6 => (o_cpy h a2 (nI 0) a6 (nI 0) (nI 121)).bind fun h7 => some h7))
def fX6_placesOnBoth_b33 (h : e_H) (k4 : Nat → Int32 → Int32 → Option Int32) (l0 : Nat) (l1 : Int32) (l2 : Int32) : Option Int32 :=
  k4 l0 l1 (l2 + (nI 1))
def fX6_placesOnBoth_b4 (h : e_H) (k4 : Nat → Int32 → Int32 → Option Int32) (l0 : Nat) (l1 : Int32) (l2 : Int32) : Option Int32 :=
  if (nI 121) ≤ l2 then (some l1) else ((o_getR h l0 6 5).bind fun v1 => e_on v1 (none) (fun a2 => (o_ldI h a2 0 l2).bind fun v3 => if v3 < (nI 1) then (fX6_placesOnBoth_b33 h k4 l0 l1 l2) else ((o_getR h l0 6 6).bind fun v4 => e_on v4 (none) (fun a5 => (o_ldI h a5 0 l2).bind fun v6 => if v6 < (nI 1) then (fX6_placesOnBoth_b33 h k4 l0 l1 l2) else (fX6_placesOnBoth_b33 h k4 l0 (l1 + (nI 1)) l2)))))
def fX6_placesOnBoth_L4 (h : e_H) : Nat → Nat → Int32 → Int32 → Option Int32
  | 0 => fun _ _ _ => none
  | n + 1 => fX6_placesOnBoth_b4 h (fX6_placesOnBoth_L4 h n)
def fX6_placesOnBoth (l0 : Nat) (h : e_H) : Option Int32 :=
  (o_obj h l0 6).bind fun _ => fX6_placesOnBoth_L4 h 200 l0 (nI 0) (nI 0)
def fX8_both (l0 : Nat) (l1 : Int32) (l2 : Int32) (h : e_H) : Option (Int32 × e_H) :=
  (o_obj h l0 8).bind fun _ => (o_getR h l0 8 0).bind fun v1 => e_on v1 (none) (fun a2 => (fX7_curveOf a2 l1 h).bind fun v3 => e_on v3 ((o_getR h l0 8 0).bind fun v5 => e_on v5 (none) (fun a6 => (fX7_curveOf a6 l2 h).bind fun v7 => e_on v7 (some ((-1000000001 : Int32), h)) (fun a8 => some ((-1000000001 : Int32), h)))) (fun a4 => (o_getR h l0 8 0).bind fun v9 => e_on v9 (none) (fun a10 => (fX7_curveOf a10 l2 h).bind fun v11 => e_on v11 (some ((-1000000001 : Int32), h)) (fun a12 => (o_getR h l0 8 2).bind fun v13 => e_on v13 (none) (fun a14 => (fX6_walk a14 a4 h).bind fun h15 => (o_getR h15 l0 8 2).bind fun v16 => e_on v16 (none) (fun a17 => (fX6_setAside a17 h15).bind fun h18 => (o_getR h18 l0 8 2).bind fun v19 => e_on v19 (none) (fun a20 => (fX6_walk a20 a12 h18).bind fun h21 => (o_getR h21 l0 8 2).bind fun v22 => e_on v22 (none) (fun a23 => (fX6_placesOnBoth a23 h21).bind fun v24 => some (v24, h21)))))))))
def fX5_addNumber_b52 (k3 : Nat → Int32 → Int32 → e_H → Option e_H) (l0 : Nat) (l1 : Int32) (l2 : Int32) (h : e_H) : Option e_H :=
  k3 l0 l1 (l2 + (-8 : Int32)) h
def fX5_addNumber_b3 (k3 : Nat → Int32 → Int32 → e_H → Option e_H) (l0 : Nat) (l1 : Int32) (l2 : Int32) (h : e_H) : Option e_H :=
  if l2 < 0 then (some h) else ((o_getI h l0 5 0).bind fun v1 => if v1 < 0 then (fX5_addNumber_b52 k3 l0 l1 l2 h) else ((o_getI h l0 5 0).bind fun v2 => (o_getR h l0 5 1).bind fun v3 => e_on v3 (none) (fun a4 => (o_len h a4 0).bind fun v5 => if v5 ≤ v2 then (fX5_addNumber_b52 k3 l0 l1 l2 h) else ((o_getR h l0 5 1).bind fun v6 => e_on v6 ((o_getI h l0 5 0).bind fun v8 => none) (fun a7 => (o_getI h l0 5 0).bind fun v10 => (o_stI h a7 0 v10 (((l1).toUInt32 >>> ((l2).toUInt32 &&& Int32.toUInt32 31)).toInt32 &&& (nI 255))).bind fun h11 => (o_getI h11 l0 5 0).bind fun v12 => (o_put h11 l0 5 0 (.int (v12 + (nI 1)))).bind fun h13 => fX5_addNumber_b52 k3 l0 l1 l2 h13)))))
def fX5_addNumber_L3 : Nat → Nat → Int32 → Int32 → e_H → Option e_H
  | 0 => fun _ _ _ _ => none
  | n + 1 => fX5_addNumber_b3 (fX5_addNumber_L3 n)
def fX5_addNumber (l0 : Nat) (l1 : Int32) (h : e_H) : Option e_H :=
  (o_obj h l0 5).bind fun _ => fX5_addNumber_L3 200 l0 l1 (nI 24) h
def fX8_feed (l0 : Nat) (l1 : Int32) (l2 : Int32) (l3 : Int32) (h : e_H) : Option (Int32 × e_H) :=
  (o_obj h l0 8).bind fun _ => (o_getR h l0 8 4).bind fun v1 => e_on v1 (none) (fun a2 => (o_getI h a2 5 0).bind fun v3 => if v3 ≤ (nI 84) then ((o_getR h l0 8 4).bind fun v4 => e_on v4 (none) (fun a5 => (fX5_addNumber a5 l1 h).bind fun h6 => (o_getR h6 l0 8 4).bind fun v7 => e_on v7 (none) (fun a8 => (fX5_addNumber a8 l2 h6).bind fun h9 => (o_getR h9 l0 8 4).bind fun v10 => e_on v10 (none) (fun a11 => (fX5_addNumber a11 l3 h9).bind fun h12 => (o_getR h12 l0 8 4).bind fun v13 => e_on v13 (none) (fun a14 => (o_getI h12 a14 5 0).bind fun v15 => some (v15, h12)))))) else (some ((-1000000003 : Int32), h)))
def fX8_trim (l0 : Nat) (l1 : Int32) (h : e_H) : Option (Int32 × e_H) :=
  (o_obj h l0 8).bind fun _ => if l1 < 0 then (some ((-1000000001 : Int32), h)) else ((o_getR h l0 8 4).bind fun v1 => e_on v1 (none) (fun a2 => (o_getI h a2 5 0).bind fun v3 => if l1 ≤ v3 then ((o_getR h l0 8 4).bind fun v4 => e_on v4 (none) (fun a5 => (o_put h a5 5 0 (.int l1)).bind fun h6 => some (l1, h6))) else (some ((-1000000001 : Int32), h))))
def fX5_byteAt (l0 : Nat) (l1 : Int32) (h : e_H) : Option Int32 :=
  (o_obj h l0 5).bind fun _ => if l1 < 0 then (some (-1 : Int32)) else ((o_getI h l0 5 0).bind fun v1 => if v1 ≤ l1 then (some (-1 : Int32)) else ((o_getR h l0 5 1).bind fun v2 => e_on v2 (none) (fun a3 => (o_len h a3 0).bind fun v4 => if l1 < v4 then ((o_getR h l0 5 1).bind fun v5 => e_on v5 (none) (fun a6 => (o_ldI h a6 0 l1).bind fun v7 => some v7)) else (some (-1 : Int32)))))
def fX5_skipBlanks_b2 (k2 : Nat → Int32 → e_H → Option e_H) (l0 : Nat) (l1 : Int32) (h : e_H) : Option e_H :=
  if (nI 96) ≤ l1 then (some h) else ((o_getI h l0 5 4).bind fun v1 => (fX5_byteAt l0 v1 h).bind fun v2 => if v2 = (nI 32) then ((o_getI h l0 5 4).bind fun v3 => (o_put h l0 5 4 (.int (v3 + (nI 1)))).bind fun h4 => k2 l0 (l1 + (nI 1)) h4) else (some h))
def fX5_skipBlanks_L2 : Nat → Nat → Int32 → e_H → Option e_H
  | 0 => fun _ _ _ => none
  | n + 1 => fX5_skipBlanks_b2 (fX5_skipBlanks_L2 n)
def fX5_skipBlanks (l0 : Nat) (h : e_H) : Option e_H :=
  (o_obj h l0 5).bind fun _ => fX5_skipBlanks_L2 200 l0 (nI 0) h
def fJ0_coder_7d493 (l0 : Nat) : Option Int32 :=
  if l0 < 13 then (some (nI 0)) else none
def fJ0_length_8abf5 (l0 : Nat) : Option Int32 :=
  if l0 < 13 then (if l0 < 13 then (fJ0_coder_7d493 l0).bind fun v1 => some ((Int32.ofNat (o_sn l0)) >>> (v1 &&& 31)) else none) else none
def fJ0_isLatin1_aae02 (l0 : Nat) : Option Bool :=
  if l0 < 13 then (some true) else none
def fJ3_checkIndex_8e157_b9 (l0 : Int32) (l1 : Int32) : Option Int32 :=
  none
def fJ3_checkIndex_8e157 (l0 : Int32) (l1 : Int32) : Option Int32 :=
  if l0 < 0 then (fJ3_checkIndex_8e157_b9 l0 l1) else (if l0 < l1 then (some l0) else (fJ3_checkIndex_8e157_b9 l0 l1))
def fJ0_checkIndex_df160 (l0 : Int32) (l1 : Int32) : Option Unit :=
  (fJ3_checkIndex_8e157 l0 l1).bind fun v1 => some ()
def fJ1_charAt_3b067 (l0 : Nat) (l1 : Int32) : Option Int32 :=
  if l0 < 13 then (fJ0_checkIndex_df160 l1 (Int32.ofNat (o_sn l0))).bind fun v1 => if l0 < 13 then (if l1 < 0 ∨ o_sn l0 ≤ (l1).toNatClampNeg then none else if narrow .char (.int ((((o_sb l0 (l1).toNatClampNeg) &&& (nI 255))).toUInt32 % 65536).toInt32) = .int ((((o_sb l0 (l1).toNatClampNeg) &&& (nI 255))).toUInt32 % 65536).toInt32 then some ((((o_sb l0 (l1).toNatClampNeg) &&& (nI 255))).toUInt32 % 65536).toInt32 else none) else none else none
def fJ0_charAt_5068e (l0 : Nat) (l1 : Int32) : Option Int32 :=
  if l0 < 13 then ((fJ0_isLatin1_aae02 l0).bind fun v1 => if (e_b v1) = 0 then (none) else ((fJ1_charAt_3b067 l0 l1).bind fun v2 => if narrow .char (.int v2) = .int v2 then some v2 else none)) else none
def fX5_isLetter (l0 : Int32) : Option Bool :=
  if l0 < (nI 97) then (some false) else (if (nI 122) < l0 then (some false) else (some true))
def fX5_isWord_b2 (h : e_H) (k2 : Nat → Nat → Int32 → Option Bool) (l0 : Nat) (l1 : Nat) (l2 : Int32) : Option Bool :=
  (fJ0_length_8abf5 l1).bind fun v1 => if v1 ≤ l2 then ((o_getI h l0 5 4).bind fun v2 => (fJ0_length_8abf5 l1).bind fun v3 => (fX5_byteAt l0 (v2 + v3) h).bind fun v4 => (fX5_isLetter v4).bind fun v5 => if (e_b v5) = 0 then (some true) else (some false)) else ((o_getI h l0 5 4).bind fun v6 => (fX5_byteAt l0 (v6 + l2) h).bind fun v7 => (fJ0_charAt_5068e l1 l2).bind fun v8 => if v7 = v8 then (k2 l0 l1 (l2 + (nI 1))) else (some false))
def fX5_isWord_L2 (h : e_H) : Nat → Nat → Nat → Int32 → Option Bool
  | 0 => fun _ _ _ => none
  | n + 1 => fX5_isWord_b2 h (fX5_isWord_L2 h n)
def fX5_isWord (l0 : Nat) (l1 : Nat) (h : e_H) : Option Bool :=
  (o_obj h l0 5).bind fun _ => fX5_isWord_L2 h 200 l0 l1 (nI 0)
def fX5_readKey_b32 (k6 : Nat → Int32 → e_H → Option (Int32 × e_H)) (l0 : Nat) (l1 : Int32) (t0 : Nat) (h : e_H) : Option (Int32 × e_H) :=
  (fX5_isWord l0 t0 h).bind fun v1 => if (e_b v1) = 0 then (k6 l0 (l1 + (nI 1)) h) else ((o_getI h l0 5 4).bind fun v2 => (fJ0_length_8abf5 t0).bind fun v3 => (o_put h l0 5 4 (.int (v2 + v3))).bind fun h4 => some (l1, h4))
def fX5_readKey_b6 (k6 : Nat → Int32 → e_H → Option (Int32 × e_H)) (l0 : Nat) (l1 : Int32) (h : e_H) : Option (Int32 × e_H) :=
  if (nI 2) < l1 then (some ((-1 : Int32), h)) else (if l1 = 0 then (fX5_readKey_b32 k6 l0 l1 (0 : Nat) h) else (if l1 = (nI 1) then (fX5_readKey_b32 k6 l0 l1 (1 : Nat) h) else (fX5_readKey_b32 k6 l0 l1 (2 : Nat) h)))
def fX5_readKey_L6 : Nat → Nat → Int32 → e_H → Option (Int32 × e_H)
  | 0 => fun _ _ _ => none
  | n + 1 => fX5_readKey_b6 (fX5_readKey_L6 n)
def fX5_readKey (l0 : Nat) (h : e_H) : Option (Int32 × e_H) :=
  (o_obj h l0 5).bind fun _ => (fX5_skipBlanks l0 h).bind fun h1 => fX5_readKey_L6 200 l0 (nI 0) h1
def fX5_isDigit (l0 : Int32) : Option Bool :=
  if l0 < (nI 48) then (some false) else (if (nI 57) < l0 then (some false) else (some true))
def fJ1_canEncode_9a6ad (l0 : Int32) : Option Bool :=
  if l0 < 0 then (some false) else (if (nI 255) < l0 then (some false) else (some true))
def fJ1_indexOfChar_4cfef_b7 (k7 : Nat → Int32 → Int32 → Int32 → Option Int32) (l0 : Nat) (l3 : Int32) (l4 : Int32) (l5 : Int32) : Option Int32 :=
  if l3 ≤ l5 then (some (-1 : Int32)) else (if l0 < 13 then (if l5 < 0 ∨ o_sn l0 ≤ (l5).toNatClampNeg then none else if (o_sb l0 (l5).toNatClampNeg) = l4 then (some l5) else (k7 l0 l3 l4 (l5 + (nI 1)))) else none)
def fJ1_indexOfChar_4cfef_L7 : Nat → Nat → Int32 → Int32 → Int32 → Option Int32
  | 0 => fun _ _ _ _ => none
  | n + 1 => fJ1_indexOfChar_4cfef_b7 (fJ1_indexOfChar_4cfef_L7 n)
def fJ1_indexOfChar_4cfef (l0 : Nat) (l1 : Int32) (l2 : Int32) (l3 : Int32) : Option Int32 :=
  fJ1_indexOfChar_4cfef_L7 200 l0 l3 (l1).toInt8.toInt32 l2
def fJ1_indexOf_4cfef (l0 : Nat) (l1 : Int32) (l2 : Int32) (l3 : Int32) : Option Int32 :=
  (fJ1_canEncode_9a6ad l1).bind fun v1 => if (e_b v1) = 0 then (some (-1 : Int32)) else (if l0 < 13 then if (if l2 < (nI 0) then (nI 0) else l2) < (if (Int32.ofNat (o_sn l0)) < l3 then (Int32.ofNat (o_sn l0)) else l3) then ((fJ1_indexOfChar_4cfef l0 l1 (if l2 < (nI 0) then (nI 0) else l2) (if (Int32.ofNat (o_sn l0)) < l3 then (Int32.ofNat (o_sn l0)) else l3)).bind fun v2 => some v2) else (some (-1 : Int32)) else none)
def fJ0_indexOf_7cf53 (l0 : Nat) (l1 : Int32) (l2 : Int32) : Option Int32 :=
  if l0 < 13 then ((fJ0_isLatin1_aae02 l0).bind fun v1 => if (e_b v1) = 0 then ((fJ0_length_8abf5 l0).bind fun v2 => none) else ((fJ0_length_8abf5 l0).bind fun v3 => (fJ1_indexOf_4cfef l0 l1 l2 v3).bind fun v4 => some v4)) else none
def fJ0_indexOf_0f7a4 (l0 : Nat) (l1 : Int32) : Option Int32 :=
  if l0 < 13 then ((fJ0_indexOf_7cf53 l0 l1 (nI 0)).bind fun v1 => some v1) else none
def fX5_nextOf (l0 : Nat) (l1 : Nat) (h : e_H) : Option (Int32 × e_H) :=
  (o_obj h l0 5).bind fun _ => (fX5_skipBlanks l0 h).bind fun h1 => (o_getI h1 l0 5 4).bind fun v2 => (fX5_byteAt l0 v2 h1).bind fun v3 => if v3 < 0 then (some ((-1 : Int32), h1)) else ((fJ0_indexOf_0f7a4 l1 ((v3).toUInt32 % 65536).toInt32).bind fun v4 => if v4 < 0 then (some ((-1 : Int32), h1)) else (some (v3, h1)))
def fX5_write (l0 : Nat) (l1 : Int32) (h : e_H) : Option e_H :=
  (o_obj h l0 5).bind fun _ => (o_getI h l0 5 3).bind fun v1 => if v1 < 0 then (some h) else ((o_getI h l0 5 3).bind fun v2 => (o_getR h l0 5 2).bind fun v3 => e_on v3 (none) (fun a4 => (o_len h a4 0).bind fun v5 => if v5 ≤ v2 then (some h) else ((o_getR h l0 5 2).bind fun v6 => e_on v6 ((o_getI h l0 5 3).bind fun v8 => none) (fun a7 => (o_getI h l0 5 3).bind fun v10 => (o_stI h a7 0 v10 l1).bind fun h11 => (o_getI h11 l0 5 3).bind fun v12 => (o_put h11 l0 5 3 (.int (v12 + (nI 1)))).bind fun h13 => some h13))))
def fX5_readNumber_b50 (l0 : Nat) (l1 : Int32) (l2 : Int32) (h : e_H) : Option (Bool × e_H) :=
  if l2 ≤ (nI 4) then ((o_getI h l0 5 4).bind fun v1 => (o_put h l0 5 4 (.int (v1 + l2))).bind fun h2 => (o_getI h2 l0 5 6).bind fun v3 => (o_put h2 l0 5 6 (.int (v3 + (nI 1)))).bind fun h4 => (fX5_write l0 l1 h4).bind fun h5 => some (true, h5)) else (some (false, h))
def fX5_readNumber_b4 (k4 : Nat → Int32 → Int32 → e_H → Option (Bool × e_H)) (l0 : Nat) (l1 : Int32) (l2 : Int32) (h : e_H) : Option (Bool × e_H) :=
  if (nI 4) < l2 then (fX5_readNumber_b50 l0 l1 l2 h) else ((o_getI h l0 5 4).bind fun v1 => (fX5_byteAt l0 (v1 + l2) h).bind fun v2 => (fX5_isDigit v2).bind fun v3 => if (e_b v3) = 0 then (fX5_readNumber_b50 l0 l1 l2 h) else ((o_getI h l0 5 4).bind fun v4 => (fX5_byteAt l0 (v4 + l2) h).bind fun v5 => k4 l0 (((l1 * (nI 10)) + v5) - (nI 48)) (l2 + (nI 1)) h))
def fX5_readNumber_L4 : Nat → Nat → Int32 → Int32 → e_H → Option (Bool × e_H)
  | 0 => fun _ _ _ _ => none
  | n + 1 => fX5_readNumber_b4 (fX5_readNumber_L4 n)
def fX5_readNumber (l0 : Nat) (h : e_H) : Option (Bool × e_H) :=
  (o_obj h l0 5).bind fun _ => fX5_readNumber_L4 200 l0 (nI 0) (nI 0) h
def fX5_readName_b27 (l0 : Nat) (t0 : Nat) (h : e_H) : Option (Bool × e_H) :=
  (o_getI h l0 5 4).bind fun v1 => (fX5_byteAt l0 v1 h).bind fun v2 => (fJ0_indexOf_0f7a4 t0 ((v2).toUInt32 % 65536).toInt32).bind fun v3 => if v3 < 0 then (some (false, h)) else ((o_getI h l0 5 4).bind fun v4 => (fX5_byteAt l0 (v4 + (nI 1)) h).bind fun v5 => (fX5_isLetter v5).bind fun v6 => if (e_b v6) = 0 then ((o_getI h l0 5 4).bind fun v7 => (o_put h l0 5 4 (.int (v7 + (nI 1)))).bind fun h8 => (o_getI h8 l0 5 6).bind fun v9 => (o_put h8 l0 5 6 (.int (v9 + (nI 1)))).bind fun h10 => (fX5_write l0 ((-1 : Int32) - v3) h10).bind fun h11 => some (true, h11)) else (some (false, h)))
def fX5_readName (l0 : Nat) (h : e_H) : Option (Bool × e_H) :=
  (o_obj h l0 5).bind fun _ => (o_getI h l0 5 5).bind fun v1 => if v1 = 0 then (fX5_readName_b27 l0 (4 : Nat) h) else ((o_getI h l0 5 5).bind fun v2 => if v2 = (nI 1) then (fX5_readName_b27 l0 (5 : Nat) h) else (fX5_readName_b27 l0 (6 : Nat) h))
def fX5_signsOf (l0 : Int32) : Option Nat :=
  if l0 = nI 0 then (some (8 : Nat)) else (if l0 = nI 1 then (some (9 : Nat)) else (if l0 = nI 2 then (some (10 : Nat)) else (if l0 = nI 3 then (some (11 : Nat)) else (some (12 : Nat)))))
def fX5_readInner_r (rec : Nat → Int32 → Int32 → Int32 → e_H → Option (Bool × e_H)) (l0 : Nat) (l1 : Int32) (l2 : Int32) (h : e_H) : Option (Bool × e_H) :=
  (o_getI h l0 5 4).bind fun v1 => (fX5_byteAt l0 v1 h).bind fun v2 => (fX5_isDigit v2).bind fun v3 => if (e_b v3) = 0 then ((fX5_isLetter v2).bind fun v4 => if (e_b v4) = 0 then (if v2 = (nI 40) then (if l1 < (nI 8) then ((o_getI h l0 5 4).bind fun v5 => (o_put h l0 5 4 (.int (v5 + (nI 1)))).bind fun h6 => (rec l0 (nI 0) (l1 + (nI 1)) l2 h6).bind fun p7 => if (e_b p7.1) = 0 then (some (false, p7.2)) else ((fX5_nextOf l0 (7 : Nat) p7.2).bind fun p8 => if 0 ≤ p8.1 then ((o_getI p8.2 l0 5 4).bind fun v9 => (o_put p8.2 l0 5 4 (.int (v9 + (nI 1)))).bind fun h10 => some (true, h10)) else (some (false, p8.2)))) else (some (false, h))) else (some (false, h))) else ((fX5_readName l0 h).bind fun p11 => some (p11.1, p11.2))) else ((fX5_readNumber l0 h).bind fun p12 => some (p12.1, p12.2))
def fX5_readPiece_b62 (rec : Nat → Int32 → Int32 → Int32 → e_H → Option (Bool × e_H)) (k62 : Nat → Int32 → Int32 → e_H → Option (Bool × e_H)) (l0 : Nat) (l3 : Int32) (l4 : Int32) (h : e_H) : Option (Bool × e_H) :=
  if l3 ≤ l4 then (some (true, h)) else ((fX5_write l0 (-33 : Int32) h).bind fun h1 => k62 l0 l3 (l4 + (nI 1)) h1)
def fX5_readPiece_L62 (rec : Nat → Int32 → Int32 → Int32 → e_H → Option (Bool × e_H)) : Nat → Nat → Int32 → Int32 → e_H → Option (Bool × e_H)
  | 0 => fun _ _ _ _ => none
  | n + 1 => fX5_readPiece_b62 rec (fX5_readPiece_L62 rec n)
def fX5_readPiece_b48 (rec : Nat → Int32 → Int32 → Int32 → e_H → Option (Bool × e_H)) (l0 : Nat) (l1 : Int32) (l2 : Int32) (l3 : Int32) (h : e_H) : Option (Bool × e_H) :=
  (fX5_readInner_r rec l0 l1 l3 h).bind fun p1 => if (e_b p1.1) = 0 then (some (false, p1.2)) else (fX5_readPiece_L62 rec 200 l0 l3 l2 p1.2)
def fX5_readPiece_b5 (rec : Nat → Int32 → Int32 → Int32 → e_H → Option (Bool × e_H)) (k5 : Nat → Int32 → Int32 → Int32 → Int32 → e_H → Option (Bool × e_H)) (l0 : Nat) (l1 : Int32) (l2 : Int32) (l3 : Int32) (l4 : Int32) (h : e_H) : Option (Bool × e_H) :=
  if (nI 96) ≤ l4 then (fX5_readPiece_b48 rec l0 l1 l2 l3 h) else ((fX5_nextOf l0 (3 : Nat) h).bind fun p1 => if p1.1 < 0 then (fX5_readPiece_b48 rec l0 l1 l2 l3 p1.2) else (if l3 < (nI 8) then ((o_getI p1.2 l0 5 4).bind fun v2 => (o_put p1.2 l0 5 4 (.int (v2 + (nI 1)))).bind fun h3 => k5 l0 l1 l2 (l3 + (nI 1)) (l4 + (nI 1)) h3) else (some (false, p1.2))))
def fX5_readPiece_L5 (rec : Nat → Int32 → Int32 → Int32 → e_H → Option (Bool × e_H)) : Nat → Nat → Int32 → Int32 → Int32 → Int32 → e_H → Option (Bool × e_H)
  | 0 => fun _ _ _ _ _ _ => none
  | n + 1 => fX5_readPiece_b5 rec (fX5_readPiece_L5 rec n)
def fX5_readPiece_r (rec : Nat → Int32 → Int32 → Int32 → e_H → Option (Bool × e_H)) (l0 : Nat) (l1 : Int32) (l2 : Int32) (h : e_H) : Option (Bool × e_H) :=
  fX5_readPiece_L5 rec 200 l0 l1 l2 l2 (nI 0) h
def fX5_readLevel_b42 (rec : Nat → Int32 → Int32 → Int32 → e_H → Option (Bool × e_H)) (k42 : Nat → Int32 → Int32 → Int32 → Int32 → Int32 → e_H → Option (Bool × e_H)) (l0 : Nat) (l1 : Int32) (l2 : Int32) (l3 : Int32) (l4 : Int32) (l5 : Int32) (h : e_H) : Option (Bool × e_H) :=
  if l4 ≤ l5 then (some (true, h)) else ((fX5_signsOf l1).bind fun v1 => (fX5_nextOf l0 v1 h).bind fun p2 => if 0 ≤ p2.1 then ((o_getI p2.2 l0 5 4).bind fun v3 => (o_put p2.2 l0 5 4 (.int (v3 + (nI 1)))).bind fun h4 => (rec l0 (l1 + (nI 1)) l2 l3 h4).bind fun p5 => if (e_b p5.1) = 0 then (some (false, p5.2)) else ((fX5_write l0 (-p2.1) p5.2).bind fun h6 => k42 l0 l1 l2 l3 l4 (l5 + (nI 1)) h6)) else (some (true, p2.2)))
def fX5_readLevel_L42 (rec : Nat → Int32 → Int32 → Int32 → e_H → Option (Bool × e_H)) : Nat → Nat → Int32 → Int32 → Int32 → Int32 → Int32 → e_H → Option (Bool × e_H)
  | 0 => fun _ _ _ _ _ _ _ => none
  | n + 1 => fX5_readLevel_b42 rec (fX5_readLevel_L42 rec n)
def fX5_readLevel_b37 (rec : Nat → Int32 → Int32 → Int32 → e_H → Option (Bool × e_H)) (l0 : Nat) (l1 : Int32) (l2 : Int32) (l3 : Int32) (t0 : Int32) (h : e_H) : Option (Bool × e_H) :=
  fX5_readLevel_L42 rec 200 l0 l1 l2 l3 t0 (nI 0) h
def fX5_readLevel_r (rec : Nat → Int32 → Int32 → Int32 → e_H → Option (Bool × e_H)) (l0 : Nat) (l1 : Int32) (l2 : Int32) (l3 : Int32) (h : e_H) : Option (Bool × e_H) :=
  if l1 < (nI 5) then ((rec l0 (l1 + (nI 1)) l2 l3 h).bind fun p1 => if (e_b p1.1) = 0 then (some (false, p1.2)) else (if l1 = (nI 2) then (fX5_readLevel_b37 rec l0 l1 l2 l3 (nI 1) p1.2) else (fX5_readLevel_b37 rec l0 l1 l2 l3 (nI 96) p1.2))) else ((fX5_readPiece_r rec l0 l2 l3 h).bind fun p2 => some (p2.1, p2.2))
def fX5_readLevel_R : Nat → Nat → Int32 → Int32 → Int32 → e_H → Option (Bool × e_H)
  | 0 => fun _ _ _ _ _ => none
  | n + 1 => fX5_readLevel_r (fX5_readLevel_R n)
def fX5_readLevel : Nat → Int32 → Int32 → Int32 → e_H → Option (Bool × e_H) := fX5_readLevel_R 100
def fX5_read_b54 (l0 : Nat) (h : e_H) : Option (Int32 × e_H) :=
  (o_getI h l0 5 4).bind fun v1 => some (v1, h)
def fX5_read (l0 : Nat) (h : e_H) : Option (Int32 × e_H) :=
  (o_obj h l0 5).bind fun _ => (o_put h l0 5 4 (.int (nI 0))).bind fun h1 => (o_put h1 l0 5 3 (.int (nI 0))).bind fun h2 => (o_put h2 l0 5 6 (.int (nI 0))).bind fun h3 => (fX5_readKey l0 h3).bind fun p4 => (o_put p4.2 l0 5 5 (.int p4.1)).bind fun h5 => (o_getI h5 l0 5 5).bind fun v6 => if v6 < 0 then (fX5_read_b54 l0 h5) else ((o_getI h5 l0 5 4).bind fun v7 => (fX5_byteAt l0 v7 h5).bind fun v8 => (fX5_isDigit v8).bind fun v9 => if (e_b v9) = 0 then ((fX5_readLevel l0 (nI 0) (nI 0) (nI 0) h5).bind fun p10 => if (e_b p10.1) = 0 then (fX5_read_b54 l0 p10.2) else ((fX5_skipBlanks l0 p10.2).bind fun h11 => (o_getI h11 l0 5 4).bind fun v12 => (o_getI h11 l0 5 0).bind fun v13 => if v13 ≤ v12 then (some ((-1 : Int32), h11)) else ((o_getI h11 l0 5 4).bind fun v14 => some (v14, h11)))) else (fX5_read_b54 l0 h5))
def fJ7_copyOf_59c91 (l0 : Nat) (l1 : Int32) (h : e_H) : Option (Option Nat × e_H) :=
  (o_len h l0 0).bind fun v1 => if l1 = v1 then (none) else ((o_newA h 0 l1 96).bind fun p2 => (o_len p2.2 l0 0).bind fun v3 => (o_cpy p2.2 l0 (nI 0) p2.1 (nI 0) (if l1 < v3 then l1 else v3)).bind fun h4 => some ((some p2.1), h4))
def fX1_init (l0 : Nat) (l1 : Int32) (l2 : Int32) (l3 : Nat) (h : e_H) : Option e_H :=
  (o_obj h l0 1).bind fun _ => (o_put h l0 1 0 (.int l1)).bind fun h1 => (o_put h1 l0 1 1 (.int l2)).bind fun h2 => (o_put h2 l0 1 2 (.ref l3)).bind fun h3 => some h3
def fX5_law (l0 : Nat) (h : e_H) : Option (Option Nat × e_H) :=
  (o_obj h l0 5).bind fun _ => (some (o_newO h 1 [.int 0, .int 0, .null])).bind fun p1 => (o_getI p1.2 l0 5 5).bind fun v2 => (o_getI p1.2 l0 5 6).bind fun v3 => (o_getR p1.2 l0 5 2).bind fun v4 => e_on v4 ((o_getI p1.2 l0 5 3).bind fun v6 => none) (fun a5 => (o_getI p1.2 l0 5 3).bind fun v7 => (fJ7_copyOf_59c91 a5 (if (nI 0) < v7 then v7 else (nI 0)) p1.2).bind fun p8 => e_on p8.1 (none) (fun a10 => (fX1_init p1.1 v2 v3 a10 p8.2).bind fun h11 => some ((some p1.1), h11)))
def fX7_addLaw (l0 : Nat) (l1 : Nat) (h : e_H) : Option (Int32 × e_H) :=
  (o_obj h l0 7).bind fun _ => (o_getI h l0 7 1).bind fun v1 => if v1 < 0 then (some ((-1000000003 : Int32), h)) else ((o_getI h l0 7 1).bind fun v2 => (o_getR h l0 7 4).bind fun v3 => e_on v3 (none) (fun a4 => (o_len h a4 5).bind fun v5 => if v2 < v5 then ((o_getR h l0 7 4).bind fun v6 => e_on v6 ((o_getI h l0 7 1).bind fun v8 => none) (fun a7 => (o_getI h l0 7 1).bind fun v10 => (o_stQ h a7 5 v10 l1).bind fun h11 => (o_getI h11 l0 7 1).bind fun v12 => (o_put h11 l0 7 1 (.int (v12 + (nI 1)))).bind fun h13 => (o_getI h13 l0 7 1).bind fun v14 => some ((v14 - (nI 1)), h13))) else (some ((-1000000003 : Int32), h))))
def fX8_text (l0 : Nat) (h : e_H) : Option (Int32 × e_H) :=
  (o_obj h l0 8).bind fun _ => (o_getR h l0 8 4).bind fun v1 => e_on v1 (none) (fun a2 => (fX5_read a2 h).bind fun p3 => (o_getR p3.2 l0 8 4).bind fun v4 => e_on v4 (none) (fun a5 => (o_put p3.2 a5 5 0 (.int (nI 0))).bind fun h6 => if p3.1 < 0 then ((o_getR h6 l0 8 0).bind fun v7 => e_on v7 (none) (fun a8 => (o_getI h6 a8 7 1).bind fun v9 => if v9 < (nI 14) then ((o_getR h6 l0 8 0).bind fun v10 => e_on v10 ((o_getR h6 l0 8 4).bind fun v12 => e_on v12 (none) (fun a13 => (fX5_law a13 h6).bind fun p14 => e_on p14.1 (none) (fun a16 => none))) (fun a11 => (o_getR h6 l0 8 4).bind fun v17 => e_on v17 (none) (fun a18 => (fX5_law a18 h6).bind fun p19 => e_on p19.1 (none) (fun a21 => (fX7_addLaw a11 a21 p19.2).bind fun p22 => some (p22.1, p22.2))))) else (some ((-1000000003 : Int32), h6)))) else (some (((-100 : Int32) - p3.1), h6))))
def fX8_textTold (l0 : Nat) (l1 : Int32) (l2 : Int32) (h : e_H) : Option Int32 :=
  (o_obj h l0 8).bind fun _ => (o_getR h l0 8 0).bind fun v1 => e_on v1 (none) (fun a2 => (fX7_lawAt a2 l1 h).bind fun v3 => e_on v3 (some (-1000000001 : Int32)) (fun a4 => if l2 < 0 then (some (-1000000001 : Int32)) else (if l2 ≤ (nI 1) then (if l2 = 0 then ((o_getI h a4 1 0).bind fun v5 => some v5) else ((o_getI h a4 1 1).bind fun v6 => some v6)) else (some (-1000000001 : Int32)))))
def fX8_why (l0 : Nat) (l1 : Int32) (h : e_H) : Option Int32 :=
  (o_obj h l0 8).bind fun _ => if l1 < 0 then (some (-1000000001 : Int32)) else (if l1 ≤ (nI 2) then ((o_getR h l0 8 0).bind fun v1 => e_on v1 (none) (fun a2 => (fX7_lastLawOf a2 l1 h).bind fun v3 => if 0 ≤ v3 then (some v3) else (some (-1000000005 : Int32)))) else (some (-1000000001 : Int32)))
def fX8_sheetOf (l0 : Nat) (l1 : Int32) (h : e_H) : Option (Option Nat) :=
  (o_obj h l0 8).bind fun _ => if l1 < 0 then (some none) else ((o_getR h l0 8 5).bind fun v1 => e_on v1 (none) (fun a2 => (o_len h a2 6).bind fun v3 => if l1 < v3 then ((o_getR h l0 8 5).bind fun v4 => e_on v4 (none) (fun a5 => (o_ldR h a5 6 l1).bind fun v7 => e_on v7 (some none) (fun a8 => some (some a8)))) else (some none)))
def fX2_becomesEmpty (l0 : Nat) (l1 : Int32) (l2 : Int32) (h : e_H) : Option e_H :=
  (o_obj h l0 2).bind fun _ => (o_put h l0 2 0 (.int l1)).bind fun h1 => (o_put h1 l0 2 1 (.int l2)).bind fun h2 => (o_getR h2 l0 2 2).bind fun v3 => e_on v3 (none) (fun a4 => (fJ7_fill_53178 a4 (nI 0) h2).bind fun h5 => some h5)
def fX8_sheet (l0 : Nat) (l1 : Int32) (l2 : Int32) (l3 : Int32) (h : e_H) : Option (Int32 × e_H) :=
  (o_obj h l0 8).bind fun _ => (fX8_sheetOf l0 l1 h).bind fun v1 => e_on v1 (some ((-1000000001 : Int32), h)) (fun a2 => if l2 < (-1 : Int32) then (some ((-1000000001 : Int32), h)) else (if l2 ≤ (nI 1) then (if l2 = (-1 : Int32) then ((fX2_becomesEmpty a2 (-1 : Int32) (nI 0) h).bind fun h3 => some ((nI 0), h3)) else (if l3 ≤ (nI 24) then (if 0 ≤ l3 then ((fX2_becomesEmpty a2 l2 l3 h).bind fun h4 => some (l3, h4)) else (some ((-1000000014 : Int32), h))) else (some ((-1000000001 : Int32), h)))) else (some ((-1000000001 : Int32), h))))
def fX2_hasPlace (l0 : Nat) (l1 : Int32) (h : e_H) : Option Bool :=
  (o_obj h l0 2).bind fun _ => if l1 < 0 then (some false) else ((o_getI h l0 2 1).bind fun v1 => if v1 ≤ l1 then (some false) else ((o_getR h l0 2 2).bind fun v2 => e_on v2 (none) (fun a3 => (o_len h a3 0).bind fun v4 => if v4 ≤ l1 then (some false) else (some true))))
def fX2_setPlace (l0 : Nat) (l1 : Int32) (l2 : Int32) (h : e_H) : Option e_H :=
  (o_obj h l0 2).bind fun _ => (fX2_hasPlace l0 l1 h).bind fun v1 => if (e_b v1) = 0 then (some h) else ((o_getR h l0 2 2).bind fun v2 => e_on v2 (none) (fun a3 => (o_stI h a3 0 l1 l2).bind fun h5 => some h5))
def fX8_mark_b91 (l2 : Int32) (l3 : Int32) (l4 : Nat) (h : e_H) : Option (Int32 × e_H) :=
  (fX2_setPlace l4 l2 l3 h).bind fun h1 => some ((nI 1), h1)
def fX8_mark (l0 : Nat) (l1 : Int32) (l2 : Int32) (l3 : Int32) (h : e_H) : Option (Int32 × e_H) :=
  (o_obj h l0 8).bind fun _ => (fX8_sheetOf l0 l1 h).bind fun v1 => e_on v1 (some ((-1000000001 : Int32), h)) (fun a2 => (o_getI h a2 2 0).bind fun v3 => if v3 = (-1 : Int32) then (some ((-1000000011 : Int32), h)) else ((fX2_hasPlace a2 l2 h).bind fun v4 => if (e_b v4) = 0 then (some ((-1000000013 : Int32), h)) else ((o_getI h a2 2 0).bind fun v5 => if v5 = 0 then (if l3 = (-1000000005 : Int32) then (some ((-1000000012 : Int32), h)) else ((fX2_setPlace a2 l2 (l3).toInt16.toInt32 h).bind fun h6 => some ((nI 1), h6))) else (if l3 = (-1000000005 : Int32) then (fX8_mark_b91 l2 l3 a2 h) else (if l3 < (-99999 : Int32) then (some ((-1000000001 : Int32), h)) else (if l3 ≤ (99999 : Int32) then (fX8_mark_b91 l2 l3 a2 h) else (some ((-1000000001 : Int32), h))))))))
def fX2_placeAt (l0 : Nat) (l1 : Int32) (h : e_H) : Option Int32 :=
  (o_obj h l0 2).bind fun _ => (fX2_hasPlace l0 l1 h).bind fun v1 => if (e_b v1) = 0 then (some (nI 0)) else ((o_getR h l0 2 2).bind fun v2 => e_on v2 (none) (fun a3 => (o_ldI h a3 0 l1).bind fun v4 => some v4))
def fX8_pour_b107 (k46 : Nat → Nat → Int32 → Int32 → e_H → Option (Int32 × e_H)) (l3 : Nat) (l4 : Nat) (l5 : Int32) (l6 : Int32) (h : e_H) : Option (Int32 × e_H) :=
  k46 l3 l4 l5 (l6 + (nI 1)) h
def fX8_pour_b46 (k46 : Nat → Nat → Int32 → Int32 → e_H → Option (Int32 × e_H)) (l3 : Nat) (l4 : Nat) (l5 : Int32) (l6 : Int32) (h : e_H) : Option (Int32 × e_H) :=
  if (nI 15) ≤ l6 then (some (l5, h)) else ((o_getI h l3 2 1).bind fun v1 => if v1 ≤ l6 then (some (l5, h)) else ((fX2_placeAt l3 l6 h).bind fun v2 => if v2 = (-1000000005 : Int32) then (fX8_pour_b107 k46 l3 l4 l5 l6 h) else ((fX8_held v2).bind fun v3 => (fX0_numberAt l4 l6 h).bind fun v4 => if v3 = v4 then (fX8_pour_b107 k46 l3 l4 l5 l6 h) else ((fX8_held v2).bind fun v5 => (fX0_setNumber l4 l6 v5 h).bind fun h6 => fX8_pour_b107 k46 l3 l4 (l5 + (nI 1)) l6 h6))))
def fX8_pour_L46 : Nat → Nat → Nat → Int32 → Int32 → e_H → Option (Int32 × e_H)
  | 0 => fun _ _ _ _ _ => none
  | n + 1 => fX8_pour_b46 (fX8_pour_L46 n)
def fX8_pour (l0 : Nat) (l1 : Int32) (l2 : Int32) (h : e_H) : Option (Int32 × e_H) :=
  (o_obj h l0 8).bind fun _ => (fX8_sheetOf l0 l1 h).bind fun v1 => e_on v1 ((o_getR h l0 8 0).bind fun v3 => e_on v3 (none) (fun a4 => (fX7_curveOf a4 l2 h).bind fun v5 => e_on v5 (some ((-1000000001 : Int32), h)) (fun a6 => some ((-1000000001 : Int32), h)))) (fun a2 => (o_getR h l0 8 0).bind fun v7 => e_on v7 (none) (fun a8 => (fX7_curveOf a8 l2 h).bind fun v9 => e_on v9 (some ((-1000000001 : Int32), h)) (fun a10 => (o_getI h a2 2 0).bind fun v11 => if v11 = (-1 : Int32) then (some ((-1000000011 : Int32), h)) else (fX8_pour_L46 200 a2 a10 (nI 0) (nI 0) h))))
def fX2_hasRun (l0 : Nat) (l1 : Int32) (l2 : Int32) (h : e_H) : Option Bool :=
  (o_obj h l0 2).bind fun _ => if l2 < 0 then (some false) else ((o_getI h l0 2 1).bind fun v1 => if v1 < l2 then (some false) else (if l1 < 0 then (some false) else ((o_getI h l0 2 1).bind fun v2 => if (v2 - l2) < l1 then (some false) else (some true))))
def fX8_copy (l0 : Nat) (l1 : Int32) (l2 : Int32) (l3 : Int32) (l4 : Int32) (l5 : Int32) (h : e_H) : Option (Int32 × e_H) :=
  (o_obj h l0 8).bind fun _ => (fX8_sheetOf l0 l1 h).bind fun v1 => e_on v1 ((fX8_sheetOf l0 l3 h).bind fun v3 => e_on v3 (some ((-1000000001 : Int32), h)) (fun a4 => some ((-1000000001 : Int32), h))) (fun a2 => (fX8_sheetOf l0 l3 h).bind fun v5 => e_on v5 (some ((-1000000001 : Int32), h)) (fun a6 => (o_getI h a2 2 0).bind fun v7 => if v7 = (-1 : Int32) then (some ((-1000000011 : Int32), h)) else ((o_getI h a6 2 0).bind fun v8 => if v8 = (-1 : Int32) then (some ((-1000000011 : Int32), h)) else ((o_getI h a2 2 0).bind fun v9 => (o_getI h a6 2 0).bind fun v10 => if v9 = v10 then ((fX2_hasRun a2 l2 l5 h).bind fun v11 => if (e_b v11) = 0 then (some ((-1000000013 : Int32), h)) else ((fX2_hasRun a6 l4 l5 h).bind fun v12 => if (e_b v12) = 0 then (some ((-1000000013 : Int32), h)) else ((o_getR h a2 2 2).bind fun v13 => e_on v13 ((o_getR h a6 2 2).bind fun v15 => e_on v15 (none) (fun a16 => none)) (fun a14 => (o_getR h a6 2 2).bind fun v17 => e_on v17 (none) (fun a18 => (o_cpy h a14 l2 a18 l4 l5).bind fun h19 => some (l5, h19)))))) else (some ((-1000000012 : Int32), h))))))
def fX8_slotOf (l0 : Nat) (l1 : Int32) (h : e_H) : Option (Option Nat) :=
  (o_obj h l0 8).bind fun _ => if l1 < 0 then (some none) else ((o_getR h l0 8 6).bind fun v1 => e_on v1 (none) (fun a2 => (o_len h a2 7).bind fun v3 => if l1 < v3 then ((o_getR h l0 8 6).bind fun v4 => e_on v4 (none) (fun a5 => (o_ldR h a5 7 l1).bind fun v7 => e_on v7 (some none) (fun a8 => some (some a8)))) else (some none)))
def fX0_becomes (l0 : Nat) (l1 : Nat) (h : e_H) : Option e_H :=
  (o_obj h l0 0).bind fun _ => (o_getI h l1 0 0).bind fun v1 => (o_put h l0 0 0 (.int v1)).bind fun h2 => (o_getR h2 l1 0 1).bind fun v3 => e_on v3 ((o_getR h2 l0 0 1).bind fun v5 => e_on v5 (none) (fun a6 => none)) (fun a4 => (o_getR h2 l0 0 1).bind fun v7 => e_on v7 (none) (fun a8 => (o_cpy h2 a4 (nI 0) a8 (nI 0) (nI 15)).bind fun h9 => some h9))
def fX2_becomes (l0 : Nat) (l1 : Nat) (h : e_H) : Option e_H :=
  (o_obj h l0 2).bind fun _ => (o_getI h l1 2 0).bind fun v1 => (o_put h l0 2 0 (.int v1)).bind fun h2 => (o_getI h2 l1 2 1).bind fun v3 => (o_put h2 l0 2 1 (.int v3)).bind fun h4 => (o_getR h4 l1 2 2).bind fun v5 => e_on v5 ((o_getR h4 l0 2 2).bind fun v7 => e_on v7 (none) (fun a8 => none)) (fun a6 => (o_getR h4 l0 2 2).bind fun v9 => e_on v9 (none) (fun a10 => (o_cpy h4 a6 (nI 0) a10 (nI 0) (nI 24)).bind fun h11 => some h11))
def fX8_lay_b117 (l2 : Int32) (l4 : Nat) (h : e_H) : Option (Int32 × e_H) :=
  (o_getI h l4 4 0).bind fun v1 => (o_put h l4 4 0 (.int l2)).bind fun h2 => some (v1, h2)
def fX8_lay (l0 : Nat) (l1 : Int32) (l2 : Int32) (l3 : Int32) (h : e_H) : Option (Int32 × e_H) :=
  (o_obj h l0 8).bind fun _ => (fX8_slotOf l0 l1 h).bind fun v1 => e_on v1 (some ((-1000000001 : Int32), h)) (fun a2 => if l2 < 0 then (some ((-1000000001 : Int32), h)) else (if l2 ≤ (nI 3) then (if l2 = (nI 1) then ((o_getR h l0 8 0).bind fun v3 => e_on v3 (none) (fun a4 => (fX7_curveOf a4 l3 h).bind fun v5 => e_on v5 (some ((-1000000001 : Int32), h)) (fun a6 => (o_getR h a2 4 2).bind fun v7 => e_on v7 (none) (fun a8 => (fX0_becomes a8 a6 h).bind fun h9 => fX8_lay_b117 l2 a2 h9)))) else (if l2 = (nI 2) then ((fX8_sheetOf l0 l3 h).bind fun v10 => e_on v10 (some ((-1000000001 : Int32), h)) (fun a11 => (o_getI h a11 2 0).bind fun v12 => if v12 = (-1 : Int32) then (some ((-1000000011 : Int32), h)) else ((o_getR h a2 4 3).bind fun v13 => e_on v13 (none) (fun a14 => (fX2_becomes a14 a11 h).bind fun h15 => fX8_lay_b117 l2 a2 h15)))) else (if l2 = (nI 3) then ((o_put h a2 4 1 (.int l3)).bind fun h16 => fX8_lay_b117 l2 a2 h16) else (fX8_lay_b117 l2 a2 h)))) else (some ((-1000000001 : Int32), h))))
def fX8_ask (l0 : Nat) (l1 : Int32) (l2 : Int32) (h : e_H) : Option Int32 :=
  (o_obj h l0 8).bind fun _ => (fX8_slotOf l0 l1 h).bind fun v1 => e_on v1 (some (-1000000001 : Int32)) (fun a2 => (fX8_isKind l2).bind fun v3 => if (e_b v3) = 0 then (some (-1000000001 : Int32)) else ((o_getI h a2 4 0).bind fun v4 => if v4 = 0 then (some (-1000000011 : Int32)) else ((o_getI h a2 4 0).bind fun v5 => if v5 = (nI 1) then ((o_getR h a2 4 2).bind fun v6 => e_on v6 (none) (fun a7 => (fX0_isOf a7 l2 h).bind fun v8 => if (e_b v8) = 0 then (some (-1000000012 : Int32)) else ((o_getR h a2 4 2).bind fun v9 => e_on v9 (none) (fun a10 => (fX0_worth a10 h).bind fun v11 => some v11)))) else (some (-1000000012 : Int32)))))
def fX8_item (l0 : Nat) (l1 : Int32) (l2 : Int32) (h : e_H) : Option Int32 :=
  (o_obj h l0 8).bind fun _ => (fX8_slotOf l0 l1 h).bind fun v1 => e_on v1 (some (-1000000001 : Int32)) (fun a2 => (o_getI h a2 4 0).bind fun v3 => if v3 = 0 then (some (-1000000011 : Int32)) else ((o_getI h a2 4 0).bind fun v4 => if v4 = (nI 2) then ((o_getR h a2 4 3).bind fun v5 => e_on v5 (none) (fun a6 => (fX2_hasPlace a6 l2 h).bind fun v7 => if (e_b v7) = 0 then (some (-1000000013 : Int32)) else ((o_getR h a2 4 3).bind fun v8 => e_on v8 (none) (fun a9 => (fX2_placeAt a9 l2 h).bind fun v10 => if v10 = (-1000000005 : Int32) then (some (-1000000012 : Int32)) else (some v10))))) else (some (-1000000012 : Int32))))
def fX8_rest (l0 : Nat) (l1 : Int32) (l2 : Int32) (h : e_H) : Option Int32 :=
  (o_obj h l0 8).bind fun _ => (fX8_slotOf l0 l1 h).bind fun v1 => e_on v1 (some (-1000000001 : Int32)) (fun a2 => (o_getI h a2 4 0).bind fun v3 => if v3 = 0 then (some (-1000000011 : Int32)) else ((o_getI h a2 4 0).bind fun v4 => if v4 = (nI 3) then (if l2 = 0 then (some (-1000000002 : Int32)) else ((o_getI h a2 4 1).bind fun v5 => if l2 = 0 then none else some (v5 - v5 / l2 * l2))) else (some (-1000000012 : Int32))))
def fX8_tell (l0 : Nat) (l1 : Int32) (h : e_H) : Option (Int32 × e_H) :=
  (o_obj h l0 8).bind fun _ => (o_getI h l0 8 8).bind fun v1 => if v1 < 0 then (some ((-1000000003 : Int32), h)) else ((o_getI h l0 8 8).bind fun v2 => (o_getR h l0 8 7).bind fun v3 => e_on v3 (none) (fun a4 => (o_len h a4 0).bind fun v5 => if v2 < v5 then ((o_getR h l0 8 7).bind fun v6 => e_on v6 ((o_getI h l0 8 8).bind fun v8 => none) (fun a7 => (o_getI h l0 8 8).bind fun v10 => (o_stI h a7 0 v10 l1).bind fun h11 => (o_getI h11 l0 8 8).bind fun v12 => (o_put h11 l0 8 8 (.int (v12 + (nI 1)))).bind fun h13 => (o_getI h13 l0 8 8).bind fun v14 => some (v14, h13))) else (some ((-1000000003 : Int32), h))))
def fX6_stands (l0 : Nat) (l1 : Int32) (l2 : Int32) (l3 : Int32) (h : e_H) : Option Bool :=
  if l2 < 0 then (some false) else (if l1 ≤ l2 then (some false) else ((o_len h l0 0).bind fun v1 => if v1 ≤ l2 then (some false) else ((o_ldI h l0 0 l2).bind fun v2 => if v2 = l3 then (some true) else (some false))))
def fX6_compareTold_b96 (h : e_H) (l2 : Int32) (l4 : Int32) : Option Int32 :=
  if l4 = l2 then (some (nI 0)) else (some ((nI 1) + l4))
def fX6_compareTold_b90 (h : e_H) (k9 : Nat → Nat → Int32 → Int32 → Int32 → Int32 → Int32 → Option Int32) (l0 : Nat) (l1 : Nat) (l2 : Int32) (l3 : Int32) (l4 : Int32) (l5 : Int32) (l6 : Int32) : Option Int32 :=
  k9 l0 l1 l2 l3 l4 l5 (l6 + (nI 1))
def fX6_compareTold_b9 (h : e_H) (k9 : Nat → Nat → Int32 → Int32 → Int32 → Int32 → Int32 → Option Int32) (l0 : Nat) (l1 : Nat) (l2 : Int32) (l3 : Int32) (l4 : Int32) (l5 : Int32) (l6 : Int32) : Option Int32 :=
  (o_getR h l0 6 5).bind fun v1 => e_on v1 (none) (fun a2 => (o_len h a2 0).bind fun v3 => if v3 ≤ l6 then (fX6_compareTold_b96 h l2 l4) else (if l3 ≤ l5 then (fX6_compareTold_b96 h l2 l4) else ((o_getR h l0 6 5).bind fun v4 => e_on v4 (none) (fun a5 => (o_ldI h a5 0 l6).bind fun v6 => if (nI 1) ≤ v6 then ((fX6_toldPlace l6).bind fun v7 => (fX6_stands l1 l2 l4 v7 h).bind fun v8 => if (e_b v8) = 0 then (some ((nI 1) + l4)) else ((o_getR h l0 6 5).bind fun v9 => e_on v9 (none) (fun a10 => (o_ldI h a10 0 l6).bind fun v11 => (fX6_stands l1 l2 (l4 + (nI 1)) v11 h).bind fun v12 => if (e_b v12) = 0 then (some ((nI 1) + (l4 + (nI 1)))) else (fX6_compareTold_b90 h k9 l0 l1 l2 l3 ((l4 + (nI 1)) + (nI 1)) (l5 + (nI 1)) l6)))) else (fX6_compareTold_b90 h k9 l0 l1 l2 l3 l4 l5 l6)))))
def fX6_compareTold_L9 (h : e_H) : Nat → Nat → Nat → Int32 → Int32 → Int32 → Int32 → Int32 → Option Int32
  | 0 => fun _ _ _ _ _ _ _ => none
  | n + 1 => fX6_compareTold_b9 h (fX6_compareTold_L9 h n)
def fX6_compareTold (l0 : Nat) (l1 : Nat) (l2 : Int32) (l3 : Int32) (h : e_H) : Option Int32 :=
  (o_obj h l0 6).bind fun _ => fX6_compareTold_L9 h 200 l0 l1 l2 l3 (nI 0) (nI 0) (nI 0)
def fX8_check (l0 : Nat) (l1 : Int32) (l2 : Int32) (h : e_H) : Option (Int32 × e_H) :=
  (o_obj h l0 8).bind fun _ => (o_getI h l0 8 8).bind fun v1 => (o_put h l0 8 8 (.int (nI 0))).bind fun h2 => if l2 < (nI 1) then (some ((-1000000001 : Int32), h2)) else (if l2 ≤ (nI 30) then ((o_getI h2 l0 8 9).bind fun v3 => if v3 = 0 then (some ((-1000000002 : Int32), h2)) else ((o_getR h2 l0 8 1).bind fun v4 => e_on v4 (none) (fun a5 => (fX7_curveOf a5 l1 h2).bind fun v6 => e_on v6 (some ((-1000000001 : Int32), h2)) (fun a7 => (o_getR h2 l0 8 3).bind fun v8 => e_on v8 (none) (fun a9 => (fX6_walk a9 a7 h2).bind fun h10 => (o_getR h10 l0 8 3).bind fun v11 => e_on v11 ((o_getR h10 l0 8 7).bind fun v13 => e_on v13 (none) (fun a14 => none)) (fun a12 => (o_getR h10 l0 8 7).bind fun v15 => e_on v15 (none) (fun a16 => (fX6_compareTold a12 a16 v1 l2 h10).bind fun v17 => some (v17, h10)))))))) else (some ((-1000000001 : Int32), h2)))
def fX7_becomes_b79 (l0 : Nat) (l1 : Nat) (h : e_H) : Option e_H :=
  (o_getI h l1 7 0).bind fun v1 => (o_put h l0 7 0 (.int v1)).bind fun h2 => (o_getI h2 l1 7 1).bind fun v3 => (o_put h2 l0 7 1 (.int v3)).bind fun h4 => (o_getI h4 l1 7 2).bind fun v5 => (o_put h4 l0 7 2 (.int v5)).bind fun h6 => some h6
def fX7_becomes_b43 (k43 : Nat → Nat → Int32 → e_H → Option e_H) (l0 : Nat) (l1 : Nat) (l2 : Int32) (h : e_H) : Option e_H :=
  (o_getR h l0 7 4).bind fun v1 => e_on v1 (none) (fun a2 => (o_len h a2 5).bind fun v3 => if v3 ≤ l2 then (fX7_becomes_b79 l0 l1 h) else ((o_getR h l1 7 4).bind fun v4 => e_on v4 (none) (fun a5 => (o_len h a5 5).bind fun v6 => if v6 ≤ l2 then (fX7_becomes_b79 l0 l1 h) else ((o_getR h l0 7 4).bind fun v7 => e_on v7 ((o_getR h l1 7 4).bind fun v9 => e_on v9 (none) (fun a10 => (o_ldR h a10 5 l2).bind fun v12 => e_on v12 (none) (fun a13 => none))) (fun a8 => (o_getR h l1 7 4).bind fun v16 => e_on v16 (none) (fun a17 => (o_ldR h a17 5 l2).bind fun v19 => e_on v19 ((o_stN h a8 5 l2).bind fun h21 => k43 l0 l1 (l2 + (nI 1)) h21) (fun a20 => (o_stQ h a8 5 l2 a20).bind fun h22 => k43 l0 l1 (l2 + (nI 1)) h22)))))))
def fX7_Lecomes_L43 : Nat → Nat → Nat → Int32 → e_H → Option e_H
  | 0 => fun _ _ _ _ => none
  | n + 1 => fX7_becomes_b43 (fX7_Lecomes_L43 n)
def fX7_becomes_b41 (l0 : Nat) (l1 : Nat) (h : e_H) : Option e_H :=
  fX7_Lecomes_L43 200 l0 l1 (nI 0) h
def fX7_becomes_b2 (k2 : Nat → Nat → Int32 → e_H → Option e_H) (l0 : Nat) (l1 : Nat) (l2 : Int32) (h : e_H) : Option e_H :=
  (o_getR h l0 7 3).bind fun v1 => e_on v1 (none) (fun a2 => (o_len h a2 4).bind fun v3 => if v3 ≤ l2 then (fX7_becomes_b41 l0 l1 h) else ((o_getR h l1 7 3).bind fun v4 => e_on v4 (none) (fun a5 => (o_len h a5 4).bind fun v6 => if v6 ≤ l2 then (fX7_becomes_b41 l0 l1 h) else ((o_getR h l0 7 3).bind fun v7 => e_on v7 (none) (fun a8 => (o_ldR h a8 4 l2).bind fun v10 => e_on v10 ((o_getR h l1 7 3).bind fun v12 => e_on v12 (none) (fun a13 => (o_ldR h a13 4 l2).bind fun v15 => e_on v15 (none) (fun a16 => none))) (fun a11 => (o_getR h l1 7 3).bind fun v17 => e_on v17 (none) (fun a18 => (o_ldR h a18 4 l2).bind fun v20 => e_on v20 (none) (fun a21 => (fX0_becomes a11 a21 h).bind fun h22 => k2 l0 l1 (l2 + (nI 1)) h22))))))))
def fX7_Lecomes_L2 : Nat → Nat → Nat → Int32 → e_H → Option e_H
  | 0 => fun _ _ _ _ => none
  | n + 1 => fX7_becomes_b2 (fX7_Lecomes_L2 n)
def fX7_becomes (l0 : Nat) (l1 : Nat) (h : e_H) : Option e_H :=
  (o_obj h l0 7).bind fun _ => fX7_Lecomes_L2 200 l0 l1 (nI 0) h
def fX8_keep (l0 : Nat) (h : e_H) : Option (Int32 × e_H) :=
  (o_obj h l0 8).bind fun _ => (o_getR h l0 8 1).bind fun v1 => e_on v1 ((o_getR h l0 8 0).bind fun v3 => e_on v3 (none) (fun a4 => none)) (fun a2 => (o_getR h l0 8 0).bind fun v5 => e_on v5 (none) (fun a6 => (fX7_becomes a2 a6 h).bind fun h7 => (o_put h7 l0 8 9 (.int (nI 1))).bind fun h8 => (o_getR h8 l0 8 1).bind fun v9 => e_on v9 (none) (fun a10 => (o_getI h8 a10 7 0).bind fun v11 => some (v11, h8))))
def fX8_back (l0 : Nat) (h : e_H) : Option (Int32 × e_H) :=
  (o_obj h l0 8).bind fun _ => (o_getI h l0 8 9).bind fun v1 => if v1 = 0 then (some ((-1000000002 : Int32), h)) else ((o_getR h l0 8 0).bind fun v2 => e_on v2 ((o_getR h l0 8 1).bind fun v4 => e_on v4 (none) (fun a5 => none)) (fun a3 => (o_getR h l0 8 1).bind fun v6 => e_on v6 (none) (fun a7 => (fX7_becomes a3 a7 h).bind fun h8 => (o_getR h8 l0 8 0).bind fun v9 => e_on v9 (none) (fun a10 => (o_getI h8 a10 7 0).bind fun v11 => some (v11, h8)))))
def fX8_count (l0 : Nat) (l1 : Int32) (h : e_H) : Option Int32 :=
  (o_obj h l0 8).bind fun _ => if l1 = nI 0 then ((o_getR h l0 8 0).bind fun v1 => e_on v1 (none) (fun a2 => (o_getI h a2 7 0).bind fun v3 => some v3)) else (if l1 = nI 1 then ((o_getR h l0 8 0).bind fun v4 => e_on v4 (none) (fun a5 => (o_getI h a5 7 1).bind fun v6 => some v6)) else (if l1 = nI 2 then ((o_getI h l0 8 8).bind fun v7 => some v7) else (if l1 = nI 3 then ((o_getR h l0 8 4).bind fun v8 => e_on v8 (none) (fun a9 => (o_getI h a9 5 0).bind fun v10 => some v10)) else (if l1 = nI 4 then ((o_getR h l0 8 0).bind fun v11 => e_on v11 (none) (fun a12 => (o_getI h a12 7 2).bind fun v13 => some v13)) else (some (-1000000001 : Int32))))))
