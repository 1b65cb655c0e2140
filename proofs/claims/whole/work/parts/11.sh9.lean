def fX9_init (l0 : Nat) (h : e_H) : Option e_H :=
  (o_obj h l0 9).bind fun _ => (o_newA h 0 (nI 1471) 1471).bind fun p1 => (o_put p1.2 l0 9 0 (.ref p1.1)).bind fun h2 => (o_newA h2 0 (nI 1471) 1471).bind fun p3 => (o_put p3.2 l0 9 1 (.ref p3.1)).bind fun h4 => (o_newA h4 0 (nI 1471) 1471).bind fun p5 => (o_put p5.2 l0 9 2 (.ref p5.1)).bind fun h6 => (o_newA h6 0 (nI 25) 25).bind fun p7 => (o_put p7.2 l0 9 4 (.ref p7.1)).bind fun h8 => (o_newA h8 1 (nI 3400) 3400).bind fun p9 => (o_put p9.2 l0 9 5 (.ref p9.1)).bind fun h10 => (o_newA h10 1 (nI 5) 5).bind fun p11 => (o_put p11.2 l0 9 6 (.ref p11.1)).bind fun h12 => (o_newA h12 0 (nI 40) 40).bind fun p13 => (o_put p13.2 l0 9 10 (.ref p13.1)).bind fun h14 => (o_newA h14 3 (nI 121) 121).bind fun p15 => (o_put p15.2 l0 9 11 (.ref p15.1)).bind fun h16 => (o_newA h16 0 (nI 96) 96).bind fun p17 => (o_put p17.2 l0 9 12 (.ref p17.1)).bind fun h18 => (o_newA h18 2 (nI 13) 13).bind fun p19 => (o_stI p19.2 p19.1 2 (nI 0) (vp_nar .char (nI 116))).bind fun h20 => (o_stI h20 p19.1 2 (nI 1) (vp_nar .char (nI 101))).bind fun h21 => (o_stI h21 p19.1 2 (nI 2) (vp_nar .char (nI 114))).bind fun h22 => (o_stI h22 p19.1 2 (nI 3) (vp_nar .char (nI 109))).bind fun h23 => (o_stI h23 p19.1 2 (nI 4) (vp_nar .char (nI 115))).bind fun h24 => (o_stI h24 p19.1 2 (nI 5) (vp_nar .char (nI 108))).bind fun h25 => (o_stI h25 p19.1 2 (nI 6) (vp_nar .char (nI 111))).bind fun h26 => (o_stI h26 p19.1 2 (nI 7) (vp_nar .char (nI 112))).bind fun h27 => (o_stI h27 p19.1 2 (nI 8) (vp_nar .char (nI 101))).bind fun h28 => (o_stI h28 p19.1 2 (nI 9) (vp_nar .char (nI 109))).bind fun h29 => (o_stI h29 p19.1 2 (nI 10) (vp_nar .char (nI 97))).bind fun h30 => (o_stI h30 p19.1 2 (nI 11) (vp_nar .char (nI 114))).bind fun h31 => (o_stI h31 p19.1 2 (nI 12) (vp_nar .char (nI 107))).bind fun h32 => (o_put h32 l0 9 20 (.ref p19.1)).bind fun h33 => (o_newA h33 0 (nI 4) 4).bind fun p34 => (o_stI p34.2 p34.1 0 (nI 0) (nI 0)).bind fun h35 => (o_stI h35 p34.1 0 (nI 1) (nI 4)).bind fun h36 => (o_stI h36 p34.1 0 (nI 2) (nI 9)).bind fun h37 => (o_stI h37 p34.1 0 (nI 3) (nI 13)).bind fun h38 => (o_put h38 l0 9 21 (.ref p34.1)).bind fun h39 => (o_newA h39 0 (nI 96) 96).bind fun p40 => (o_put p40.2 l0 9 22 (.ref p40.1)).bind fun h41 => (o_newA h41 0 (nI 96) 96).bind fun p42 => (o_put p42.2 l0 9 25 (.ref p42.1)).bind fun h43 => (o_newA h43 3 (nI 10) 10).bind fun p44 => (o_put p44.2 l0 9 27 (.ref p44.1)).bind fun h45 => (o_newA h45 0 (nI 96) 96).bind fun p46 => (o_put p46.2 l0 9 28 (.ref p46.1)).bind fun h47 => (o_newA h47 0 (nI 4) 4).bind fun p48 => (o_put p48.2 l0 9 29 (.ref p48.1)).bind fun h49 => (o_newA h49 0 (nI 4) 4).bind fun p50 => (o_stI p50.2 p50.1 0 (nI 0) (-1 : Int32)).bind fun h51 => (o_stI h51 p50.1 0 (nI 1) (-1 : Int32)).bind fun h52 => (o_stI h52 p50.1 0 (nI 2) (-1 : Int32)).bind fun h53 => (o_stI h53 p50.1 0 (nI 3) (-1 : Int32)).bind fun h54 => (o_put h54 l0 9 30 (.ref p50.1)).bind fun h55 => (o_newA h55 0 (nI 4) 4).bind fun p56 => (o_put p56.2 l0 9 31 (.ref p56.1)).bind fun h57 => (o_newA h57 0 (nI 96) 96).bind fun p58 => (o_put p58.2 l0 9 32 (.ref p58.1)).bind fun h59 => (o_newA h59 0 (nI 5) 5).bind fun p60 => (o_put p60.2 l0 9 33 (.ref p60.1)).bind fun h61 => (o_newA h61 0 (nI 5) 5).bind fun p62 => (o_put p62.2 l0 9 34 (.ref p62.1)).bind fun h63 => (o_newA h63 0 (nI 5) 5).bind fun p64 => (o_put p64.2 l0 9 35 (.ref p64.1)).bind fun h65 => (o_newA h65 0 (nI 120) 120).bind fun p66 => (o_put p66.2 l0 9 36 (.ref p66.1)).bind fun h67 => (o_newA h67 0 (nI 24) 24).bind fun p68 => (o_put p68.2 l0 9 37 (.ref p68.1)).bind fun h69 => (o_newA h69 0 (nI 60) 60).bind fun p70 => (o_put p70.2 l0 9 38 (.ref p70.1)).bind fun h71 => (o_getR h71 l0 9 0).bind fun v72 => e_on v72 (none) (fun a73 => (o_stI h71 a73 0 (nI 0) (nI 1)).bind fun h75 => some h75)
def fX9_in (l0 : Int32) (l1 : Int32) (l2 : Int32) : Option Bool :=
  if l0 < l1 then (some false) else (if l2 < l0 then (some false) else (some true))
def fX9_comes_b14 (k14 : Nat → Int32 → Int32 → Int32 → e_H → Option (Int32 × e_H)) (l0 : Nat) (l1 : Int32) (l2 : Int32) (l3 : Int32) (h : e_H) : Option (Int32 × e_H) :=
  if (nI 16) ≤ l3 then ((o_getR h l0 9 0).bind fun v1 => e_on v1 (none) (fun a2 => (o_stI h a2 0 l2 l1).bind fun h4 => (o_getR h4 l0 9 0).bind fun v5 => e_on v5 (none) (fun a6 => (o_ldI h4 a6 0 (nI 1)).bind fun v7 => (o_stI h4 a6 0 (nI 1) (v7 + (nI 1))).bind fun h8 => (o_getR h8 l0 9 0).bind fun v9 => e_on v9 (none) (fun a10 => (o_ldI h8 a10 0 (nI 1)).bind fun v11 => some ((v11 - (nI 1)), h8))))) else ((o_getR h l0 9 0).bind fun v12 => e_on v12 (none) (fun a13 => (o_stI h a13 0 (l2 + l3) (nI 0)).bind fun h15 => k14 l0 l1 l2 (l3 + (nI 1)) h15))
def fX9_comes_L14 : Nat → Nat → Int32 → Int32 → Int32 → e_H → Option (Int32 × e_H)
  | 0 => fun _ _ _ _ _ => none
  | n + 1 => fX9_comes_b14 (fX9_comes_L14 n)
def fX9_comes (l0 : Nat) (l1 : Int32) (h : e_H) : Option (Int32 × e_H) :=
  (o_obj h l0 9).bind fun _ => (o_getR h l0 9 0).bind fun v1 => e_on v1 (none) (fun a2 => (o_ldI h a2 0 (nI 1)).bind fun v3 => fX9_comes_L14 200 l0 l1 ((nI 3) + ((nI 16) * v3)) (nI 1) h)
def fX9_curve (l0 : Nat) (l1 : Int32) (h : e_H) : Option (Int32 × e_H) :=
  (o_obj h l0 9).bind fun _ => (fX9_in l1 (nI 0) (nI 5)).bind fun v1 => if (e_b v1) = 0 then (some ((-1000000001 : Int32), h)) else ((o_getR h l0 9 0).bind fun v2 => e_on v2 (none) (fun a3 => (o_ldI h a3 0 (nI 1)).bind fun v4 => if v4 = (nI 6) then (some ((-1000000003 : Int32), h)) else ((fX9_comes l0 l1 h).bind fun p5 => some (p5.1, p5.2))))
def fX9_isCurve (l0 : Nat) (l1 : Int32) (h : e_H) : Option Bool :=
  (o_obj h l0 9).bind fun _ => (o_getR h l0 9 0).bind fun v1 => e_on v1 (none) (fun a2 => (o_ldI h a2 0 (nI 1)).bind fun v3 => (fX9_in l1 (nI 0) (v3 - (nI 1))).bind fun v4 => some v4)
def fX9_isAt (l0 : Int32) : Option Bool :=
  if l0 < 0 then (some false) else (if (nI 4) < ((l0 / (nI 10)) + (l0 - l0 / (nI 10) * (nI 10))) then (some false) else (some true))
def fX9_spot (l0 : Int32) (l1 : Int32) (l2 : Int32) : Option Int32 :=
  if l1 = 0 then (some (((((nI 3) + ((nI 16) * l0)) + (nI 1)) + (nI 0)) + l2)) else (if l1 = (nI 1) then (some (((((nI 3) + ((nI 16) * l0)) + (nI 1)) + (nI 5)) + l2)) else (if l1 = (nI 2) then (some (((((nI 3) + ((nI 16) * l0)) + (nI 1)) + (nI 9)) + l2)) else (if l1 = (nI 3) then (some (((((nI 3) + ((nI 16) * l0)) + (nI 1)) + (nI 12)) + l2)) else (some (((((nI 3) + ((nI 16) * l0)) + (nI 1)) + (nI 14)) + l2)))))
def fX9_put (l0 : Nat) (l1 : Int32) (l2 : Int32) (l3 : Int32) (h : e_H) : Option (Int32 × e_H) :=
  (o_obj h l0 9).bind fun _ => (fX9_isCurve l0 l1 h).bind fun v1 => if (e_b v1) = 0 then (some ((-1000000001 : Int32), h)) else ((fX9_isAt l2).bind fun v2 => if (e_b v2) = 0 then (some ((-1000000001 : Int32), h)) else ((fX9_in l3 (-99 : Int32) (nI 99)).bind fun v3 => if (e_b v3) = 0 then (some ((-1000000001 : Int32), h)) else ((fX9_spot l1 (l2 / (nI 10)) (l2 - l2 / (nI 10) * (nI 10))).bind fun v4 => (o_getR h l0 9 0).bind fun v5 => e_on v5 (none) (fun a6 => (o_ldI h a6 0 v4).bind fun v7 => (o_getR h l0 9 0).bind fun v8 => e_on v8 (none) (fun a9 => (o_stI h a9 0 v4 l3).bind fun h11 => some (v7, h11))))))
def fX9_kindOf (l0 : Nat) (l1 : Int32) (h : e_H) : Option Int32 :=
  (o_obj h l0 9).bind fun _ => (o_getR h l0 9 0).bind fun v1 => e_on v1 (none) (fun a2 => (o_ldI h a2 0 ((nI 3) + ((nI 16) * l1))).bind fun v3 => some v3)
def fX9_counts_b9 (h : e_H) (k9 : Nat → Int32 → Int32 → Option Int32) (l0 : Nat) (l1 : Int32) (l2 : Int32) : Option Int32 :=
  if l2 < 0 then (some (-1 : Int32)) else ((o_getR h l0 9 0).bind fun v1 => e_on v1 (none) (fun a2 => (o_ldI h a2 0 ((nI 99) + ((nI 2) * l2))).bind fun v3 => if (v3 / (nI 1000)) = l1 then (some l2) else (k9 l0 l1 (l2 + (-1 : Int32)))))
def fX9_counts_L9 (h : e_H) : Nat → Nat → Int32 → Int32 → Option Int32
  | 0 => fun _ _ _ => none
  | n + 1 => fX9_counts_b9 h (fX9_counts_L9 h n)
def fX9_counts (l0 : Nat) (l1 : Int32) (h : e_H) : Option Int32 :=
  (o_obj h l0 9).bind fun _ => (o_getR h l0 9 0).bind fun v1 => e_on v1 (none) (fun a2 => (o_ldI h a2 0 (nI 2)).bind fun v3 => fX9_counts_L9 h 200 l0 l1 (v3 - (nI 1)))
def fX9_two (l0 : Int32) (l1 : Int32) (l2 : Int32) : Option Int32 :=
  if l0 = -8 then (some (l1 * l2)) else (if l0 = -7 then (some (l1 - l2)) else (if l0 = -6 then (some (l1 + l2)) else (if l0 = -5 then (if l1 ≤ l2 then (some (nI 0)) else (some (nI 1))) else (if l0 = -4 then (if l1 = l2 then (some (nI 1)) else (some (nI 0))) else (if l0 = -3 then (if l2 ≤ l1 then (some (nI 0)) else (some (nI 1))) else (if l0 = -2 then (if l1 = 0 then (some (nI 0)) else (if l2 = 0 then (some (nI 0)) else (some (nI 1)))) else (if l0 = -1 then (if l1 = 0 then (if l2 = 0 then (some (nI 0)) else (some (nI 1))) else (some (nI 1))) else (if l2 = 0 then (some (nI 0)) else (if l2 = 0 then none else some (l1 / l2))))))))))
def fX9_worksOut_b115 (k21 : Nat → Int32 → Int32 → Int32 → Int32 → e_H → Option (Int32 × e_H)) (l0 : Nat) (l1 : Int32) (l2 : Int32) (l3 : Int32) (l4 : Int32) (t0 : Int32) (t1 : Int32) (h : e_H) : Option (Int32 × e_H) :=
  none
def fX9_worksOut_b149 (k21 : Nat → Int32 → Int32 → Int32 → Int32 → e_H → Option (Int32 × e_H)) (l0 : Nat) (l1 : Int32) (l2 : Int32) (l3 : Int32) (l4 : Int32) (h : e_H) : Option (Int32 × e_H) :=
  k21 l0 l1 l2 l3 (l4 + (nI 1)) h
def fX9_worksOut_b115x1 (k21 : Nat → Int32 → Int32 → Int32 → Int32 → e_H → Option (Int32 × e_H)) (l0 : Nat) (l1 : Int32) (l2 : Int32) (l3 : Int32) (l4 : Int32) (t0 : Int32) (t1 : Int32) (t2 : Nat) (h : e_H) : Option (Int32 × e_H) :=
  (o_stI h t2 0 t1 t0).bind fun h1 => fX9_worksOut_b149 k21 l0 l1 l2 l3 l4 h1
def fX9_worksOut_b78 (k21 : Nat → Int32 → Int32 → Int32 → Int32 → e_H → Option (Int32 × e_H)) (l0 : Nat) (l1 : Int32) (l2 : Int32) (l3 : Int32) (l4 : Int32) (t0 : Int32) (t1 : Int32) (h : e_H) : Option (Int32 × e_H) :=
  none
def fX9_worksOut_b78x1 (k21 : Nat → Int32 → Int32 → Int32 → Int32 → e_H → Option (Int32 × e_H)) (l0 : Nat) (l1 : Int32) (l2 : Int32) (l3 : Int32) (l4 : Int32) (t0 : Int32) (t1 : Int32) (t2 : Nat) (h : e_H) : Option (Int32 × e_H) :=
  (o_stI h t2 0 t1 t0).bind fun h1 => fX9_worksOut_b149 k21 l0 l1 (l2 + (nI 1)) l3 l4 h1
def fX9_worksOut_b21 (k21 : Nat → Int32 → Int32 → Int32 → Int32 → e_H → Option (Int32 × e_H)) (l0 : Nat) (l1 : Int32) (l2 : Int32) (l3 : Int32) (l4 : Int32) (h : e_H) : Option (Int32 × e_H) :=
  if l3 ≤ l4 then ((o_getR h l0 9 28).bind fun v1 => e_on v1 (none) (fun a2 => (o_ldI h a2 0 (nI 0)).bind fun v3 => some (v3, h))) else ((o_getR h l0 9 0).bind fun v4 => e_on v4 (none) (fun a5 => (o_ldI h a5 0 (((nI 127) + ((nI 96) * l1)) + l4)).bind fun v6 => if v6 < 0 then (if v6 = (-10 : Int32) then ((o_getR h l0 9 28).bind fun v7 => e_on v7 ((o_getR h l0 9 28).bind fun v9 => e_on v9 (none) (fun a10 => (o_ldI h a10 0 (l2 - (nI 1))).bind fun v11 => if v11 = 0 then (fX9_worksOut_b115 k21 l0 l1 l2 l3 l4 (nI 1) (l2 - (nI 1)) h) else (fX9_worksOut_b115 k21 l0 l1 l2 l3 l4 (nI 0) (l2 - (nI 1)) h))) (fun a8 => (o_getR h l0 9 28).bind fun v12 => e_on v12 (none) (fun a13 => (o_ldI h a13 0 (l2 - (nI 1))).bind fun v14 => if v14 = 0 then (fX9_worksOut_b115x1 k21 l0 l1 l2 l3 l4 (nI 1) (l2 - (nI 1)) a8 h) else (fX9_worksOut_b115x1 k21 l0 l1 l2 l3 l4 (nI 0) (l2 - (nI 1)) a8 h)))) else ((o_getR h l0 9 28).bind fun v15 => e_on v15 ((o_getR h l0 9 28).bind fun v17 => e_on v17 (none) (fun a18 => (o_ldI h a18 0 ((l2 + (-1 : Int32)) - (nI 1))).bind fun v19 => (o_getR h l0 9 28).bind fun v20 => e_on v20 (none) (fun a21 => (o_ldI h a21 0 (l2 + (-1 : Int32))).bind fun v22 => (fX9_two v6 v19 v22).bind fun v23 => none))) (fun a16 => (o_getR h l0 9 28).bind fun v25 => e_on v25 (none) (fun a26 => (o_ldI h a26 0 ((l2 + (-1 : Int32)) - (nI 1))).bind fun v27 => (o_getR h l0 9 28).bind fun v28 => e_on v28 (none) (fun a29 => (o_ldI h a29 0 (l2 + (-1 : Int32))).bind fun v30 => (fX9_two v6 v27 v30).bind fun v31 => (o_stI h a16 0 ((l2 + (-1 : Int32)) - (nI 1)) v31).bind fun h32 => fX9_worksOut_b149 k21 l0 l1 (l2 + (-1 : Int32)) l3 l4 h32))))) else ((o_getR h l0 9 28).bind fun v33 => e_on v33 (if (nI 10000) ≤ v6 then ((o_getR h l0 9 29).bind fun v35 => e_on v35 (none) (fun a36 => (o_ldI h a36 0 (v6 - (nI 10000))).bind fun v37 => fX9_worksOut_b78 k21 l0 l1 l2 l3 l4 v37 l2 h)) else (fX9_worksOut_b78 k21 l0 l1 l2 l3 l4 v6 l2 h)) (fun a34 => if (nI 10000) ≤ v6 then ((o_getR h l0 9 29).bind fun v38 => e_on v38 (none) (fun a39 => (o_ldI h a39 0 (v6 - (nI 10000))).bind fun v40 => fX9_worksOut_b78x1 k21 l0 l1 l2 l3 l4 v40 l2 a34 h)) else (fX9_worksOut_b78x1 k21 l0 l1 l2 l3 l4 v6 l2 a34 h)))))
def fX9_worksOut_L21 : Nat → Nat → Int32 → Int32 → Int32 → Int32 → e_H → Option (Int32 × e_H)
  | 0 => fun _ _ _ _ _ _ => none
  | n + 1 => fX9_worksOut_b21 (fX9_worksOut_L21 n)
def fX9_worksOut (l0 : Nat) (l1 : Int32) (h : e_H) : Option (Int32 × e_H) :=
  (o_obj h l0 9).bind fun _ => (o_getR h l0 9 0).bind fun v1 => e_on v1 (none) (fun a2 => (o_ldI h a2 0 ((nI 99) + ((nI 2) * l1))).bind fun v3 => fX9_worksOut_L21 200 l0 l1 (nI 0) (v3 - v3 / (nI 1000) * (nI 1000)) (nI 0) h)
def fX9_within (l0 : Int32) (l1 : Int32) (l2 : Int32) : Option Int32 :=
  if l1 ≤ l0 then (if l0 ≤ l2 then (some l0) else (some l2)) else (some l1)
def fX9_plain (l0 : Nat) (l1 : Int32) (l2 : Int32) (l3 : Int32) (h : e_H) : Option (Int32 × e_H) :=
  (o_obj h l0 9).bind fun _ => (o_getR h l0 9 0).bind fun v1 => e_on v1 ((fX9_spot l1 l2 l3).bind fun v3 => none) (fun a2 => (fX9_spot l1 l2 l3).bind fun v4 => (o_ldI h a2 0 v4).bind fun v5 => (fX9_counts l0 (nI 0) h).bind fun v6 => (o_getR h l0 9 29).bind fun v7 => e_on v7 (none) (fun a8 => (o_stI h a8 0 (nI 0) l2).bind fun h10 => (o_getR h10 l0 9 29).bind fun v11 => e_on v11 (none) (fun a12 => (o_stI h10 a12 0 (nI 1) l3).bind fun h14 => (o_getR h14 l0 9 29).bind fun v15 => e_on v15 (none) (fun a16 => (o_stI h14 a16 0 (nI 2) v5).bind fun h18 => if 0 ≤ v6 then ((fX9_worksOut l0 v6 h18).bind fun p19 => (fX9_within p19.1 (-99 : Int32) (nI 99)).bind fun v20 => some (v20, p19.2)) else (some (v5, h18))))))
def fX9_termOf (l0 : Nat) (l1 : Int32) (l2 : Int32) (l3 : Int32) (h : e_H) : Option (Int32 × e_H) :=
  (o_obj h l0 9).bind fun _ => (fX9_kindOf l0 l1 h).bind fun v1 => if v1 = nI 1 then ((fX9_plain l0 l1 l3 l2 h).bind fun p2 => some (p2.1, p2.2)) else (if v1 = nI 2 then (if (l2 - l2 / (nI 2) * (nI 2)) = (nI 1) then ((fX9_plain l0 l1 l2 l3 h).bind fun p3 => some ((-p3.1), p3.2)) else ((fX9_plain l0 l1 l2 l3 h).bind fun p4 => some (p4.1, p4.2))) else (if v1 = nI 3 then ((fX9_plain l0 l1 l3 l2 h).bind fun p5 => some ((-p5.1), p5.2)) else (if v1 = nI 4 then (if (l2 - l2 / (nI 2) * (nI 2)) = (nI 1) then ((fX9_plain l0 l1 l2 l3 h).bind fun p6 => some (((nI 2) * (-p6.1)), p6.2)) else ((fX9_plain l0 l1 l2 l3 h).bind fun p7 => some (((nI 2) * p7.1), p7.2))) else (if v1 = nI 5 then (if l3 = 0 then ((fX9_plain l0 l1 l2 l3 h).bind fun p8 => some (p8.1, p8.2)) else (some ((nI 0), h))) else ((fX9_plain l0 l1 l2 l3 h).bind fun p9 => some (p9.1, p9.2))))))
def fX9_term (l0 : Nat) (l1 : Int32) (l2 : Int32) (l3 : Int32) (h : e_H) : Option (Int32 × e_H) :=
  (o_obj h l0 9).bind fun _ => (fX9_isCurve l0 l1 h).bind fun v1 => if (e_b v1) = 0 then (some ((-1000000001 : Int32), h)) else ((fX9_isAt l2).bind fun v2 => if (e_b v2) = 0 then (some ((-1000000001 : Int32), h)) else ((fX9_in l3 (nI 0) (nI 1)).bind fun v3 => if (e_b v3) = 0 then (some ((-1000000001 : Int32), h)) else (if l3 = 0 then ((o_getR h l0 9 0).bind fun v4 => e_on v4 ((fX9_spot l1 (l2 / (nI 10)) (l2 - l2 / (nI 10) * (nI 10))).bind fun v6 => none) (fun a5 => (fX9_spot l1 (l2 / (nI 10)) (l2 - l2 / (nI 10) * (nI 10))).bind fun v7 => (o_ldI h a5 0 v7).bind fun v8 => some (v8, h))) else ((fX9_termOf l0 l1 (l2 / (nI 10)) (l2 - l2 / (nI 10) * (nI 10)) h).bind fun p9 => some (p9.1, p9.2)))))
def fX9_manyOf_b32 (h : e_H) (k4 : Nat → Int32 → Int32 → Int32 → Option Int32) (l0 : Nat) (l1 : Int32) (l3 : Int32) (t0 : Int32) (t1 : Int32) : Option Int32 :=
  k4 l0 l1 (t1 + t0) (l3 + (nI 1))
def fX9_manyOf_b4 (h : e_H) (k4 : Nat → Int32 → Int32 → Int32 → Option Int32) (l0 : Nat) (l1 : Int32) (l2 : Int32) (l3 : Int32) : Option Int32 :=
  if (nI 16) ≤ l3 then (some l2) else ((o_getR h l0 9 0).bind fun v1 => e_on v1 (none) (fun a2 => (o_ldI h a2 0 (((nI 3) + ((nI 16) * l1)) + l3)).bind fun v3 => if v3 = 0 then (fX9_manyOf_b32 h k4 l0 l1 l3 (nI 0) l2) else (fX9_manyOf_b32 h k4 l0 l1 l3 (nI 1) l2)))
def fX9_manyOf_L4 (h : e_H) : Nat → Nat → Int32 → Int32 → Int32 → Option Int32
  | 0 => fun _ _ _ _ => none
  | n + 1 => fX9_manyOf_b4 h (fX9_manyOf_L4 h n)
def fX9_manyOf (l0 : Nat) (l1 : Int32) (h : e_H) : Option Int32 :=
  (o_obj h l0 9).bind fun _ => fX9_manyOf_L4 h 200 l0 l1 (nI 0) (nI 1)
def fX9_worthOf (l0 : Nat) (l1 : Int32) (h : e_H) : Option Int32 :=
  (o_obj h l0 9).bind fun _ => (fX9_manyOf l0 l1 h).bind fun v1 => (o_getR h l0 9 0).bind fun v2 => e_on v2 ((fX9_spot l1 (nI 1) (nI 0)).bind fun v4 => none) (fun a3 => (fX9_spot l1 (nI 1) (nI 0)).bind fun v5 => (o_ldI h a3 0 v5).bind fun v6 => (fX9_kindOf l0 l1 h).bind fun v7 => if v7 = nI 1 then (some (v1 + v6)) else (if v7 = nI 2 then (some ((nI 2) * v1)) else (if v7 = nI 3 then (some (-(v1 + v6))) else (if v7 = nI 4 then (some (((nI 2) * v1) + (nI 1))) else (if v7 = nI 5 then ((o_getR h l0 9 0).bind fun v8 => e_on v8 ((fX9_spot l1 (nI 0) (nI 0)).bind fun v10 => none) (fun a9 => (fX9_spot l1 (nI 0) (nI 0)).bind fun v11 => (o_ldI h a9 0 v11).bind fun v12 => some v12)) else (some v1))))))
def fX9_findTerms_b48 (k4 : Nat → Int32 → Int32 → Int32 → e_H → Option (Int32 × e_H)) (k12 : Nat → Int32 → Int32 → Int32 → Int32 → e_H → Option (Int32 × e_H)) (l0 : Nat) (l1 : Int32) (l2 : Int32) (l3 : Int32) (l4 : Int32) (t0 : Int32) (t1 : Int32) (h : e_H) : Option (Int32 × e_H) :=
  none
def fX9_findTerms_b69 (k4 : Nat → Int32 → Int32 → Int32 → e_H → Option (Int32 × e_H)) (k12 : Nat → Int32 → Int32 → Int32 → Int32 → e_H → Option (Int32 × e_H)) (l0 : Nat) (l1 : Int32) (l3 : Int32) (l4 : Int32) (t0 : Int32) (t1 : Int32) (h : e_H) : Option (Int32 × e_H) :=
  k12 l0 l1 (t1 + t0) l3 (l4 + (nI 1)) h
def fX9_findTerms_b48x1 (k4 : Nat → Int32 → Int32 → Int32 → e_H → Option (Int32 × e_H)) (k12 : Nat → Int32 → Int32 → Int32 → Int32 → e_H → Option (Int32 × e_H)) (l0 : Nat) (l1 : Int32) (l2 : Int32) (l3 : Int32) (l4 : Int32) (t0 : Int32) (t1 : Int32) (t2 : Nat) (h : e_H) : Option (Int32 × e_H) :=
  (o_stI h t2 0 t1 t0).bind fun h1 => (o_getR h1 l0 9 4).bind fun v2 => e_on v2 (none) (fun a3 => (o_ldI h1 a3 0 (((nI 5) * l3) + l4)).bind fun v4 => if v4 = 0 then (fX9_findTerms_b69 k4 k12 l0 l1 l3 l4 (nI 0) l2 h1) else (fX9_findTerms_b69 k4 k12 l0 l1 l3 l4 (nI 1) l2 h1))
def fX9_findTerms_b12 (k4 : Nat → Int32 → Int32 → Int32 → e_H → Option (Int32 × e_H)) (k12 : Nat → Int32 → Int32 → Int32 → Int32 → e_H → Option (Int32 × e_H)) (l0 : Nat) (l1 : Int32) (l2 : Int32) (l3 : Int32) (l4 : Int32) (h : e_H) : Option (Int32 × e_H) :=
  if (nI 5) ≤ l4 then (k4 l0 l1 l2 (l3 + (nI 1)) h) else ((o_getR h l0 9 4).bind fun v1 => e_on v1 (if (l3 + l4) ≤ (nI 4) then ((fX9_termOf l0 l1 l3 l4 h).bind fun p3 => fX9_findTerms_b48 k4 k12 l0 l1 l2 l3 l4 p3.1 (((nI 5) * l3) + l4) p3.2) else (fX9_findTerms_b48 k4 k12 l0 l1 l2 l3 l4 (nI 0) (((nI 5) * l3) + l4) h)) (fun a2 => if (l3 + l4) ≤ (nI 4) then ((fX9_termOf l0 l1 l3 l4 h).bind fun p4 => fX9_findTerms_b48x1 k4 k12 l0 l1 l2 l3 l4 p4.1 (((nI 5) * l3) + l4) a2 p4.2) else (fX9_findTerms_b48x1 k4 k12 l0 l1 l2 l3 l4 (nI 0) (((nI 5) * l3) + l4) a2 h)))
def fX9_findTerms_L12 (k4 : Nat → Int32 → Int32 → Int32 → e_H → Option (Int32 × e_H)) : Nat → Nat → Int32 → Int32 → Int32 → Int32 → e_H → Option (Int32 × e_H)
  | 0 => fun _ _ _ _ _ _ => none
  | n + 1 => fX9_findTerms_b12 k4 (fX9_findTerms_L12 k4 n)
def fX9_findTerms_b4 (k4 : Nat → Int32 → Int32 → Int32 → e_H → Option (Int32 × e_H)) (l0 : Nat) (l1 : Int32) (l2 : Int32) (l3 : Int32) (h : e_H) : Option (Int32 × e_H) :=
  if (nI 5) ≤ l3 then (some (l2, h)) else (fX9_findTerms_L12 k4 200 l0 l1 l2 l3 (nI 0) h)
def fX9_findTerms_L4 : Nat → Nat → Int32 → Int32 → Int32 → e_H → Option (Int32 × e_H)
  | 0 => fun _ _ _ _ _ => none
  | n + 1 => fX9_findTerms_b4 (fX9_findTerms_L4 n)
def fX9_findTerms (l0 : Nat) (l1 : Int32) (h : e_H) : Option (Int32 × e_H) :=
  (o_obj h l0 9).bind fun _ => fX9_findTerms_L4 200 l0 l1 (nI 0) (nI 0) h
def fX9_degreeNow_b41 (h : e_H) (k4 : Nat → Int32 → Int32 → Option Int32) (l0 : Nat) (l2 : Int32) (t0 : Int32) : Option Int32 :=
  k4 l0 t0 (l2 + (nI 1))
def fX9_degreeNow_b40 (h : e_H) (k4 : Nat → Int32 → Int32 → Option Int32) (l0 : Nat) (l1 : Int32) (l2 : Int32) : Option Int32 :=
  fX9_degreeNow_b41 h k4 l0 l2 l1
def fX9_degreeNow_b4 (h : e_H) (k4 : Nat → Int32 → Int32 → Option Int32) (l0 : Nat) (l1 : Int32) (l2 : Int32) : Option Int32 :=
  if (nI 25) ≤ l2 then (some l1) else ((o_getR h l0 9 4).bind fun v1 => e_on v1 (none) (fun a2 => (o_ldI h a2 0 l2).bind fun v3 => if v3 = 0 then (fX9_degreeNow_b40 h k4 l0 l1 l2) else (if ((l2 / (nI 5)) + (l2 - l2 / (nI 5) * (nI 5))) ≤ l1 then (fX9_degreeNow_b40 h k4 l0 l1 l2) else (fX9_degreeNow_b41 h k4 l0 l2 ((l2 / (nI 5)) + (l2 - l2 / (nI 5) * (nI 5)))))))
def fX9_degreeNow_L4 (h : e_H) : Nat → Nat → Int32 → Int32 → Option Int32
  | 0 => fun _ _ _ => none
  | n + 1 => fX9_degreeNow_b4 h (fX9_degreeNow_L4 h n)
def fX9_degreeNow (l0 : Nat) (h : e_H) : Option Int32 :=
  (o_obj h l0 9).bind fun _ => fX9_degreeNow_L4 h 200 l0 (-1 : Int32) (nI 0)
def fX9_told_b29 (l0 : Nat) (l1 : Int32) (l2 : Int32) (h : e_H) : Option (Int32 × e_H) :=
  if l2 = 0 then ((fX9_kindOf l0 l1 h).bind fun v1 => some (v1, h)) else ((fX9_worthOf l0 l1 h).bind fun v2 => some (v2, h))
def fX9_told (l0 : Nat) (l1 : Int32) (l2 : Int32) (h : e_H) : Option (Int32 × e_H) :=
  (o_obj h l0 9).bind fun _ => (fX9_isCurve l0 l1 h).bind fun v1 => if (e_b v1) = 0 then (some ((-1000000001 : Int32), h)) else ((fX9_in l2 (nI 0) (nI 3)).bind fun v2 => if (e_b v2) = 0 then (some ((-1000000001 : Int32), h)) else (if l2 = 0 then (fX9_told_b29 l0 l1 l2 h) else (if l2 = (nI 2) then (fX9_told_b29 l0 l1 l2 h) else ((fX9_findTerms l0 l1 h).bind fun p3 => if l2 = (nI 1) then ((fX9_degreeNow l0 p3.2).bind fun v4 => some (v4, p3.2)) else (some (p3.1, p3.2))))))
def fX9_isUnder_b19 (l0 : Int32) (l1 : Int32) : Option Bool :=
  if l1 = (nI 2) then (if l0 = (nI 4) then (some true) else (some false)) else (some false)
def fX9_isUnder (l0 : Int32) (l1 : Int32) : Option Bool :=
  if l1 = 0 then (some true) else (if l0 = l1 then (some true) else (if l1 = (nI 1) then (if l0 = (nI 3) then (some true) else (fX9_isUnder_b19 l0 l1)) else (fX9_isUnder_b19 l0 l1)))
def fX9_as (l0 : Nat) (l1 : Int32) (l2 : Int32) (h : e_H) : Option Int32 :=
  (o_obj h l0 9).bind fun _ => (fX9_isCurve l0 l1 h).bind fun v1 => if (e_b v1) = 0 then (some (-1000000001 : Int32)) else ((fX9_in l2 (nI 0) (nI 5)).bind fun v2 => if (e_b v2) = 0 then (some (-1000000001 : Int32)) else ((fX9_kindOf l0 l1 h).bind fun v3 => (fX9_isUnder v3 l2).bind fun v4 => if (e_b v4) = 0 then (some (-1000000012 : Int32)) else ((o_getR h l0 9 0).bind fun v5 => e_on v5 ((fX9_spot l1 (nI 0) (nI 0)).bind fun v7 => none) (fun a6 => (fX9_spot l1 (nI 0) (nI 0)).bind fun v8 => (o_ldI h a6 0 v8).bind fun v9 => some v9))))
def fX9_turns (l0 : Nat) (l1 : Int32) (l2 : Int32) (h : e_H) : Option (Int32 × e_H) :=
  (o_obj h l0 9).bind fun _ => (fX9_isCurve l0 l1 h).bind fun v1 => if (e_b v1) = 0 then (some ((-1000000001 : Int32), h)) else ((fX9_in l2 (nI 0) (nI 5)).bind fun v2 => if (e_b v2) = 0 then (some ((-1000000001 : Int32), h)) else ((fX9_kindOf l0 l1 h).bind fun v3 => (o_getR h l0 9 0).bind fun v4 => e_on v4 (none) (fun a5 => (o_stI h a5 0 ((nI 3) + ((nI 16) * l1)) l2).bind fun h7 => some (v3, h7))))
def fX9_mix_b110 (k40 : Nat → Int32 → Int32 → Int32 → Int32 → Int32 → e_H → Option (Int32 × e_H)) (l0 : Nat) (l1 : Int32) (l2 : Int32) (l3 : Int32) (l4 : Int32) (l5 : Int32) (t0 : Int32) (t1 : Int32) (h : e_H) : Option (Int32 × e_H) :=
  (fX9_within t0 (-99 : Int32) (nI 99)).bind fun v1 => none
def fX9_mix_b110x1 (k40 : Nat → Int32 → Int32 → Int32 → Int32 → Int32 → e_H → Option (Int32 × e_H)) (l0 : Nat) (l1 : Int32) (l2 : Int32) (l3 : Int32) (l4 : Int32) (l5 : Int32) (t0 : Int32) (t1 : Int32) (t2 : Nat) (h : e_H) : Option (Int32 × e_H) :=
  (fX9_within t0 (-99 : Int32) (nI 99)).bind fun v1 => (o_stI h t2 0 t1 v1).bind fun h2 => k40 l0 l1 l2 l3 l4 (l5 + (nI 1)) h2
def fX9_mix_b40 (k40 : Nat → Int32 → Int32 → Int32 → Int32 → Int32 → e_H → Option (Int32 × e_H)) (l0 : Nat) (l1 : Int32) (l2 : Int32) (l3 : Int32) (l4 : Int32) (l5 : Int32) (h : e_H) : Option (Int32 × e_H) :=
  if (nI 16) ≤ l5 then ((fX9_manyOf l0 l1 h).bind fun v1 => some (v1, h)) else ((o_getR h l0 9 0).bind fun v2 => e_on v2 (none) (fun a3 => (o_ldI h a3 0 (((nI 3) + ((nI 16) * l2)) + l5)).bind fun v4 => (o_getR h l0 9 0).bind fun v5 => e_on v5 (none) (fun a6 => (o_ldI h a6 0 (((nI 3) + ((nI 16) * l3)) + l5)).bind fun v7 => (o_getR h l0 9 0).bind fun v8 => e_on v8 (if l4 = 0 then (fX9_mix_b110 k40 l0 l1 l2 l3 l4 l5 (v4 + v7) (((nI 3) + ((nI 16) * l1)) + l5) h) else (fX9_mix_b110 k40 l0 l1 l2 l3 l4 l5 (v7 - v4) (((nI 3) + ((nI 16) * l1)) + l5) h)) (fun a9 => if l4 = 0 then (fX9_mix_b110x1 k40 l0 l1 l2 l3 l4 l5 (v4 + v7) (((nI 3) + ((nI 16) * l1)) + l5) a9 h) else (fX9_mix_b110x1 k40 l0 l1 l2 l3 l4 l5 (v7 - v4) (((nI 3) + ((nI 16) * l1)) + l5) a9 h)))))
def fX9_mix_L40 : Nat → Nat → Int32 → Int32 → Int32 → Int32 → Int32 → e_H → Option (Int32 × e_H)
  | 0 => fun _ _ _ _ _ _ _ => none
  | n + 1 => fX9_mix_b40 (fX9_mix_L40 n)
def fX9_mix (l0 : Nat) (l1 : Int32) (l2 : Int32) (l3 : Int32) (l4 : Int32) (h : e_H) : Option (Int32 × e_H) :=
  (o_obj h l0 9).bind fun _ => (fX9_isCurve l0 l1 h).bind fun v1 => if (e_b v1) = 0 then (some ((-1000000001 : Int32), h)) else ((fX9_isCurve l0 l2 h).bind fun v2 => if (e_b v2) = 0 then (some ((-1000000001 : Int32), h)) else ((fX9_isCurve l0 l3 h).bind fun v3 => if (e_b v3) = 0 then (some ((-1000000001 : Int32), h)) else ((fX9_in l4 (nI 0) (nI 1)).bind fun v4 => if (e_b v4) = 0 then (some ((-1000000001 : Int32), h)) else (fX9_mix_L40 200 l0 l1 l2 l3 l4 (nI 1) h))))
def fX9_draw (l0 : Nat) (h : e_H) : Option (Int32 × e_H) :=
  (o_obj h l0 9).bind fun _ => (o_getR h l0 9 0).bind fun v1 => e_on v1 ((o_getR h l0 9 0).bind fun v3 => e_on v3 (none) (fun a4 => (o_ldI h a4 0 (nI 0)).bind fun v5 => none)) (fun a2 => (o_getR h l0 9 0).bind fun v7 => e_on v7 (none) (fun a8 => (o_ldI h a8 0 (nI 0)).bind fun v9 => (o_stI h a2 0 (nI 0) ((v9 * (1103515245 : Int32)) + (nI 12345))).bind fun h10 => (o_getR h10 l0 9 0).bind fun v11 => e_on v11 (none) (fun a12 => (o_ldI h10 a12 0 (nI 0)).bind fun v13 => some (((v13).toUInt32 >>> (((nI 8)).toUInt32 &&& Int32.toUInt32 31)).toInt32, h10))))
def fX9_deal_b45 (k15 : Nat → Int32 → Int32 → e_H → Option (Int32 × e_H)) (k45 : Nat → Int32 → Int32 → Int32 → Int32 → e_H → Option (Int32 × e_H)) (l0 : Nat) (l1 : Int32) (l2 : Int32) (l3 : Int32) (l4 : Int32) (h : e_H) : Option (Int32 × e_H) :=
  if (nI 16) ≤ l4 then (k15 l0 l1 (l2 + (nI 1)) h) else ((o_getR h l0 9 0).bind fun v1 => e_on v1 ((fX9_draw l0 h).bind fun p3 => none) (fun a2 => (fX9_draw l0 h).bind fun p5 => (o_stI p5.2 a2 0 (l3 + l4) ((p5.1 - p5.1 / (nI 7) * (nI 7)) - (nI 3))).bind fun h6 => k45 l0 l1 l2 l3 (l4 + (nI 1)) h6))
def fX9_deal_L45 (k15 : Nat → Int32 → Int32 → e_H → Option (Int32 × e_H)) : Nat → Nat → Int32 → Int32 → Int32 → Int32 → e_H → Option (Int32 × e_H)
  | 0 => fun _ _ _ _ _ _ => none
  | n + 1 => fX9_deal_b45 k15 (fX9_deal_L45 k15 n)
def fX9_deal_b15 (k15 : Nat → Int32 → Int32 → e_H → Option (Int32 × e_H)) (l0 : Nat) (l1 : Int32) (l2 : Int32) (h : e_H) : Option (Int32 × e_H) :=
  if l1 ≤ l2 then (some (l2, h)) else ((o_getR h l0 9 0).bind fun v1 => e_on v1 (none) (fun a2 => (o_ldI h a2 0 (nI 1)).bind fun v3 => if (nI 6) ≤ v3 then (some (l2, h)) else ((fX9_comes l0 (nI 0) h).bind fun p4 => fX9_deal_L45 k15 200 l0 l1 l2 ((nI 3) + ((nI 16) * p4.1)) (nI 1) p4.2)))
def fX9_deal_L15 : Nat → Nat → Int32 → Int32 → e_H → Option (Int32 × e_H)
  | 0 => fun _ _ _ _ => none
  | n + 1 => fX9_deal_b15 (fX9_deal_L15 n)
def fX9_deal (l0 : Nat) (l1 : Int32) (h : e_H) : Option (Int32 × e_H) :=
  (o_obj h l0 9).bind fun _ => (fX9_in l1 (nI 1) (nI 6)).bind fun v1 => if (e_b v1) = 0 then (some ((-1000000001 : Int32), h)) else (fX9_deal_L15 200 l0 l1 (nI 0) h)
def fX9_seed (l0 : Nat) (l1 : Int32) (h : e_H) : Option (Int32 × e_H) :=
  (o_obj h l0 9).bind fun _ => (o_getR h l0 9 0).bind fun v1 => e_on v1 (none) (fun a2 => (o_ldI h a2 0 (nI 0)).bind fun v3 => (o_getR h l0 9 0).bind fun v4 => e_on v4 (none) (fun a5 => (o_stI h a5 0 (nI 0) l1).bind fun h7 => some (v3, h7)))
def fX9_raised_b5 (k5 : Int64 → Int32 → Int64 → Int32 → Option Int64) (l0 : Int64) (l2 : Int32) (l3 : Int64) (l5 : Int32) : Option Int64 :=
  if l2 ≤ l5 then (some l3) else (k5 l0 l2 (l3 * l0) (l5 + (nI 1)))
def fX9_raised_L5 : Nat → Int64 → Int32 → Int64 → Int32 → Option Int64
  | 0 => fun _ _ _ _ => none
  | n + 1 => fX9_raised_b5 (fX9_raised_L5 n)
def fX9_raised (l0 : Int64) (l2 : Int32) : Option Int64 :=
  fX9_raised_L5 200 l0 l2 (1 : Int64) (nI 0)
def fX9_value_b47 (k47 : Nat → Int32 → Int32 → Int64 → Int32 → e_H → Option (Int64 × e_H)) (l0 : Nat) (l2 : Int32) (l3 : Int32) (l5 : Int64) (l7 : Int32) (h : e_H) : Option (Int64 × e_H) :=
  if (nI 25) ≤ l7 then (some (l5, h)) else ((o_getR h l0 9 4).bind fun v1 => e_on v1 (none) (fun a2 => (o_ldI h a2 0 l7).bind fun v3 => (fX9_raised (l2).toInt64 (l7 / (nI 5))).bind fun v4 => (fX9_raised (l3).toInt64 (l7 - l7 / (nI 5) * (nI 5))).bind fun v5 => k47 l0 l2 l3 (l5 + (((v3).toInt64 * v4) * v5)) (l7 + (nI 1)) h))
def fX9_value_L47 : Nat → Nat → Int32 → Int32 → Int64 → Int32 → e_H → Option (Int64 × e_H)
  | 0 => fun _ _ _ _ _ _ => none
  | n + 1 => fX9_value_b47 (fX9_value_L47 n)
def fX9_value (l0 : Nat) (l1 : Int32) (l2 : Int32) (l3 : Int32) (h : e_H) : Option (Int64 × e_H) :=
  (o_obj h l0 9).bind fun _ => (fX9_isCurve l0 l1 h).bind fun v1 => if (e_b v1) = 0 then (some ((-1000000001 : Int64), h)) else ((fX9_in l2 (-9 : Int32) (nI 9)).bind fun v2 => if (e_b v2) = 0 then (some ((-1000000001 : Int64), h)) else ((fX9_in l3 (-9 : Int32) (nI 9)).bind fun v3 => if (e_b v3) = 0 then (some ((-1000000001 : Int64), h)) else ((fX9_findTerms l0 l1 h).bind fun p4 => fX9_value_L47 200 l0 l2 l3 (0 : Int64) (nI 0) p4.2)))
def fX9_isPlace (l0 : Int32) : Option Bool :=
  if l0 < 0 then (some false) else (if (nI 10) < (l0 / (nI 100)) then (some false) else (if (nI 10) < (l0 - l0 / (nI 100) * (nI 100)) then (some false) else (some true)))
def fX9_choices_b5 (k5 : Int32 → Int32 → Int64 → Int32 → Option Int64) (l0 : Int32) (l1 : Int32) (l2 : Int64) (l4 : Int32) : Option Int64 :=
  if l1 < l4 then (some l2) else (if (l4).toInt64 = 0 then none else k5 l0 l1 ((l2 * (((l0 - l1) + l4)).toInt64) / (l4).toInt64) (l4 + (nI 1)))
def fX9_choices_L5 : Nat → Int32 → Int32 → Int64 → Int32 → Option Int64
  | 0 => fun _ _ _ _ => none
  | n + 1 => fX9_choices_b5 (fX9_choices_L5 n)
def fX9_choices (l0 : Int32) (l1 : Int32) : Option Int64 :=
  fX9_choices_L5 200 l0 l1 (1 : Int64) (nI 1)
def fX9_findShape_b140 (k23 : Nat → Int32 → Int32 → Int32 → e_H → Option e_H) (l0 : Nat) (l1 : Int32) (l2 : Int32) (l3 : Int32) (h : e_H) : Option e_H :=
  k23 l0 l1 l2 (l3 + (nI 1)) h
def fX9_findShape_b52 (k23 : Nat → Int32 → Int32 → Int32 → e_H → Option e_H) (k41 : Nat → Int32 → Int32 → Int32 → Int32 → e_H → Option e_H) (k52 : Nat → Int32 → Int32 → Int32 → Int32 → Int32 → e_H → Option e_H) (l0 : Nat) (l1 : Int32) (l2 : Int32) (l3 : Int32) (l4 : Int32) (l5 : Int32) (h : e_H) : Option e_H :=
  if (l3 - l3 / (nI 5) * (nI 5)) < l5 then (k41 l0 l1 l2 l3 (l4 + (nI 1)) h) else ((fX9_choices (l3 / (nI 5)) l4).bind fun v1 => (fX9_choices (l3 - l3 / (nI 5) * (nI 5)) l5).bind fun v2 => (o_getR h l0 9 5).bind fun v3 => e_on v3 (none) (fun a4 => (o_ldL h a4 1 (((nI 5) * l4) + l5)).bind fun v6 => (o_getR h l0 9 4).bind fun v7 => e_on v7 (none) (fun a8 => (o_ldI h a8 0 l3).bind fun v9 => (fX9_raised (l1).toInt64 ((l3 / (nI 5)) - l4)).bind fun v10 => (fX9_raised (l2).toInt64 ((l3 - l3 / (nI 5) * (nI 5)) - l5)).bind fun v11 => (o_stL h a4 1 (((nI 5) * l4) + l5) (v6 + ((((v9).toInt64 * (v1 * v2)) * v10) * v11))).bind fun h12 => k52 l0 l1 l2 l3 l4 (l5 + (nI 1)) h12)))
def fX9_findShape_L52 (k23 : Nat → Int32 → Int32 → Int32 → e_H → Option e_H) (k41 : Nat → Int32 → Int32 → Int32 → Int32 → e_H → Option e_H) : Nat → Nat → Int32 → Int32 → Int32 → Int32 → Int32 → e_H → Option e_H
  | 0 => fun _ _ _ _ _ _ _ => none
  | n + 1 => fX9_findShape_b52 k23 k41 (fX9_findShape_L52 k23 k41 n)
def fX9_findShape_b41 (k23 : Nat → Int32 → Int32 → Int32 → e_H → Option e_H) (k41 : Nat → Int32 → Int32 → Int32 → Int32 → e_H → Option e_H) (l0 : Nat) (l1 : Int32) (l2 : Int32) (l3 : Int32) (l4 : Int32) (h : e_H) : Option e_H :=
  if (l3 / (nI 5)) < l4 then (fX9_findShape_b140 k23 l0 l1 l2 l3 h) else (fX9_findShape_L52 k23 k41 200 l0 l1 l2 l3 l4 (nI 0) h)
def fX9_findShape_L41 (k23 : Nat → Int32 → Int32 → Int32 → e_H → Option e_H) : Nat → Nat → Int32 → Int32 → Int32 → Int32 → e_H → Option e_H
  | 0 => fun _ _ _ _ _ _ => none
  | n + 1 => fX9_findShape_b41 k23 (fX9_findShape_L41 k23 n)
def fX9_findShape_b23 (k23 : Nat → Int32 → Int32 → Int32 → e_H → Option e_H) (l0 : Nat) (l1 : Int32) (l2 : Int32) (l3 : Int32) (h : e_H) : Option e_H :=
  if (nI 25) ≤ l3 then (some h) else ((o_getR h l0 9 4).bind fun v1 => e_on v1 (none) (fun a2 => (o_ldI h a2 0 l3).bind fun v3 => if v3 = 0 then (fX9_findShape_b140 k23 l0 l1 l2 l3 h) else (fX9_findShape_L41 k23 200 l0 l1 l2 l3 (nI 0) h)))
def fX9_findShape_L23 : Nat → Nat → Int32 → Int32 → Int32 → e_H → Option e_H
  | 0 => fun _ _ _ _ _ => none
  | n + 1 => fX9_findShape_b23 (fX9_findShape_L23 n)
def fX9_findShape_b2 (k2 : Nat → Int32 → Int32 → Int32 → e_H → Option e_H) (l0 : Nat) (l1 : Int32) (l2 : Int32) (l3 : Int32) (h : e_H) : Option e_H :=
  if (nI 85) ≤ l3 then (fX9_findShape_L23 200 l0 l1 l2 (nI 0) h) else ((o_getR h l0 9 5).bind fun v1 => e_on v1 (none) (fun a2 => (o_stL h a2 1 l3 (0 : Int64)).bind fun h4 => k2 l0 l1 l2 (l3 + (nI 1)) h4))
def fX9_findShape_L2 : Nat → Nat → Int32 → Int32 → Int32 → e_H → Option e_H
  | 0 => fun _ _ _ _ _ => none
  | n + 1 => fX9_findShape_b2 (fX9_findShape_L2 n)
def fX9_findShape (l0 : Nat) (l1 : Int32) (l2 : Int32) (h : e_H) : Option e_H :=
  (o_obj h l0 9).bind fun _ => fX9_findShape_L2 200 l0 l1 l2 (nI 0) h
def fX9_findPlace (l0 : Nat) (l1 : Int32) (l2 : Int32) (h : e_H) : Option e_H :=
  (o_obj h l0 9).bind fun _ => (fX9_findTerms l0 l1 h).bind fun p1 => (fX9_findShape l0 ((l2 / (nI 100)) - (nI 5)) ((l2 - l2 / (nI 100) * (nI 100)) - (nI 5)) p1.2).bind fun h2 => some h2
def fX9_timesOf_b51 (h : e_H) (k4 : Nat → Int32 → Int32 → Int32 → Option Int32) (l0 : Nat) (l1 : Int32) (l3 : Int32) (t0 : Int32) : Option Int32 :=
  k4 l0 l1 t0 (l3 + (nI 1))
def fX9_timesOf_b50 (h : e_H) (k4 : Nat → Int32 → Int32 → Int32 → Option Int32) (l0 : Nat) (l1 : Int32) (l2 : Int32) (l3 : Int32) : Option Int32 :=
  fX9_timesOf_b51 h k4 l0 l1 l3 l2
def fX9_timesOf_b45 (h : e_H) (k4 : Nat → Int32 → Int32 → Int32 → Option Int32) (l0 : Nat) (l1 : Int32) (l3 : Int32) (l4 : Int32) : Option Int32 :=
  fX9_timesOf_b51 h k4 l0 l1 l3 l4
def fX9_timesOf_b4 (h : e_H) (k4 : Nat → Int32 → Int32 → Int32 → Option Int32) (l0 : Nat) (l1 : Int32) (l2 : Int32) (l3 : Int32) : Option Int32 :=
  if (nI 85) ≤ l3 then (if 0 ≤ l2 then (some l2) else (some (nI 17))) else ((o_getR h l0 9 5).bind fun v1 => e_on v1 (none) (fun a2 => (o_ldL h a2 1 (((nI 85) * l1) + l3)).bind fun v4 => if (lg_cmp v4 (0 : Int64)) = 0 then (fX9_timesOf_b50 h k4 l0 l1 l2 l3) else (if l2 < 0 then (fX9_timesOf_b45 h k4 l0 l1 l3 ((l3 / (nI 5)) + (l3 - l3 / (nI 5) * (nI 5)))) else (if l2 ≤ ((l3 / (nI 5)) + (l3 - l3 / (nI 5) * (nI 5))) then (fX9_timesOf_b50 h k4 l0 l1 l2 l3) else (fX9_timesOf_b45 h k4 l0 l1 l3 ((l3 / (nI 5)) + (l3 - l3 / (nI 5) * (nI 5))))))))
def fX9_timesOf_L4 (h : e_H) : Nat → Nat → Int32 → Int32 → Int32 → Option Int32
  | 0 => fun _ _ _ _ => none
  | n + 1 => fX9_timesOf_b4 h (fX9_timesOf_L4 h n)
def fX9_timesOf (l0 : Nat) (l1 : Int32) (h : e_H) : Option Int32 :=
  (o_obj h l0 9).bind fun _ => fX9_timesOf_L4 h 200 l0 l1 (-1 : Int32) (nI 0)
def fX9_times (l0 : Nat) (l1 : Int32) (l2 : Int32) (h : e_H) : Option (Int32 × e_H) :=
  (o_obj h l0 9).bind fun _ => (fX9_isCurve l0 l1 h).bind fun v1 => if (e_b v1) = 0 then (some ((-1000000001 : Int32), h)) else ((fX9_isPlace l2).bind fun v2 => if (e_b v2) = 0 then (some ((-1000000001 : Int32), h)) else ((fX9_findPlace l0 l1 l2 h).bind fun h3 => (fX9_timesOf l0 (nI 0) h3).bind fun v4 => some (v4, h3)))
def fX9_shape (l0 : Nat) (l1 : Int32) (l2 : Int32) (l3 : Int32) (h : e_H) : Option (Int64 × e_H) :=
  (o_obj h l0 9).bind fun _ => (fX9_isCurve l0 l1 h).bind fun v1 => if (e_b v1) = 0 then (some ((-1000000001 : Int64), h)) else ((fX9_isPlace l2).bind fun v2 => if (e_b v2) = 0 then (some ((-1000000001 : Int64), h)) else (if l3 < 0 then (some ((-1000000001 : Int64), h)) else (if (nI 16) < (l3 / (nI 10)) then (some ((-1000000001 : Int64), h)) else (if (l3 - l3 / (nI 10) * (nI 10)) ≤ (nI 4) then ((fX9_findPlace l0 l1 l2 h).bind fun h3 => (o_getR h3 l0 9 5).bind fun v4 => e_on v4 (none) (fun a5 => (o_ldL h3 a5 1 (((nI 5) * (l3 / (nI 10))) + (l3 - l3 / (nI 10) * (nI 10)))).bind fun v7 => some (v7, h3))) else (some ((-1000000001 : Int64), h))))))
def fX9_isSome (l0 : Int32) : Option Bool :=
  (fX9_in l0 (nI 1) (nI 16)).bind fun v1 => some v1
def fX9_lowestOf (l0 : Nat) (l1 : Int32) (l2 : Int32) (l3 : Int32) (h : e_H) : Option Int64 :=
  (o_obj h l0 9).bind fun _ => if l3 ≤ l2 then ((o_getR h l0 9 5).bind fun v1 => e_on v1 (none) (fun a2 => (o_ldL h a2 1 ((((nI 85) * l1) + ((nI 5) * (l2 - l3))) + l3)).bind fun v4 => some v4)) else (some (0 : Int64))
def fX9_lowest (l0 : Nat) (l1 : Int32) (l2 : Int32) (l3 : Int32) (h : e_H) : Option (Int64 × e_H) :=
  (o_obj h l0 9).bind fun _ => (fX9_isCurve l0 l1 h).bind fun v1 => if (e_b v1) = 0 then (some ((-1000000001 : Int64), h)) else ((fX9_isPlace l2).bind fun v2 => if (e_b v2) = 0 then (some ((-1000000001 : Int64), h)) else ((fX9_in l3 (nI 0) (nI 4)).bind fun v3 => if (e_b v3) = 0 then (some ((-1000000001 : Int64), h)) else ((fX9_findPlace l0 l1 l2 h).bind fun h4 => (fX9_timesOf l0 (nI 0) h4).bind fun v5 => (fX9_isSome v5).bind fun v6 => if (e_b v6) = 0 then (some ((-1000000002 : Int64), h4)) else ((fX9_lowestOf l0 (nI 0) v5 l3 h4).bind fun v7 => some (v7, h4)))))
def fX9_isRoot_b6 (h : e_H) (k6 : Nat → Int32 → Int32 → Int32 → Int64 → Int32 → Option Bool) (l0 : Nat) (l1 : Int32) (l2 : Int32) (l3 : Int32) (l4 : Int64) (l6 : Int32) : Option Bool :=
  if (nI 5) ≤ l6 then (if (lg_cmp l4 (0 : Int64)) = 0 then (some true) else (some false)) else ((fX9_lowestOf l0 l1 l2 l6 h).bind fun v1 => (fX9_raised (l3).toInt64 l6).bind fun v2 => k6 l0 l1 l2 l3 (l4 + (v1 * v2)) (l6 + (nI 1)))
def fX9_isRoot_L6 (h : e_H) : Nat → Nat → Int32 → Int32 → Int32 → Int64 → Int32 → Option Bool
  | 0 => fun _ _ _ _ _ _ => none
  | n + 1 => fX9_isRoot_b6 h (fX9_isRoot_L6 h n)
def fX9_isRoot (l0 : Nat) (l1 : Int32) (l2 : Int32) (l3 : Int32) (h : e_H) : Option Bool :=
  (o_obj h l0 9).bind fun _ => fX9_isRoot_L6 h 200 l0 l1 l2 l3 (0 : Int64) (nI 0)
def fX9_isSlope (l0 : Nat) (l1 : Int32) (l2 : Int32) (l3 : Int32) (h : e_H) : Option (Bool × e_H) :=
  (o_obj h l0 9).bind fun _ => (fX9_isRoot l0 l1 l2 l3 h).bind fun v1 => if (e_b v1) = 0 then (some (false, h)) else ((fX9_counts l0 (nI 1) h).bind fun v2 => (o_getR h l0 9 29).bind fun v3 => e_on v3 (none) (fun a4 => (o_stI h a4 0 (nI 0) l3).bind fun h6 => (o_getR h6 l0 9 29).bind fun v7 => e_on v7 (none) (fun a8 => (o_stI h6 a8 0 (nI 1) l2).bind fun h10 => if v2 < 0 then (some (true, h10)) else ((fX9_worksOut l0 v2 h10).bind fun p11 => if p11.1 = 0 then (some (false, p11.2)) else (some (true, p11.2))))))
def fX9_slopes_b77 (k47 : Nat → Int32 → Int32 → Int32 → e_H → Option (Int32 × e_H)) (l0 : Nat) (l3 : Int32) (l5 : Int32) (t0 : Int32) (t1 : Int32) (h : e_H) : Option (Int32 × e_H) :=
  k47 l0 l3 (t1 ||| t0) (l5 + (nI 1)) h
def fX9_slopes_b47 (k47 : Nat → Int32 → Int32 → Int32 → e_H → Option (Int32 × e_H)) (l0 : Nat) (l3 : Int32) (l4 : Int32) (l5 : Int32) (h : e_H) : Option (Int32 × e_H) :=
  if (nI 6) ≤ l5 then (some (l4, h)) else ((fX9_isSlope l0 (nI 0) l3 l5 h).bind fun p1 => if (e_b p1.1) = 0 then (fX9_slopes_b77 k47 l0 l3 l5 (nI 0) l4 p1.2) else (fX9_slopes_b77 k47 l0 l3 l5 ((nI 1) <<< ((l5 + (nI 5)) &&& 31)) l4 p1.2))
def fX9_slopes_L47 : Nat → Nat → Int32 → Int32 → Int32 → e_H → Option (Int32 × e_H)
  | 0 => fun _ _ _ _ _ => none
  | n + 1 => fX9_slopes_b47 (fX9_slopes_L47 n)
def fX9_slopes (l0 : Nat) (l1 : Int32) (l2 : Int32) (h : e_H) : Option (Int32 × e_H) :=
  (o_obj h l0 9).bind fun _ => (fX9_isCurve l0 l1 h).bind fun v1 => if (e_b v1) = 0 then (some ((-1000000001 : Int32), h)) else ((fX9_isPlace l2).bind fun v2 => if (e_b v2) = 0 then (some ((-1000000001 : Int32), h)) else ((fX9_findPlace l0 l1 l2 h).bind fun h3 => (fX9_timesOf l0 (nI 0) h3).bind fun v4 => (fX9_isSome v4).bind fun v5 => if (e_b v5) = 0 then (some ((-1000000002 : Int32), h3)) else (fX9_slopes_L47 200 l0 v4 (nI 0) (-5 : Int32) h3)))
def fX9_parts_b43 (k43 : Nat → Int32 → Int64 → Int32 → e_H → Option (Bool × e_H)) (l0 : Nat) (l1 : Int32) (l4 : Int64) (l6 : Int32) (h : e_H) : Option (Bool × e_H) :=
  if l6 < 0 then (some (true, h)) else ((o_getR h l0 9 6).bind fun v1 => e_on v1 (none) (fun a2 => (o_ldL h a2 1 l6).bind fun v4 => (o_getR h l0 9 6).bind fun v5 => e_on v5 (none) (fun a6 => (o_stL h a6 1 l6 l4).bind fun h8 => k43 l0 l1 ((l4 * (l1).toInt64) + v4) (l6 + (-1 : Int32)) h8)))
def fX9_parts_L43 : Nat → Nat → Int32 → Int64 → Int32 → e_H → Option (Bool × e_H)
  | 0 => fun _ _ _ _ _ => none
  | n + 1 => fX9_parts_b43 (fX9_parts_L43 n)
def fX9_parts_b5 (k5 : Nat → Int32 → Int64 → Int32 → e_H → Option (Bool × e_H)) (l0 : Nat) (l1 : Int32) (l2 : Int64) (l4 : Int32) (h : e_H) : Option (Bool × e_H) :=
  if l4 < 0 then (if (lg_cmp l2 (0 : Int64)) = 0 then (fX9_parts_L43 200 l0 l1 (0 : Int64) (nI 4) h) else (some (false, h))) else ((o_getR h l0 9 6).bind fun v1 => e_on v1 (none) (fun a2 => (o_ldL h a2 1 l4).bind fun v4 => k5 l0 l1 ((l2 * (l1).toInt64) + v4) (l4 + (-1 : Int32)) h))
def fX9_parts_L5 : Nat → Nat → Int32 → Int64 → Int32 → e_H → Option (Bool × e_H)
  | 0 => fun _ _ _ _ _ => none
  | n + 1 => fX9_parts_b5 (fX9_parts_L5 n)
def fX9_parts (l0 : Nat) (l1 : Int32) (h : e_H) : Option (Bool × e_H) :=
  (o_obj h l0 9).bind fun _ => fX9_parts_L5 200 l0 l1 (0 : Int64) (nI 4) h
def fX9_often_b86 (k86 : Nat → Int32 → Int32 → e_H → Option (Int32 × e_H)) (l0 : Nat) (l3 : Int32) (l5 : Int32) (h : e_H) : Option (Int32 × e_H) :=
  (fX9_parts l0 l3 h).bind fun p1 => if (e_b p1.1) = 0 then (some (l5, p1.2)) else (k86 l0 l3 (l5 + (nI 1)) p1.2)
def fX9_often_L86 : Nat → Nat → Int32 → Int32 → e_H → Option (Int32 × e_H)
  | 0 => fun _ _ _ _ => none
  | n + 1 => fX9_often_b86 (fX9_often_L86 n)
def fX9_often_b55 (k55 : Nat → Int32 → Int32 → Int32 → e_H → Option (Int32 × e_H)) (l0 : Nat) (l3 : Int32) (l4 : Int32) (l5 : Int32) (h : e_H) : Option (Int32 × e_H) :=
  if (nI 5) ≤ l5 then (fX9_often_L86 200 l0 l3 (nI 0) h) else ((o_getR h l0 9 6).bind fun v1 => e_on v1 ((fX9_lowestOf l0 (nI 0) l4 l5 h).bind fun v3 => none) (fun a2 => (fX9_lowestOf l0 (nI 0) l4 l5 h).bind fun v5 => (o_stL h a2 1 l5 v5).bind fun h6 => k55 l0 l3 l4 (l5 + (nI 1)) h6))
def fX9_often_L55 : Nat → Nat → Int32 → Int32 → Int32 → e_H → Option (Int32 × e_H)
  | 0 => fun _ _ _ _ _ => none
  | n + 1 => fX9_often_b55 (fX9_often_L55 n)
def fX9_often (l0 : Nat) (l1 : Int32) (l2 : Int32) (l3 : Int32) (h : e_H) : Option (Int32 × e_H) :=
  (o_obj h l0 9).bind fun _ => (fX9_isCurve l0 l1 h).bind fun v1 => if (e_b v1) = 0 then (some ((-1000000001 : Int32), h)) else ((fX9_isPlace l2).bind fun v2 => if (e_b v2) = 0 then (some ((-1000000001 : Int32), h)) else ((fX9_in l3 (-5 : Int32) (nI 5)).bind fun v3 => if (e_b v3) = 0 then (some ((-1000000001 : Int32), h)) else ((fX9_findPlace l0 l1 l2 h).bind fun h4 => (fX9_timesOf l0 (nI 0) h4).bind fun v5 => (fX9_isSome v5).bind fun v6 => if (e_b v6) = 0 then (some ((-1000000002 : Int32), h4)) else (fX9_often_L55 200 l0 l3 v5 (nI 0) h4))))
def fX9_blows_b145 (k33 : Nat → Int32 → Int32 → Int32 → Int32 → Int32 → e_H → Option e_H) (l0 : Nat) (l1 : Int32) (l2 : Int32) (l3 : Int32) (l4 : Int32) (l5 : Int32) (h : e_H) : Option e_H :=
  k33 l0 l1 l2 l3 l4 (l5 + (nI 1)) h
def fX9_blows_b84 (k33 : Nat → Int32 → Int32 → Int32 → Int32 → Int32 → e_H → Option e_H) (k84 : Nat → Int32 → Int32 → Int32 → Int32 → Int32 → Int64 → Int32 → Int32 → e_H → Option e_H) (l0 : Nat) (l1 : Int32) (l2 : Int32) (l3 : Int32) (l4 : Int32) (l5 : Int32) (l6 : Int64) (l8 : Int32) (l9 : Int32) (h : e_H) : Option e_H :=
  if (l5 - l5 / (nI 5) * (nI 5)) < l9 then (fX9_blows_b145 k33 l0 l1 l2 l3 l4 l5 h) else ((o_getR h l0 9 5).bind fun v1 => e_on v1 (none) (fun a2 => (o_ldL h a2 1 ((((nI 85) * l4) + ((nI 5) * l8)) + l9)).bind fun v4 => (fX9_choices (l5 - l5 / (nI 5) * (nI 5)) l9).bind fun v5 => (fX9_raised (l3).toInt64 ((l5 - l5 / (nI 5) * (nI 5)) - l9)).bind fun v6 => (o_stL h a2 1 ((((nI 85) * l4) + ((nI 5) * l8)) + l9) (v4 + ((l6 * v5) * v6))).bind fun h7 => k84 l0 l1 l2 l3 l4 l5 l6 l8 (l9 + (nI 1)) h7))
def fX9_Llows_L84 (k33 : Nat → Int32 → Int32 → Int32 → Int32 → Int32 → e_H → Option e_H) : Nat → Nat → Int32 → Int32 → Int32 → Int32 → Int32 → Int64 → Int32 → Int32 → e_H → Option e_H
  | 0 => fun _ _ _ _ _ _ _ _ _ _ => none
  | n + 1 => fX9_blows_b84 k33 (fX9_Llows_L84 k33 n)
def fX9_blows_b33 (k33 : Nat → Int32 → Int32 → Int32 → Int32 → Int32 → e_H → Option e_H) (l0 : Nat) (l1 : Int32) (l2 : Int32) (l3 : Int32) (l4 : Int32) (l5 : Int32) (h : e_H) : Option e_H :=
  if (nI 85) ≤ l5 then (some h) else ((o_getR h l0 9 5).bind fun v1 => e_on v1 (none) (fun a2 => (o_ldL h a2 1 (((nI 85) * l1) + l5)).bind fun v4 => if (lg_cmp v4 (0 : Int64)) = 0 then (fX9_blows_b145 k33 l0 l1 l2 l3 l4 l5 h) else (if (nI 16) < (((l5 / (nI 5)) + (l5 - l5 / (nI 5) * (nI 5))) - l2) then (fX9_blows_b145 k33 l0 l1 l2 l3 l4 l5 h) else (fX9_Llows_L84 k33 200 l0 l1 l2 l3 l4 l5 v4 (((l5 / (nI 5)) + (l5 - l5 / (nI 5) * (nI 5))) - l2) (nI 0) h))))
def fX9_Llows_L33 : Nat → Nat → Int32 → Int32 → Int32 → Int32 → Int32 → e_H → Option e_H
  | 0 => fun _ _ _ _ _ _ _ => none
  | n + 1 => fX9_blows_b33 (fX9_Llows_L33 n)
def fX9_blows_b3 (k3 : Nat → Int32 → Int32 → Int32 → Int32 → Int32 → e_H → Option e_H) (l0 : Nat) (l1 : Int32) (l2 : Int32) (l3 : Int32) (l4 : Int32) (l5 : Int32) (h : e_H) : Option e_H :=
  if (nI 85) ≤ l5 then (fX9_Llows_L33 200 l0 l1 l2 l3 l4 (nI 0) h) else ((o_getR h l0 9 5).bind fun v1 => e_on v1 (none) (fun a2 => (o_stL h a2 1 (((nI 85) * l4) + l5) (0 : Int64)).bind fun h4 => k3 l0 l1 l2 l3 l4 (l5 + (nI 1)) h4))
def fX9_Llows_L3 : Nat → Nat → Int32 → Int32 → Int32 → Int32 → Int32 → e_H → Option e_H
  | 0 => fun _ _ _ _ _ _ _ => none
  | n + 1 => fX9_blows_b3 (fX9_Llows_L3 n)
def fX9_blows (l0 : Nat) (l1 : Int32) (l2 : Int32) (l3 : Int32) (l4 : Int32) (h : e_H) : Option e_H :=
  (o_obj h l0 9).bind fun _ => fX9_Llows_L3 200 l0 l1 l2 l3 l4 (nI 0) h
def fX9_blown (l0 : Nat) (l1 : Int32) (l2 : Int32) (l3 : Int32) (l4 : Int32) (h : e_H) : Option (Int32 × e_H) :=
  (o_obj h l0 9).bind fun _ => (fX9_isCurve l0 l1 h).bind fun v1 => if (e_b v1) = 0 then (some ((-1000000001 : Int32), h)) else ((fX9_isPlace l2).bind fun v2 => if (e_b v2) = 0 then (some ((-1000000001 : Int32), h)) else ((fX9_in l3 (-5 : Int32) (nI 5)).bind fun v3 => if (e_b v3) = 0 then (some ((-1000000001 : Int32), h)) else ((fX9_in l4 (-5 : Int32) (nI 6)).bind fun v4 => if (e_b v4) = 0 then (some ((-1000000001 : Int32), h)) else ((fX9_findPlace l0 l1 l2 h).bind fun h5 => (fX9_timesOf l0 (nI 0) h5).bind fun v6 => (fX9_isSome v6).bind fun v7 => if (e_b v7) = 0 then (some ((-1000000002 : Int32), h5)) else ((fX9_blows l0 (nI 0) v6 l3 (nI 1) h5).bind fun h8 => (fX9_timesOf l0 (nI 1) h8).bind fun v9 => if l4 = (nI 6) then (some (v9, h8)) else ((fX9_isSome v9).bind fun v10 => if (e_b v10) = 0 then (some ((-1000000002 : Int32), h8)) else ((fX9_blows l0 (nI 1) v9 l4 (nI 2) h8).bind fun h11 => (fX9_timesOf l0 (nI 2) h11).bind fun v12 => some (v12, h11))))))))
def fX9_findTree_b224 (k39 : Nat → Int32 → Int32 → e_H → Option e_H) (l0 : Nat) (l1 : Int32) (l2 : Int32) (t0 : Int32) (t1 : Int32) (t2 : Nat) (h : e_H) : Option e_H :=
  (o_put h t2 9 9 (.int (t1 + t0))).bind fun h1 => k39 l0 l1 (l2 + (nI 1)) h1
def fX9_findTree_b207 (k39 : Nat → Int32 → Int32 → e_H → Option e_H) (l0 : Nat) (l1 : Int32) (l2 : Int32) (t0 : Int32) (h : e_H) : Option e_H :=
  (o_getI h l0 9 9).bind fun v1 => if t0 = 0 then (fX9_findTree_b224 k39 l0 l1 l2 (nI 0) v1 l0 h) else (fX9_findTree_b224 k39 l0 l1 l2 (nI 1) v1 l0 h)
def fX9_findTree_b170 (k39 : Nat → Int32 → Int32 → e_H → Option e_H) (l0 : Nat) (l1 : Int32) (l2 : Int32) (l3 : Int32) (l4 : Int32) (h : e_H) : Option e_H :=
  (o_getR h l0 9 10).bind fun v1 => e_on v1 (none) (fun a2 => (o_ldI h a2 0 l2).bind fun v3 => if v3 = l1 then (if l3 = (nI 1) then (fX9_findTree_b207 k39 l0 l1 l2 (nI 1) h) else (fX9_findTree_b207 k39 l0 l1 l2 (nI 0) h)) else ((o_getI h l0 9 7).bind fun v4 => if v4 = l4 then (fX9_findTree_b207 k39 l0 l1 l2 (nI 1) h) else (fX9_findTree_b207 k39 l0 l1 l2 (nI 0) h)))
def fX9_findTree_b164 (k39 : Nat → Int32 → Int32 → e_H → Option e_H) (k79 : Nat → Int32 → Int32 → Int32 → Int32 → Int32 → e_H → Option e_H) (l0 : Nat) (l1 : Int32) (l2 : Int32) (l3 : Int32) (l4 : Int32) (l5 : Int32) (h : e_H) : Option e_H :=
  k79 l0 l1 l2 l3 l4 (l5 + (nI 1)) h
def fX9_findTree_b160 (k39 : Nat → Int32 → Int32 → e_H → Option e_H) (k79 : Nat → Int32 → Int32 → Int32 → Int32 → Int32 → e_H → Option e_H) (l0 : Nat) (l1 : Int32) (l2 : Int32) (l3 : Int32) (l4 : Int32) (l5 : Int32) (t0 : Int32) (t1 : Int32) (t2 : Nat) (h : e_H) : Option e_H :=
  (o_put h t2 9 7 (.int (t1 + t0))).bind fun h1 => fX9_findTree_b164 k39 k79 l0 l1 l2 l3 l4 l5 h1
def fX9_findTree_b79 (k39 : Nat → Int32 → Int32 → e_H → Option e_H) (k79 : Nat → Int32 → Int32 → Int32 → Int32 → Int32 → e_H → Option e_H) (l0 : Nat) (l1 : Int32) (l2 : Int32) (l3 : Int32) (l4 : Int32) (l5 : Int32) (h : e_H) : Option e_H :=
  if (nI 6) ≤ l5 then (fX9_findTree_b170 k39 l0 l1 l2 l3 l4 h) else ((o_getR h l0 9 10).bind fun v1 => e_on v1 (none) (fun a2 => (o_ldI h a2 0 l2).bind fun v3 => if l1 ≤ v3 then (fX9_findTree_b170 k39 l0 l1 l2 l3 l4 h) else ((fX9_isSlope l0 l2 l3 l5 h).bind fun p4 => if (e_b p4.1) = 0 then (fX9_findTree_b164 k39 k79 l0 l1 l2 l3 l4 l5 p4.2) else ((o_getI p4.2 l0 9 7).bind fun v5 => (fX9_blows l0 l2 l3 l5 v5 p4.2).bind fun h6 => (o_getR h6 l0 9 10).bind fun v7 => e_on v7 ((o_getI h6 l0 9 7).bind fun v9 => (o_getR h6 l0 9 10).bind fun v10 => e_on v10 (none) (fun a11 => (o_ldI h6 a11 0 l2).bind fun v12 => none)) (fun a8 => (o_getI h6 l0 9 7).bind fun v14 => (o_getR h6 l0 9 10).bind fun v15 => e_on v15 (none) (fun a16 => (o_ldI h6 a16 0 l2).bind fun v17 => (o_stI h6 a8 0 v14 (v17 + (nI 1))).bind fun h18 => (o_getI h18 l0 9 7).bind fun v19 => (o_getI h18 l0 9 7).bind fun v20 => (fX9_timesOf l0 v20 h18).bind fun v21 => (fX9_isSome v21).bind fun v22 => if (e_b v22) = 0 then (fX9_findTree_b160 k39 k79 l0 l1 l2 l3 l4 l5 (nI 0) v19 l0 h18) else (fX9_findTree_b160 k39 k79 l0 l1 l2 l3 l4 l5 (nI 1) v19 l0 h18)))))))
def fX9_findTree_L79 (k39 : Nat → Int32 → Int32 → e_H → Option e_H) : Nat → Nat → Int32 → Int32 → Int32 → Int32 → Int32 → e_H → Option e_H
  | 0 => fun _ _ _ _ _ _ _ => none
  | n + 1 => fX9_findTree_b79 k39 (fX9_findTree_L79 k39 n)
def fX9_findTree_b39 (k39 : Nat → Int32 → Int32 → e_H → Option e_H) (l0 : Nat) (l1 : Int32) (l2 : Int32) (h : e_H) : Option e_H :=
  (o_getI h l0 9 7).bind fun v1 => if v1 ≤ l2 then (some h) else ((fX9_timesOf l0 l2 h).bind fun v2 => (o_getI h l0 9 8).bind fun v3 => (o_put h l0 9 8 (.int (v3 + ((v2 * (v2 - (nI 1))) / (nI 2))))).bind fun h4 => (o_getI h4 l0 9 7).bind fun v5 => fX9_findTree_L79 k39 200 l0 l1 l2 v2 v5 (-5 : Int32) h4)
def fX9_findTree_L39 : Nat → Nat → Int32 → Int32 → e_H → Option e_H
  | 0 => fun _ _ _ _ => none
  | n + 1 => fX9_findTree_b39 (fX9_findTree_L39 n)
def fX9_findTree_b17 (l0 : Nat) (l1 : Int32) (t0 : Int32) (t1 : Nat) (h : e_H) : Option e_H :=
  (o_put h t1 9 7 (.int t0)).bind fun h1 => (o_put h1 l0 9 8 (.int (nI 0))).bind fun h2 => (o_put h2 l0 9 9 (.int (nI 0))).bind fun h3 => (o_getR h3 l0 9 10).bind fun v4 => e_on v4 (none) (fun a5 => (o_stI h3 a5 0 (nI 0) (nI 1)).bind fun h7 => fX9_findTree_L39 200 l0 l1 (nI 0) h7)
def fX9_findTree (l0 : Nat) (l1 : Int32) (h : e_H) : Option e_H :=
  (o_obj h l0 9).bind fun _ => (fX9_timesOf l0 (nI 0) h).bind fun v1 => (fX9_isSome v1).bind fun v2 => if (e_b v2) = 0 then (fX9_findTree_b17 l0 l1 (nI 0) l0 h) else (fX9_findTree_b17 l0 l1 (nI 1) l0 h)
def fX9_tree (l0 : Nat) (l1 : Int32) (l2 : Int32) (l3 : Int32) (l4 : Int32) (h : e_H) : Option (Int32 × e_H) :=
  (o_obj h l0 9).bind fun _ => (fX9_isCurve l0 l1 h).bind fun v1 => if (e_b v1) = 0 then (some ((-1000000001 : Int32), h)) else ((fX9_isPlace l2).bind fun v2 => if (e_b v2) = 0 then (some ((-1000000001 : Int32), h)) else ((fX9_in l3 (nI 1) (nI 3)).bind fun v3 => if (e_b v3) = 0 then (some ((-1000000001 : Int32), h)) else ((fX9_in l4 (nI 0) (nI 2)).bind fun v4 => if (e_b v4) = 0 then (some ((-1000000001 : Int32), h)) else ((fX9_findPlace l0 l1 l2 h).bind fun h5 => (fX9_findTree l0 l3 h5).bind fun h6 => if l4 = 0 then ((o_getI h6 l0 9 7).bind fun v7 => some (v7, h6)) else (if l4 = (nI 1) then ((o_getI h6 l0 9 8).bind fun v8 => some (v8, h6)) else ((o_getI h6 l0 9 9).bind fun v9 => some (v9, h6)))))))
def fX9_cornerOf_b2 (h : e_H) (k2 : Nat → Int32 → Int32 → Option Int32) (l0 : Nat) (l1 : Int32) (l2 : Int32) : Option Int32 :=
  if (nI 17) ≤ l2 then (some l2) else ((o_getR h l0 9 5).bind fun v1 => e_on v1 (none) (fun a2 => (o_ldL h a2 1 (((nI 5) * l2) + l1)).bind fun v4 => if (lg_cmp v4 (0 : Int64)) = 0 then (k2 l0 l1 (l2 + (nI 1))) else (some l2)))
def fX9_cornerOf_L2 (h : e_H) : Nat → Nat → Int32 → Int32 → Option Int32
  | 0 => fun _ _ _ => none
  | n + 1 => fX9_cornerOf_b2 h (fX9_cornerOf_L2 h n)
def fX9_cornerOf (l0 : Nat) (l1 : Int32) (h : e_H) : Option Int32 :=
  (o_obj h l0 9).bind fun _ => fX9_cornerOf_L2 h 200 l0 l1 (nI 0)
def fX9_corner (l0 : Nat) (l1 : Int32) (l2 : Int32) (l3 : Int32) (h : e_H) : Option (Int32 × e_H) :=
  (o_obj h l0 9).bind fun _ => (fX9_isCurve l0 l1 h).bind fun v1 => if (e_b v1) = 0 then (some ((-1000000001 : Int32), h)) else ((fX9_isPlace l2).bind fun v2 => if (e_b v2) = 0 then (some ((-1000000001 : Int32), h)) else ((fX9_in l3 (nI 0) (nI 4)).bind fun v3 => if (e_b v3) = 0 then (some ((-1000000001 : Int32), h)) else ((fX9_findPlace l0 l1 l2 h).bind fun h4 => (fX9_cornerOf l0 l3 h4).bind fun v5 => if v5 = (nI 17) then (some ((-1000000005 : Int32), h4)) else (some (v5, h4)))))
def fX9_divisor_b13 (k13 : Int32 → Int32 → Option Int32) (l2 : Int32) (l3 : Int32) : Option Int32 :=
  if l3 ≤ 0 then (some l2) else (if l3 = 0 then none else k13 l3 (l2 - l2 / l3 * l3))
def fX9_divisor_L13 : Nat → Int32 → Int32 → Option Int32
  | 0 => fun _ _ => none
  | n + 1 => fX9_divisor_b13 (fX9_divisor_L13 n)
def fX9_divisor_b10 (l1 : Int32) (t0 : Int32) : Option Int32 :=
  fX9_divisor_L13 200 t0 l1
def fX9_divisor (l0 : Int32) (l1 : Int32) : Option Int32 :=
  if 0 ≤ l0 then (fX9_divisor_b10 l1 l0) else (fX9_divisor_b10 l1 (-l0))
def fX9_power_b163 (k71 : Nat → Int32 → Int32 → Int32 → Int32 → Int32 → e_H → Option (Int32 × e_H)) (l0 : Nat) (l3 : Int32) (l4 : Int32) (l5 : Int32) (l6 : Int32) (l7 : Int32) (h : e_H) : Option (Int32 × e_H) :=
  k71 l0 l3 l4 l5 l6 (l7 + (nI 1)) h
def fX9_power_b161 (k71 : Nat → Int32 → Int32 → Int32 → Int32 → Int32 → e_H → Option (Int32 × e_H)) (l0 : Nat) (l3 : Int32) (l4 : Int32) (l5 : Int32) (l7 : Int32) (t0 : Int32) (h : e_H) : Option (Int32 × e_H) :=
  fX9_power_b163 k71 l0 l3 l4 l5 t0 l7 h
def fX9_power_b147 (k71 : Nat → Int32 → Int32 → Int32 → Int32 → Int32 → e_H → Option (Int32 × e_H)) (l0 : Nat) (l3 : Int32) (l4 : Int32) (l6 : Int32) (l7 : Int32) (l9 : Int32) (l10 : Int32) (t0 : Int32) (h : e_H) : Option (Int32 × e_H) :=
  if l10 = 0 then (fX9_power_b161 k71 l0 l3 l4 t0 l7 l6 h) else (fX9_power_b161 k71 l0 l3 l4 t0 l7 l9 h)
def fX9_power_b133 (k71 : Nat → Int32 → Int32 → Int32 → Int32 → Int32 → e_H → Option (Int32 × e_H)) (l0 : Nat) (l3 : Int32) (l4 : Int32) (l5 : Int32) (l6 : Int32) (l7 : Int32) (l8 : Int32) (l9 : Int32) (t0 : Int32) (h : e_H) : Option (Int32 × e_H) :=
  if t0 = 0 then (fX9_power_b147 k71 l0 l3 l4 l6 l7 l9 t0 l5 h) else (fX9_power_b147 k71 l0 l3 l4 l6 l7 l9 t0 l8 h)
def fX9_power_b128 (k71 : Nat → Int32 → Int32 → Int32 → Int32 → Int32 → e_H → Option (Int32 × e_H)) (l0 : Nat) (l3 : Int32) (l4 : Int32) (l5 : Int32) (l6 : Int32) (l7 : Int32) (l8 : Int32) (l9 : Int32) (h : e_H) : Option (Int32 × e_H) :=
  fX9_power_b133 k71 l0 l3 l4 l5 l6 l7 l8 l9 (nI 1) h
def fX9_power_b71 (k71 : Nat → Int32 → Int32 → Int32 → Int32 → Int32 → e_H → Option (Int32 × e_H)) (l0 : Nat) (l3 : Int32) (l4 : Int32) (l5 : Int32) (l6 : Int32) (l7 : Int32) (h : e_H) : Option (Int32 × e_H) :=
  if (nI 5) ≤ l7 then (if l6 = 0 then (some ((-1000000005 : Int32), h)) else ((fX9_divisor l5 l6).bind fun v1 => if l3 = 0 then (if v1 = 0 then none else some ((l5 / v1), h)) else (if v1 = 0 then none else some ((l6 / v1), h)))) else ((fX9_cornerOf l0 l7 h).bind fun v2 => if (nI 17) ≤ v2 then (fX9_power_b163 k71 l0 l3 l4 l5 l6 l7 h) else ((fX9_cornerOf l0 l4 h).bind fun v3 => (fX9_cornerOf l0 l7 h).bind fun v4 => if l6 = 0 then (fX9_power_b128 k71 l0 l3 l4 l5 l6 l7 (v3 - v4) (l7 - l4) h) else (if ((v3 - v4) * l6) < (l5 * (l7 - l4)) then (fX9_power_b133 k71 l0 l3 l4 l5 l6 l7 (v3 - v4) (l7 - l4) (nI 0) h) else (fX9_power_b128 k71 l0 l3 l4 l5 l6 l7 (v3 - v4) (l7 - l4) h))))
def fX9_power_L71 : Nat → Nat → Int32 → Int32 → Int32 → Int32 → Int32 → e_H → Option (Int32 × e_H)
  | 0 => fun _ _ _ _ _ _ _ => none
  | n + 1 => fX9_power_b71 (fX9_power_L71 n)
def fX9_power_b59 (l0 : Nat) (l3 : Int32) (l4 : Int32) (h : e_H) : Option (Int32 × e_H) :=
  fX9_power_L71 200 l0 l3 l4 (nI 0) (nI 0) (l4 + (nI 1)) h
def fX9_power_b36 (k36 : Nat → Int32 → Int32 → e_H → Option (Int32 × e_H)) (l0 : Nat) (l3 : Int32) (l4 : Int32) (h : e_H) : Option (Int32 × e_H) :=
  if (nI 5) ≤ l4 then (fX9_power_b59 l0 l3 l4 h) else ((fX9_cornerOf l0 l4 h).bind fun v1 => if v1 = (nI 17) then (k36 l0 l3 (l4 + (nI 1)) h) else (fX9_power_b59 l0 l3 l4 h))
def fX9_power_L36 : Nat → Nat → Int32 → Int32 → e_H → Option (Int32 × e_H)
  | 0 => fun _ _ _ _ => none
  | n + 1 => fX9_power_b36 (fX9_power_L36 n)
def fX9_power (l0 : Nat) (l1 : Int32) (l2 : Int32) (l3 : Int32) (h : e_H) : Option (Int32 × e_H) :=
  (o_obj h l0 9).bind fun _ => (fX9_isCurve l0 l1 h).bind fun v1 => if (e_b v1) = 0 then (some ((-1000000001 : Int32), h)) else ((fX9_isPlace l2).bind fun v2 => if (e_b v2) = 0 then (some ((-1000000001 : Int32), h)) else ((fX9_in l3 (nI 0) (nI 1)).bind fun v3 => if (e_b v3) = 0 then (some ((-1000000001 : Int32), h)) else ((fX9_findPlace l0 l1 l2 h).bind fun h4 => fX9_power_L36 200 l0 l3 (nI 0) h4)))
def fX9_line_b137 (k38 : Nat → Int32 → Int32 → e_H → Option (Int32 × e_H)) (l0 : Nat) (l3 : Int32) (l4 : Int32) (l5 : Int64) (h : e_H) : Option (Int32 × e_H) :=
  if (lg_cmp l5 (0 : Int64)) = 0 then (k38 l0 l3 (l4 + (nI 1)) h) else (some (l4, h))
def fX9_line_b128 (k38 : Nat → Int32 → Int32 → e_H → Option (Int32 × e_H)) (k73 : Nat → Int32 → Int32 → Int64 → Int32 → e_H → Option (Int32 × e_H)) (l0 : Nat) (l3 : Int32) (l4 : Int32) (l7 : Int32) (t0 : Int64) (t1 : Int64) (h : e_H) : Option (Int32 × e_H) :=
  k73 l0 l3 l4 (t1 + t0) (l7 + (nI 1)) h
def fX9_line_b73 (k38 : Nat → Int32 → Int32 → e_H → Option (Int32 × e_H)) (k73 : Nat → Int32 → Int32 → Int64 → Int32 → e_H → Option (Int32 × e_H)) (l0 : Nat) (l3 : Int32) (l4 : Int32) (l5 : Int64) (l7 : Int32) (h : e_H) : Option (Int32 × e_H) :=
  if (nI 5) ≤ l7 then (fX9_line_b137 k38 l0 l3 l4 l5 h) else (if (nI 6) ≤ l3 then (fX9_line_b137 k38 l0 l3 l4 l5 h) else ((fX9_in (l4 - l7) (nI 0) (nI 16)).bind fun v1 => if (e_b v1) = 0 then (fX9_line_b128 k38 k73 l0 l3 l4 l7 (0 : Int64) l5 h) else ((o_getR h l0 9 5).bind fun v2 => e_on v2 (none) (fun a3 => (o_ldL h a3 1 (((nI 5) * (l4 - l7)) + l7)).bind fun v5 => (fX9_raised (l3).toInt64 l7).bind fun v6 => fX9_line_b128 k38 k73 l0 l3 l4 l7 (v5 * v6) l5 h))))
def fX9_line_L73 (k38 : Nat → Int32 → Int32 → e_H → Option (Int32 × e_H)) : Nat → Nat → Int32 → Int32 → Int64 → Int32 → e_H → Option (Int32 × e_H)
  | 0 => fun _ _ _ _ _ _ => none
  | n + 1 => fX9_line_b73 k38 (fX9_line_L73 k38 n)
def fX9_line_b68 (k38 : Nat → Int32 → Int32 → e_H → Option (Int32 × e_H)) (l0 : Nat) (l3 : Int32) (l4 : Int32) (t0 : Int64) (h : e_H) : Option (Int32 × e_H) :=
  fX9_line_L73 k38 200 l0 l3 l4 t0 (nI 0) h
def fX9_line_b67 (k38 : Nat → Int32 → Int32 → e_H → Option (Int32 × e_H)) (l0 : Nat) (l3 : Int32) (l4 : Int32) (h : e_H) : Option (Int32 × e_H) :=
  fX9_line_b68 k38 l0 l3 l4 (0 : Int64) h
def fX9_line_b38 (k38 : Nat → Int32 → Int32 → e_H → Option (Int32 × e_H)) (l0 : Nat) (l3 : Int32) (l4 : Int32) (h : e_H) : Option (Int32 × e_H) :=
  if (nI 21) ≤ l4 then (some ((-1 : Int32), h)) else (if l3 = (nI 6) then (if (nI 5) ≤ l4 then (fX9_line_b67 k38 l0 l3 l4 h) else ((o_getR h l0 9 5).bind fun v1 => e_on v1 (none) (fun a2 => (o_ldL h a2 1 l4).bind fun v4 => fX9_line_b68 k38 l0 l3 l4 v4 h))) else (fX9_line_b67 k38 l0 l3 l4 h))
def fX9_line_L38 : Nat → Nat → Int32 → Int32 → e_H → Option (Int32 × e_H)
  | 0 => fun _ _ _ _ => none
  | n + 1 => fX9_line_b38 (fX9_line_L38 n)
def fX9_line (l0 : Nat) (l1 : Int32) (l2 : Int32) (l3 : Int32) (h : e_H) : Option (Int32 × e_H) :=
  (o_obj h l0 9).bind fun _ => (fX9_isCurve l0 l1 h).bind fun v1 => if (e_b v1) = 0 then (some ((-1000000001 : Int32), h)) else ((fX9_isPlace l2).bind fun v2 => if (e_b v2) = 0 then (some ((-1000000001 : Int32), h)) else ((fX9_in l3 (-5 : Int32) (nI 6)).bind fun v3 => if (e_b v3) = 0 then (some ((-1000000001 : Int32), h)) else ((fX9_findPlace l0 l1 l2 h).bind fun h4 => fX9_line_L38 200 l0 l3 (nI 0) h4)))
def fX9_all_b162 (k39 : Nat → Int32 → Int32 → Int32 → Int32 → e_H → Option (Int32 × e_H)) (l0 : Nat) (l2 : Int32) (l4 : Int32) (l6 : Int32) (t0 : Int32) (t1 : Int32) (h : e_H) : Option (Int32 × e_H) :=
  k39 l0 l2 l4 (t1 + t0) (l6 + (nI 1)) h
def fX9_all_b147 (k39 : Nat → Int32 → Int32 → Int32 → Int32 → e_H → Option (Int32 × e_H)) (l0 : Nat) (l2 : Int32) (l4 : Int32) (l5 : Int32) (l6 : Int32) (l7 : Int32) (t0 : Int32) (h : e_H) : Option (Int32 × e_H) :=
  if l7 ≤ 0 then (fX9_all_b162 k39 l0 l2 l4 l6 (nI 0) l5 h) else (fX9_all_b162 k39 l0 l2 l4 l6 t0 l5 h)
def fX9_all_b39 (k39 : Nat → Int32 → Int32 → Int32 → Int32 → e_H → Option (Int32 × e_H)) (l0 : Nat) (l2 : Int32) (l4 : Int32) (l5 : Int32) (l6 : Int32) (h : e_H) : Option (Int32 × e_H) :=
  if (nI 121) ≤ l6 then (some (l5, h)) else ((fX9_findShape l0 ((l6 / (nI 11)) - (nI 5)) ((l6 - l6 / (nI 11) * (nI 11)) - (nI 5)) h).bind fun h1 => (fX9_timesOf l0 (nI 0) h1).bind fun v2 => (o_getR h1 l0 9 29).bind fun v3 => e_on v3 (none) (fun a4 => (o_stI h1 a4 0 (nI 0) ((l6 / (nI 11)) - (nI 5))).bind fun h6 => (o_getR h6 l0 9 29).bind fun v7 => e_on v7 (none) (fun a8 => (o_stI h6 a8 0 (nI 1) ((l6 - l6 / (nI 11) * (nI 11)) - (nI 5))).bind fun h10 => (o_getR h10 l0 9 29).bind fun v11 => e_on v11 (none) (fun a12 => (o_stI h10 a12 0 (nI 2) v2).bind fun h14 => if (nI 2) ≤ l2 then (if 0 ≤ l4 then ((fX9_worksOut l0 l4 h14).bind fun p15 => (fX9_within p15.1 (-99 : Int32) (nI 99)).bind fun v16 => fX9_all_b147 k39 l0 l2 l4 l5 l6 v2 v16 p15.2) else (fX9_all_b147 k39 l0 l2 l4 l5 l6 v2 v2 h14)) else (if v2 ≤ l2 then (fX9_all_b147 k39 l0 l2 l4 l5 l6 v2 (nI 0) h14) else (fX9_all_b147 k39 l0 l2 l4 l5 l6 v2 (nI 1) h14))))))
def fX9_all_L39 : Nat → Nat → Int32 → Int32 → Int32 → Int32 → e_H → Option (Int32 × e_H)
  | 0 => fun _ _ _ _ _ _ => none
  | n + 1 => fX9_all_b39 (fX9_all_L39 n)
def fX9_all (l0 : Nat) (l1 : Int32) (l2 : Int32) (h : e_H) : Option (Int32 × e_H) :=
  (o_obj h l0 9).bind fun _ => (fX9_isCurve l0 l1 h).bind fun v1 => if (e_b v1) = 0 then (some ((-1000000001 : Int32), h)) else ((fX9_in l2 (nI 0) (nI 2)).bind fun v2 => if (e_b v2) = 0 then (some ((-1000000001 : Int32), h)) else ((fX9_findTerms l0 l1 h).bind fun p3 => (fX9_counts l0 (nI 2) p3.2).bind fun v4 => fX9_all_L39 200 l0 l2 v4 (nI 0) (nI 0) p3.2))
def fX9_on_b67 (k27 : Nat → Int32 → Int32 → Int32 → e_H → Option (Int32 × e_H)) (l0 : Nat) (l2 : Int32) (l5 : Int32) (t0 : Int32) (t1 : Int32) (h : e_H) : Option (Int32 × e_H) :=
  if (t1 + t0) = l2 then (some ((((nI 100) * (l5 / (nI 11))) + (l5 - l5 / (nI 11) * (nI 11))), h)) else (k27 l0 l2 (t1 + t0) (l5 + (nI 1)) h)
def fX9_on_b27 (k27 : Nat → Int32 → Int32 → Int32 → e_H → Option (Int32 × e_H)) (l0 : Nat) (l2 : Int32) (l4 : Int32) (l5 : Int32) (h : e_H) : Option (Int32 × e_H) :=
  if (nI 121) ≤ l5 then (some ((-1000000005 : Int32), h)) else ((fX9_findShape l0 ((l5 / (nI 11)) - (nI 5)) ((l5 - l5 / (nI 11) * (nI 11)) - (nI 5)) h).bind fun h1 => (fX9_timesOf l0 (nI 0) h1).bind fun v2 => if v2 ≤ 0 then (fX9_on_b67 k27 l0 l2 l5 (nI 0) l4 h1) else (fX9_on_b67 k27 l0 l2 l5 (nI 1) l4 h1))
def fX9_on_L27 : Nat → Nat → Int32 → Int32 → Int32 → e_H → Option (Int32 × e_H)
  | 0 => fun _ _ _ _ _ => none
  | n + 1 => fX9_on_b27 (fX9_on_L27 n)
def fX9_on (l0 : Nat) (l1 : Int32) (l2 : Int32) (h : e_H) : Option (Int32 × e_H) :=
  (o_obj h l0 9).bind fun _ => (fX9_isCurve l0 l1 h).bind fun v1 => if (e_b v1) = 0 then (some ((-1000000001 : Int32), h)) else (if 0 ≤ l2 then ((fX9_findTerms l0 l1 h).bind fun p2 => fX9_on_L27 200 l0 l2 (-1 : Int32) (nI 0) p2.2) else (some ((-1000000001 : Int32), h)))
def fX9_genus_b91 (k43 : Nat → Int32 → Int32 → e_H → Option (Int32 × e_H)) (l0 : Nat) (l4 : Int32) (l5 : Int32) (h : e_H) : Option (Int32 × e_H) :=
  k43 l0 l4 (l5 + (nI 1)) h
def fX9_genus_b43 (k43 : Nat → Int32 → Int32 → e_H → Option (Int32 × e_H)) (l0 : Nat) (l4 : Int32) (l5 : Int32) (h : e_H) : Option (Int32 × e_H) :=
  if (nI 121) ≤ l5 then (some (l4, h)) else ((fX9_findShape l0 ((l5 / (nI 11)) - (nI 5)) ((l5 - l5 / (nI 11) * (nI 11)) - (nI 5)) h).bind fun h1 => (fX9_timesOf l0 (nI 0) h1).bind fun v2 => if v2 ≤ (nI 1) then (fX9_genus_b91 k43 l0 l4 l5 h1) else ((fX9_findTree l0 (nI 3) h1).bind fun h3 => (o_getI h3 l0 9 8).bind fun v4 => fX9_genus_b91 k43 l0 (l4 - v4) l5 h3))
def fX9_genus_L43 : Nat → Nat → Int32 → Int32 → e_H → Option (Int32 × e_H)
  | 0 => fun _ _ _ _ => none
  | n + 1 => fX9_genus_b43 (fX9_genus_L43 n)
def fX9_genus (l0 : Nat) (l1 : Int32) (h : e_H) : Option (Int32 × e_H) :=
  (o_obj h l0 9).bind fun _ => (fX9_isCurve l0 l1 h).bind fun v1 => if (e_b v1) = 0 then (some ((-1000000001 : Int32), h)) else ((fX9_findTerms l0 l1 h).bind fun p2 => (fX9_degreeNow l0 p2.2).bind fun v3 => if 0 ≤ v3 then (fX9_genus_L43 200 l0 (((v3 - (nI 1)) * (v3 - (nI 2))) / (nI 2)) (nI 0) p2.2) else (some ((-1000000002 : Int32), p2.2)))
def fX9_both_b141 (k91 : Nat → Int32 → Int32 → e_H → Option (Int32 × e_H)) (l0 : Nat) (l5 : Int32) (t0 : Int32) (t1 : Int32) (h : e_H) : Option (Int32 × e_H) :=
  k91 l0 (t1 + t0) (l5 + (nI 1)) h
def fX9_both_b140 (k91 : Nat → Int32 → Int32 → e_H → Option (Int32 × e_H)) (l0 : Nat) (l5 : Int32) (t0 : Int32) (h : e_H) : Option (Int32 × e_H) :=
  fX9_both_b141 k91 l0 l5 (nI 0) t0 h
def fX9_both_b91 (k91 : Nat → Int32 → Int32 → e_H → Option (Int32 × e_H)) (l0 : Nat) (l4 : Int32) (l5 : Int32) (h : e_H) : Option (Int32 × e_H) :=
  if (nI 121) ≤ l5 then (some (l4, h)) else ((fX9_findShape l0 ((l5 / (nI 11)) - (nI 5)) ((l5 - l5 / (nI 11) * (nI 11)) - (nI 5)) h).bind fun h1 => (o_getR h1 l0 9 11).bind fun v2 => e_on v2 (none) (fun a3 => (o_ldI h1 a3 3 l5).bind fun v4 => if v4 = 0 then (fX9_both_b140 k91 l0 l5 l4 h1) else ((fX9_timesOf l0 (nI 0) h1).bind fun v5 => if v5 ≤ 0 then (fX9_both_b140 k91 l0 l5 l4 h1) else (fX9_both_b141 k91 l0 l5 (nI 1) l4 h1))))
def fX9_Loth_L91 : Nat → Nat → Int32 → Int32 → e_H → Option (Int32 × e_H)
  | 0 => fun _ _ _ _ => none
  | n + 1 => fX9_both_b91 (fX9_Loth_L91 n)
def fX9_both_b72 (k28 : Nat → Int32 → Int32 → e_H → Option (Int32 × e_H)) (l0 : Nat) (l2 : Int32) (l4 : Int32) (t0 : Int32) (t1 : Int32) (h : e_H) : Option (Int32 × e_H) :=
  none
def fX9_both_b72x1 (k28 : Nat → Int32 → Int32 → e_H → Option (Int32 × e_H)) (l0 : Nat) (l2 : Int32) (l4 : Int32) (t0 : Int32) (t1 : Int32) (t2 : Nat) (h : e_H) : Option (Int32 × e_H) :=
  (o_stI h t2 3 t1 (vp_nar .boolean t0)).bind fun h1 => k28 l0 l2 (l4 + (nI 1)) h1
def fX9_both_b28 (k28 : Nat → Int32 → Int32 → e_H → Option (Int32 × e_H)) (l0 : Nat) (l2 : Int32) (l4 : Int32) (h : e_H) : Option (Int32 × e_H) :=
  if (nI 121) ≤ l4 then ((fX9_findTerms l0 l2 h).bind fun p1 => fX9_Loth_L91 200 l0 (nI 0) (nI 0) p1.2) else ((fX9_findShape l0 ((l4 / (nI 11)) - (nI 5)) ((l4 - l4 / (nI 11) * (nI 11)) - (nI 5)) h).bind fun h2 => (o_getR h2 l0 9 11).bind fun v3 => e_on v3 ((fX9_timesOf l0 (nI 0) h2).bind fun v5 => if v5 ≤ 0 then (fX9_both_b72 k28 l0 l2 l4 (nI 0) l4 h2) else (fX9_both_b72 k28 l0 l2 l4 (nI 1) l4 h2)) (fun a4 => (fX9_timesOf l0 (nI 0) h2).bind fun v6 => if v6 ≤ 0 then (fX9_both_b72x1 k28 l0 l2 l4 (nI 0) l4 a4 h2) else (fX9_both_b72x1 k28 l0 l2 l4 (nI 1) l4 a4 h2)))
def fX9_Loth_L28 : Nat → Nat → Int32 → Int32 → e_H → Option (Int32 × e_H)
  | 0 => fun _ _ _ _ => none
  | n + 1 => fX9_both_b28 (fX9_Loth_L28 n)
def fX9_both (l0 : Nat) (l1 : Int32) (l2 : Int32) (h : e_H) : Option (Int32 × e_H) :=
  (o_obj h l0 9).bind fun _ => (fX9_isCurve l0 l1 h).bind fun v1 => if (e_b v1) = 0 then (some ((-1000000001 : Int32), h)) else ((fX9_isCurve l0 l2 h).bind fun v2 => if (e_b v2) = 0 then (some ((-1000000001 : Int32), h)) else ((fX9_findTerms l0 l1 h).bind fun p3 => fX9_Loth_L28 200 l0 l2 (nI 0) p3.2))
def fX9_feed_b47 (k18 : Nat → Int32 → Int32 → Int32 → Int32 → e_H → Option (Int32 × e_H)) (l0 : Nat) (l1 : Int32) (l2 : Int32) (l3 : Int32) (l4 : Int32) (t0 : Int32) (h : e_H) : Option (Int32 × e_H) :=
  (o_getR h l0 9 12).bind fun v1 => e_on v1 ((o_getI h l0 9 13).bind fun v3 => none) (fun a2 => (o_getI h l0 9 13).bind fun v5 => (o_stI h a2 0 (v5 + l4) ((t0 >>> (((nI 24) - ((nI 8) * (l4 - l4 / (nI 4) * (nI 4)))) &&& 31)) &&& (nI 255))).bind fun h6 => k18 l0 l1 l2 l3 (l4 + (nI 1)) h6)
def fX9_feed_b18 (k18 : Nat → Int32 → Int32 → Int32 → Int32 → e_H → Option (Int32 × e_H)) (l0 : Nat) (l1 : Int32) (l2 : Int32) (l3 : Int32) (l4 : Int32) (h : e_H) : Option (Int32 × e_H) :=
  if (nI 12) ≤ l4 then ((o_getI h l0 9 13).bind fun v1 => (o_put h l0 9 13 (.int (v1 + (nI 12)))).bind fun h2 => (o_getI h2 l0 9 13).bind fun v3 => some (v3, h2)) else (if (nI 4) ≤ l4 then (if (nI 8) ≤ l4 then (fX9_feed_b47 k18 l0 l1 l2 l3 l4 l3 h) else (fX9_feed_b47 k18 l0 l1 l2 l3 l4 l2 h)) else (fX9_feed_b47 k18 l0 l1 l2 l3 l4 l1 h))
def fX9_feed_L18 : Nat → Nat → Int32 → Int32 → Int32 → Int32 → e_H → Option (Int32 × e_H)
  | 0 => fun _ _ _ _ _ _ => none
  | n + 1 => fX9_feed_b18 (fX9_feed_L18 n)
def fX9_feed (l0 : Nat) (l1 : Int32) (l2 : Int32) (l3 : Int32) (h : e_H) : Option (Int32 × e_H) :=
  (o_obj h l0 9).bind fun _ => (o_getI h l0 9 13).bind fun v1 => if (v1 + (nI 12)) ≤ (nI 96) then (fX9_feed_L18 200 l0 l1 l2 l3 (nI 0) h) else (some ((-1000000003 : Int32), h))
def fX9_trim (l0 : Nat) (l1 : Int32) (h : e_H) : Option (Int32 × e_H) :=
  (o_obj h l0 9).bind fun _ => (o_getI h l0 9 13).bind fun v1 => (fX9_in l1 (nI 0) v1).bind fun v2 => if (e_b v2) = 0 then (some ((-1000000001 : Int32), h)) else ((o_put h l0 9 13 (.int l1)).bind fun h3 => some (l1, h3))
def fX9_isLetter (l0 : Nat) (l1 : Int32) (h : e_H) : Option Bool :=
  (o_obj h l0 9).bind fun _ => (o_getI h l0 9 13).bind fun v1 => if v1 ≤ l1 then (some false) else ((o_getR h l0 9 12).bind fun v2 => e_on v2 (none) (fun a3 => (o_ldI h a3 0 l1).bind fun v4 => if v4 < (nI 97) then (some false) else ((o_getR h l0 9 12).bind fun v5 => e_on v5 (none) (fun a6 => (o_ldI h a6 0 l1).bind fun v7 => if (nI 122) < v7 then (some false) else (some true)))))
def fX9_isFigure (l0 : Nat) (l1 : Int32) (h : e_H) : Option Bool :=
  (o_obj h l0 9).bind fun _ => (o_getI h l0 9 13).bind fun v1 => if v1 ≤ l1 then (some false) else ((o_getR h l0 9 12).bind fun v2 => e_on v2 (none) (fun a3 => (o_ldI h a3 0 l1).bind fun v4 => if v4 < (nI 48) then (some false) else ((o_getR h l0 9 12).bind fun v5 => e_on v5 (none) (fun a6 => (o_ldI h a6 0 l1).bind fun v7 => if (nI 57) < v7 then (some false) else (some true)))))
def fX9_go_b261 (l0 : Nat) (t0 : Int32) (t1 : Nat) (h : e_H) : Option e_H :=
  (o_put h t1 9 16 (.int t0)).bind fun h1 => (o_getI h1 l0 9 14).bind fun v2 => (o_put h1 l0 9 18 (.int v2)).bind fun h3 => some h3
def fX9_go_b256 (l0 : Nat) (t0 : Nat) (h : e_H) : Option e_H :=
  fX9_go_b261 l0 (nI 4) t0 h
def fX9_go_b222 (k170 : Nat → Int32 → e_H → Option e_H) (l0 : Nat) (l1 : Int32) (t0 : Int32) (t1 : Nat) (h : e_H) : Option e_H :=
  (o_put h t1 9 17 (.int t0)).bind fun h1 => (o_getI h1 l0 9 14).bind fun v2 => (o_put h1 l0 9 14 (.int (v2 + (nI 1)))).bind fun h3 => k170 l0 l1 h3
def fX9_go_b170 (k170 : Nat → Int32 → e_H → Option e_H) (l0 : Nat) (l1 : Int32) (h : e_H) : Option e_H :=
  (o_getI h l0 9 14).bind fun v1 => (fX9_isFigure l0 v1 h).bind fun v2 => if (e_b v2) = 0 then (if l1 = 0 then ((o_getI h l0 9 14).bind fun v3 => (o_getI h l0 9 15).bind fun v4 => if (v3 - v4) ≤ (nI 4) then (fX9_go_b261 l0 (nI 2) l0 h) else (fX9_go_b256 l0 l0 h)) else (fX9_go_b256 l0 l0 h)) else ((o_getI h l0 9 14).bind fun v5 => (o_getI h l0 9 15).bind fun v6 => if (nI 4) ≤ (v5 - v6) then ((o_getI h l0 9 17).bind fun v7 => fX9_go_b222 k170 l0 l1 v7 l0 h) else ((o_getI h l0 9 17).bind fun v8 => (o_getR h l0 9 12).bind fun v9 => e_on v9 ((o_getI h l0 9 14).bind fun v11 => none) (fun a10 => (o_getI h l0 9 14).bind fun v12 => (o_ldI h a10 0 v12).bind fun v13 => fX9_go_b222 k170 l0 l1 ((((nI 10) * v8) + v13) - (nI 48)) l0 h)))
def fX9_go_L170 : Nat → Nat → Int32 → e_H → Option e_H
  | 0 => fun _ _ _ => none
  | n + 1 => fX9_go_b170 (fX9_go_L170 n)
def fX9_go_b127 (l0 : Nat) (t0 : Int32) (t1 : Nat) (h : e_H) : Option e_H :=
  (o_put h t1 9 16 (.int t0)).bind fun h1 => (o_getR h1 l0 9 12).bind fun v2 => e_on v2 ((o_getI h1 l0 9 15).bind fun v4 => none) (fun a3 => (o_getI h1 l0 9 15).bind fun v5 => (o_ldI h1 a3 0 v5).bind fun v6 => (o_put h1 l0 9 17 (.int v6)).bind fun h7 => (o_getI h7 l0 9 14).bind fun v8 => (o_put h7 l0 9 18 (.int v8)).bind fun h9 => some h9)
def fX9_go_b93 (k93 : Nat → Int32 → e_H → Option e_H) (l0 : Nat) (l1 : Int32) (h : e_H) : Option e_H :=
  (o_getI h l0 9 14).bind fun v1 => (fX9_isLetter l0 v1 h).bind fun v2 => if (e_b v2) = 0 then (if l1 = 0 then (fX9_go_b127 l0 (nI 1) l0 h) else (fX9_go_b127 l0 (nI 4) l0 h)) else ((o_getI h l0 9 14).bind fun v3 => (o_put h l0 9 14 (.int (v3 + (nI 1)))).bind fun h4 => k93 l0 l1 h4)
def fX9_go_L93 : Nat → Nat → Int32 → e_H → Option e_H
  | 0 => fun _ _ _ => none
  | n + 1 => fX9_go_b93 (fX9_go_L93 n)
def fX9_go_b62 (l0 : Nat) (t0 : Int32) (h : e_H) : Option e_H :=
  (o_getI h l0 9 15).bind fun v1 => (o_getI h l0 9 13).bind fun v2 => if v1 = v2 then ((o_put h l0 9 16 (.int (nI 0))).bind fun h3 => some h3) else ((o_getI h l0 9 15).bind fun v4 => (fX9_isLetter l0 v4 h).bind fun v5 => if (e_b v5) = 0 then ((o_getI h l0 9 15).bind fun v6 => (fX9_isFigure l0 v6 h).bind fun v7 => if (e_b v7) = 0 then ((o_put h l0 9 16 (.int (nI 3))).bind fun h8 => (o_getR h8 l0 9 12).bind fun v9 => e_on v9 ((o_getI h8 l0 9 15).bind fun v11 => none) (fun a10 => (o_getI h8 l0 9 15).bind fun v12 => (o_ldI h8 a10 0 v12).bind fun v13 => (o_put h8 l0 9 17 (.int v13)).bind fun h14 => (o_getI h14 l0 9 14).bind fun v15 => (o_put h14 l0 9 14 (.int (v15 + (nI 1)))).bind fun h16 => some h16)) else ((o_put h l0 9 17 (.int (nI 0))).bind fun h17 => fX9_go_L170 200 l0 t0 h17)) else (fX9_go_L93 200 l0 t0 h))
def fX9_go_b38 (l0 : Nat) (h : e_H) : Option e_H :=
  (o_getI h l0 9 14).bind fun v1 => (o_put h l0 9 15 (.int v1)).bind fun h2 => (o_getI h2 l0 9 15).bind fun v3 => (o_getI h2 l0 9 18).bind fun v4 => if v3 = v4 then (fX9_go_b62 l0 (nI 1) h2) else (fX9_go_b62 l0 (nI 0) h2)
def fX9_go_b0 (k0 : Nat → e_H → Option e_H) (l0 : Nat) (h : e_H) : Option e_H :=
  (o_getI h l0 9 14).bind fun v1 => (o_getI h l0 9 13).bind fun v2 => if v2 ≤ v1 then (fX9_go_b38 l0 h) else ((o_getR h l0 9 12).bind fun v3 => e_on v3 ((o_getI h l0 9 14).bind fun v5 => none) (fun a4 => (o_getI h l0 9 14).bind fun v6 => (o_ldI h a4 0 v6).bind fun v7 => if v7 = (nI 32) then ((o_getI h l0 9 14).bind fun v8 => (o_put h l0 9 14 (.int (v8 + (nI 1)))).bind fun h9 => k0 l0 h9) else (fX9_go_b38 l0 h)))
def fX9_go_L0 : Nat → Nat → e_H → Option e_H
  | 0 => fun _ _ => none
  | n + 1 => fX9_go_b0 (fX9_go_L0 n)
def fX9_go (l0 : Nat) (h : e_H) : Option e_H :=
  (o_obj h l0 9).bind fun _ => fX9_go_L0 200 l0 h
def fX9_takesKey_b106 (k12 : Nat → Int32 → e_H → Option (Bool × e_H)) (l0 : Nat) (l1 : Int32) (l3 : Int32) (h : e_H) : Option (Bool × e_H) :=
  if l3 = 0 then (k12 l0 (l1 + (nI 1)) h) else ((o_put h l0 9 19 (.int l1)).bind fun h1 => (fX9_go l0 h1).bind fun h2 => some (true, h2))
def fX9_takesKey_b99 (k12 : Nat → Int32 → e_H → Option (Bool × e_H)) (k55 : Nat → Int32 → Int32 → Int32 → Int32 → e_H → Option (Bool × e_H)) (l0 : Nat) (l1 : Int32) (l2 : Int32) (l4 : Int32) (t0 : Int32) (h : e_H) : Option (Bool × e_H) :=
  k55 l0 l1 l2 t0 (l4 + (nI 1)) h
def fX9_takesKey_b55 (k12 : Nat → Int32 → e_H → Option (Bool × e_H)) (k55 : Nat → Int32 → Int32 → Int32 → Int32 → e_H → Option (Bool × e_H)) (l0 : Nat) (l1 : Int32) (l2 : Int32) (l3 : Int32) (l4 : Int32) (h : e_H) : Option (Bool × e_H) :=
  if l2 ≤ l4 then (fX9_takesKey_b106 k12 l0 l1 l3 h) else (if l3 = 0 then (fX9_takesKey_b106 k12 l0 l1 l3 h) else ((o_getR h l0 9 12).bind fun v1 => e_on v1 ((o_getI h l0 9 15).bind fun v3 => none) (fun a2 => (o_getI h l0 9 15).bind fun v4 => (o_ldI h a2 0 (v4 + l4)).bind fun v5 => (o_getR h l0 9 20).bind fun v6 => e_on v6 ((o_getR h l0 9 21).bind fun v8 => e_on v8 (none) (fun a9 => (o_ldI h a9 0 l1).bind fun v10 => none)) (fun a7 => (o_getR h l0 9 21).bind fun v11 => e_on v11 (none) (fun a12 => (o_ldI h a12 0 l1).bind fun v13 => (o_ldI h a7 2 (v13 + l4)).bind fun v14 => if v5 = v14 then (fX9_takesKey_b99 k12 k55 l0 l1 l2 l4 (nI 1) h) else (fX9_takesKey_b99 k12 k55 l0 l1 l2 l4 (nI 0) h))))))
def fX9_takesKey_L55 (k12 : Nat → Int32 → e_H → Option (Bool × e_H)) : Nat → Nat → Int32 → Int32 → Int32 → Int32 → e_H → Option (Bool × e_H)
  | 0 => fun _ _ _ _ _ _ => none
  | n + 1 => fX9_takesKey_b55 k12 (fX9_takesKey_L55 k12 n)
def fX9_takesKey_b51 (k12 : Nat → Int32 → e_H → Option (Bool × e_H)) (l0 : Nat) (l1 : Int32) (l2 : Int32) (t0 : Int32) (h : e_H) : Option (Bool × e_H) :=
  fX9_takesKey_L55 k12 200 l0 l1 l2 t0 (nI 0) h
def fX9_takesKey_b12 (k12 : Nat → Int32 → e_H → Option (Bool × e_H)) (l0 : Nat) (l1 : Int32) (h : e_H) : Option (Bool × e_H) :=
  if (nI 3) ≤ l1 then (some (false, h)) else ((o_getR h l0 9 21).bind fun v1 => e_on v1 (none) (fun a2 => (o_ldI h a2 0 (l1 + (nI 1))).bind fun v3 => (o_getR h l0 9 21).bind fun v4 => e_on v4 (none) (fun a5 => (o_ldI h a5 0 l1).bind fun v6 => (o_getI h l0 9 14).bind fun v7 => (o_getI h l0 9 15).bind fun v8 => if (v3 - v6) = (v7 - v8) then (fX9_takesKey_b51 k12 l0 l1 (v3 - v6) (nI 1) h) else (fX9_takesKey_b51 k12 l0 l1 (v3 - v6) (nI 0) h))))
def fX9_takesKey_L12 : Nat → Nat → Int32 → e_H → Option (Bool × e_H)
  | 0 => fun _ _ _ => none
  | n + 1 => fX9_takesKey_b12 (fX9_takesKey_L12 n)
def fX9_takesKey (l0 : Nat) (h : e_H) : Option (Bool × e_H) :=
  (o_obj h l0 9).bind fun _ => (o_getI h l0 9 16).bind fun v1 => if v1 = (nI 1) then (fX9_takesKey_L12 200 l0 (nI 0) h) else (some (false, h))
def fX9_nameOf (l0 : Nat) (l1 : Int32) (h : e_H) : Option Int32 :=
  (o_obj h l0 9).bind fun _ => (o_getI h l0 9 19).bind fun v1 => if v1 = nI 0 then (if l1 = (nI 105) then (some (nI 0)) else (if l1 = (nI 106) then (some (nI 1)) else (if l1 = (nI 99) then (some (nI 2)) else (some (-1 : Int32))))) else (if v1 = nI 1 then (if l1 = (nI 116) then (some (nI 0)) else (if l1 = (nI 109) then (some (nI 1)) else (some (-1 : Int32)))) else (if l1 = (nI 120) then (some (nI 0)) else (if l1 = (nI 121) then (some (nI 1)) else (if l1 = (nI 109) then (some (nI 2)) else (some (-1 : Int32))))))
def fX9_rank (l0 : Int32) : Option Int32 :=
  if l0 = (-1 : Int32) then (some (nI 1)) else (if l0 = (-2 : Int32) then (some (nI 2)) else (if l0 < (-5 : Int32) then (if l0 < (-7 : Int32) then (if l0 < (-9 : Int32) then (some (nI 6)) else (some (nI 5))) else (some (nI 4))) else (some (nI 3))))
def fX9_settle_b0 (k0 : Nat → Int32 → e_H → Option e_H) (l0 : Nat) (l1 : Int32) (h : e_H) : Option e_H :=
  (o_getI h l0 9 26).bind fun v1 => if v1 ≤ 0 then (some h) else ((o_getR h l0 9 25).bind fun v2 => e_on v2 ((o_getI h l0 9 26).bind fun v4 => none) (fun a3 => (o_getI h l0 9 26).bind fun v5 => (o_ldI h a3 0 (v5 - (nI 1))).bind fun v6 => if v6 = (-11 : Int32) then (some h) else ((o_getR h l0 9 25).bind fun v7 => e_on v7 ((o_getI h l0 9 26).bind fun v9 => none) (fun a8 => (o_getI h l0 9 26).bind fun v10 => (o_ldI h a8 0 (v10 - (nI 1))).bind fun v11 => (fX9_rank v11).bind fun v12 => if v12 < l1 then (some h) else ((o_getI h l0 9 26).bind fun v13 => (o_put h l0 9 26 (.int (v13 - (nI 1)))).bind fun h14 => (o_getR h14 l0 9 22).bind fun v15 => e_on v15 ((o_getI h14 l0 9 23).bind fun v17 => (o_getR h14 l0 9 25).bind fun v18 => e_on v18 ((o_getI h14 l0 9 26).bind fun v20 => none) (fun a19 => (o_getI h14 l0 9 26).bind fun v21 => (o_ldI h14 a19 0 v21).bind fun v22 => none)) (fun a16 => (o_getI h14 l0 9 23).bind fun v24 => (o_getR h14 l0 9 25).bind fun v25 => e_on v25 ((o_getI h14 l0 9 26).bind fun v27 => none) (fun a26 => (o_getI h14 l0 9 26).bind fun v28 => (o_ldI h14 a26 0 v28).bind fun v29 => (o_stI h14 a16 0 v24 v29).bind fun h30 => (o_getI h30 l0 9 23).bind fun v31 => (o_put h30 l0 9 23 (.int (v31 + (nI 1)))).bind fun h32 => k0 l0 l1 h32)))))))
def fX9_settle_L0 : Nat → Nat → Int32 → e_H → Option e_H
  | 0 => fun _ _ _ => none
  | n + 1 => fX9_settle_b0 (fX9_settle_L0 n)
def fX9_settle (l0 : Nat) (l1 : Int32) (h : e_H) : Option e_H :=
  (o_obj h l0 9).bind fun _ => fX9_settle_L0 200 l0 l1 h
def fX9_takesPart_b87 (l0 : Nat) (t0 : Int32) (t1 : Int32) (h : e_H) : Option (Bool × e_H) :=
  none
def fX9_takesPart_b87x1 (l0 : Nat) (t0 : Int32) (t1 : Int32) (t2 : Nat) (h : e_H) : Option (Bool × e_H) :=
  (o_stI h t2 0 t1 t0).bind fun h1 => (o_getI h1 l0 9 23).bind fun v2 => (o_put h1 l0 9 23 (.int (v2 + (nI 1)))).bind fun h3 => (o_getI h3 l0 9 24).bind fun v4 => (o_put h3 l0 9 24 (.int (v4 + (nI 1)))).bind fun h5 => (fX9_settle l0 (nI 6) h5).bind fun h6 => (fX9_go l0 h6).bind fun h7 => some (true, h7)
def fX9_takesPart_b52 (l0 : Nat) (h : e_H) : Option (Bool × e_H) :=
  (o_getR h l0 9 22).bind fun v1 => e_on v1 ((o_getI h l0 9 23).bind fun v3 => (o_getI h l0 9 16).bind fun v4 => if v4 = (nI 2) then ((o_getI h l0 9 17).bind fun v5 => fX9_takesPart_b87 l0 v5 v3 h) else ((o_getI h l0 9 17).bind fun v6 => (fX9_nameOf l0 v6 h).bind fun v7 => fX9_takesPart_b87 l0 ((nI 10000) + v7) v3 h)) (fun a2 => (o_getI h l0 9 23).bind fun v8 => (o_getI h l0 9 16).bind fun v9 => if v9 = (nI 2) then ((o_getI h l0 9 17).bind fun v10 => fX9_takesPart_b87x1 l0 v10 v8 a2 h) else ((o_getI h l0 9 17).bind fun v11 => (fX9_nameOf l0 v11 h).bind fun v12 => fX9_takesPart_b87x1 l0 ((nI 10000) + v12) v8 a2 h))
def fX9_takesPart_b37 (l0 : Nat) (t0 : Int32) (h : e_H) : Option (Bool × e_H) :=
  (o_getI h l0 9 16).bind fun v1 => if v1 = (nI 2) then (fX9_takesPart_b52 l0 h) else (if t0 = 0 then (some (false, h)) else (fX9_takesPart_b52 l0 h))
def fX9_takesPart_b36 (l0 : Nat) (h : e_H) : Option (Bool × e_H) :=
  fX9_takesPart_b37 l0 (nI 0) h
def fX9_takesPart (l0 : Nat) (h : e_H) : Option (Bool × e_H) :=
  (o_obj h l0 9).bind fun _ => (o_getI h l0 9 16).bind fun v1 => if v1 = (nI 1) then ((o_getI h l0 9 14).bind fun v2 => (o_getI h l0 9 15).bind fun v3 => if (v2 - v3) = (nI 1) then ((o_getI h l0 9 17).bind fun v4 => (fX9_nameOf l0 v4 h).bind fun v5 => if v5 < 0 then (fX9_takesPart_b36 l0 h) else (fX9_takesPart_b37 l0 (nI 1) h)) else (fX9_takesPart_b36 l0 h)) else (fX9_takesPart_b36 l0 h)
def fX9_notsOpen_b29 (h : e_H) (k4 : Nat → Int32 → Int32 → Option Int32) (l0 : Nat) (l2 : Int32) (t0 : Int32) (t1 : Int32) : Option Int32 :=
  k4 l0 (t1 + t0) (l2 + (nI 1))
def fX9_notsOpen_b4 (h : e_H) (k4 : Nat → Int32 → Int32 → Option Int32) (l0 : Nat) (l1 : Int32) (l2 : Int32) : Option Int32 :=
  (o_getI h l0 9 26).bind fun v1 => if v1 ≤ l2 then (some l1) else ((o_getR h l0 9 25).bind fun v2 => e_on v2 (none) (fun a3 => (o_ldI h a3 0 l2).bind fun v4 => if v4 = (-10 : Int32) then (fX9_notsOpen_b29 h k4 l0 l2 (nI 1) l1) else (fX9_notsOpen_b29 h k4 l0 l2 (nI 0) l1)))
def fX9_notsOpen_L4 (h : e_H) : Nat → Nat → Int32 → Int32 → Option Int32
  | 0 => fun _ _ _ => none
  | n + 1 => fX9_notsOpen_b4 h (fX9_notsOpen_L4 h n)
def fX9_notsOpen (l0 : Nat) (h : e_H) : Option Int32 :=
  (o_obj h l0 9).bind fun _ => fX9_notsOpen_L4 h 200 l0 (nI 0) (nI 0)
def fX9_signHere (l0 : Nat) (h : e_H) : Option Int32 :=
  (o_obj h l0 9).bind fun _ => (o_getI h l0 9 16).bind fun v1 => if v1 = (nI 3) then ((o_getI h l0 9 17).bind fun v2 => if v2 = nI 38 then (some (-2 : Int32)) else (if v2 = nI 42 then (some (-8 : Int32)) else (if v2 = nI 43 then (some (-6 : Int32)) else (if v2 = nI 45 then (some (-7 : Int32)) else (if v2 = nI 47 then (some (-9 : Int32)) else (if v2 = nI 60 then (some (-3 : Int32)) else (if v2 = nI 61 then (some (-4 : Int32)) else (if v2 = nI 62 then (some (-5 : Int32)) else (if v2 = nI 124 then (some (-1 : Int32)) else (some (nI 0))))))))))) else (some (nI 0))
def fX9_takesE_b305 (k28 : Nat → Int32 → Int32 → Int32 → e_H → Option (Bool × e_H)) (l0 : Nat) (l1 : Int32) (l2 : Int32) (l4 : Int32) (t0 : Int32) (t1 : Int32) (h : e_H) : Option (Bool × e_H) :=
  none
def fX9_takesE_b300 (k28 : Nat → Int32 → Int32 → Int32 → e_H → Option (Bool × e_H)) (l0 : Nat) (l1 : Int32) (l2 : Int32) (l4 : Int32) (t0 : Int32) (h : e_H) : Option (Bool × e_H) :=
  fX9_takesE_b305 k28 l0 l1 l2 l4 (nI 1) t0 h
def fX9_takesE_b304 (k28 : Nat → Int32 → Int32 → Int32 → e_H → Option (Bool × e_H)) (l0 : Nat) (l1 : Int32) (l2 : Int32) (l4 : Int32) (t0 : Int32) (h : e_H) : Option (Bool × e_H) :=
  fX9_takesE_b305 k28 l0 l1 l2 l4 (nI 0) t0 h
def fX9_takesE_b305x1 (k28 : Nat → Int32 → Int32 → Int32 → e_H → Option (Bool × e_H)) (l0 : Nat) (l1 : Int32) (l2 : Int32) (l4 : Int32) (t0 : Int32) (t1 : Int32) (t2 : Nat) (h : e_H) : Option (Bool × e_H) :=
  (o_stI h t2 3 t1 (vp_nar .boolean t0)).bind fun h1 => (fX9_rank l4).bind fun v2 => (fX9_settle l0 v2 h1).bind fun h3 => (o_getR h3 l0 9 25).bind fun v4 => e_on v4 ((o_getI h3 l0 9 26).bind fun v6 => none) (fun a5 => (o_getI h3 l0 9 26).bind fun v8 => (o_stI h3 a5 0 v8 l4).bind fun h9 => (o_getI h9 l0 9 26).bind fun v10 => (o_put h9 l0 9 26 (.int (v10 + (nI 1)))).bind fun h11 => (fX9_go l0 h11).bind fun h12 => k28 l0 l1 l2 (nI 1) h12)
def fX9_takesE_b300x1 (k28 : Nat → Int32 → Int32 → Int32 → e_H → Option (Bool × e_H)) (l0 : Nat) (l1 : Int32) (l2 : Int32) (l4 : Int32) (t0 : Int32) (t1 : Nat) (h : e_H) : Option (Bool × e_H) :=
  fX9_takesE_b305x1 k28 l0 l1 l2 l4 (nI 1) t0 t1 h
def fX9_takesE_b304x1 (k28 : Nat → Int32 → Int32 → Int32 → e_H → Option (Bool × e_H)) (l0 : Nat) (l1 : Int32) (l2 : Int32) (l4 : Int32) (t0 : Int32) (t1 : Nat) (h : e_H) : Option (Bool × e_H) :=
  fX9_takesE_b305x1 k28 l0 l1 l2 l4 (nI 0) t0 t1 h
def fX9_takesE_b268 (k28 : Nat → Int32 → Int32 → Int32 → e_H → Option (Bool × e_H)) (l0 : Nat) (l1 : Int32) (l2 : Int32) (l4 : Int32) (h : e_H) : Option (Bool × e_H) :=
  (o_getR h l0 9 27).bind fun v1 => e_on v1 ((fX9_rank l4).bind fun v3 => if v3 = (nI 3) then (fX9_takesE_b300 k28 l0 l1 l2 l4 l1 h) else ((fX9_rank l4).bind fun v4 => if v4 ≤ (nI 3) then (fX9_takesE_b304 k28 l0 l1 l2 l4 l1 h) else ((o_getR h l0 9 27).bind fun v5 => e_on v5 (none) (fun a6 => (o_ldI h a6 3 l1).bind fun v7 => if v7 = 0 then (fX9_takesE_b304 k28 l0 l1 l2 l4 l1 h) else (fX9_takesE_b300 k28 l0 l1 l2 l4 l1 h))))) (fun a2 => (fX9_rank l4).bind fun v8 => if v8 = (nI 3) then (fX9_takesE_b300x1 k28 l0 l1 l2 l4 l1 a2 h) else ((fX9_rank l4).bind fun v9 => if v9 ≤ (nI 3) then (fX9_takesE_b304x1 k28 l0 l1 l2 l4 l1 a2 h) else ((o_getR h l0 9 27).bind fun v10 => e_on v10 (none) (fun a11 => (o_ldI h a11 3 l1).bind fun v12 => if v12 = 0 then (fX9_takesE_b304x1 k28 l0 l1 l2 l4 l1 a2 h) else (fX9_takesE_b300x1 k28 l0 l1 l2 l4 l1 a2 h)))))
def fX9_takesE_b237 (k28 : Nat → Int32 → Int32 → Int32 → e_H → Option (Bool × e_H)) (l0 : Nat) (l1 : Int32) (l2 : Int32) (h : e_H) : Option (Bool × e_H) :=
  (fX9_signHere l0 h).bind fun v1 => if v1 = 0 then (some (false, h)) else ((fX9_rank v1).bind fun v2 => if v2 = (nI 3) then ((o_getR h l0 9 27).bind fun v3 => e_on v3 (none) (fun a4 => (o_ldI h a4 3 l1).bind fun v5 => if v5 = 0 then (fX9_takesE_b268 k28 l0 l1 l2 v1 h) else (some (false, h)))) else (fX9_takesE_b268 k28 l0 l1 l2 v1 h))
def fX9_takesE_b172 (k28 : Nat → Int32 → Int32 → Int32 → e_H → Option (Bool × e_H)) (l0 : Nat) (l1 : Int32) (l3 : Int32) (h : e_H) : Option (Bool × e_H) :=
  (fX9_notsOpen l0 h).bind fun v1 => k28 l0 l1 v1 l3 h
def fX9_takesE_b158 (k28 : Nat → Int32 → Int32 → Int32 → e_H → Option (Bool × e_H)) (l0 : Nat) (l1 : Int32) (h : e_H) : Option (Bool × e_H) :=
  (fX9_takesPart l0 h).bind fun p1 => if (e_b p1.1) = 0 then (some (false, p1.2)) else (fX9_takesE_b172 k28 l0 l1 (nI 0) p1.2)
def fX9_takesE_b97 (k28 : Nat → Int32 → Int32 → Int32 → e_H → Option (Bool × e_H)) (l0 : Nat) (l1 : Int32) (l3 : Int32) (h : e_H) : Option (Bool × e_H) :=
  (o_getI h l0 9 16).bind fun v1 => if v1 = (nI 3) then ((o_getI h l0 9 17).bind fun v2 => if v2 = (nI 40) then (if (nI 8) ≤ l1 then (fX9_takesE_b158 k28 l0 l1 h) else ((o_getR h l0 9 25).bind fun v3 => e_on v3 ((o_getI h l0 9 26).bind fun v5 => none) (fun a4 => (o_getI h l0 9 26).bind fun v7 => (o_stI h a4 0 v7 (-11 : Int32)).bind fun h8 => (o_getI h8 l0 9 26).bind fun v9 => (o_put h8 l0 9 26 (.int (v9 + (nI 1)))).bind fun h10 => (o_getR h10 l0 9 27).bind fun v11 => e_on v11 (none) (fun a12 => (o_stI h10 a12 3 (l1 + (nI 1)) (vp_nar .boolean (nI 0))).bind fun h14 => (fX9_go l0 h14).bind fun h15 => fX9_takesE_b172 k28 l0 (l1 + (nI 1)) l3 h15)))) else (fX9_takesE_b158 k28 l0 l1 h)) else (fX9_takesE_b158 k28 l0 l1 h)
def fX9_takesE_b39 (k28 : Nat → Int32 → Int32 → Int32 → e_H → Option (Bool × e_H)) (l0 : Nat) (l1 : Int32) (l2 : Int32) (l3 : Int32) (h : e_H) : Option (Bool × e_H) :=
  if l3 = 0 then ((o_getI h l0 9 16).bind fun v1 => if v1 = (nI 3) then ((o_getI h l0 9 17).bind fun v2 => if v2 = (nI 41) then (if l1 ≤ 0 then (fX9_takesE_b237 k28 l0 l1 l2 h) else ((fX9_settle l0 (nI 0) h).bind fun h3 => (o_getI h3 l0 9 26).bind fun v4 => (o_put h3 l0 9 26 (.int (v4 - (nI 1)))).bind fun h5 => (fX9_settle l0 (nI 6) h5).bind fun h6 => (fX9_notsOpen l0 h6).bind fun v7 => (fX9_go l0 h6).bind fun h8 => k28 l0 (l1 + (-1 : Int32)) v7 l3 h8)) else (fX9_takesE_b237 k28 l0 l1 l2 h)) else (fX9_takesE_b237 k28 l0 l1 l2 h)) else ((o_getI h l0 9 16).bind fun v9 => if v9 = (nI 3) then ((o_getI h l0 9 17).bind fun v10 => if v10 = (nI 33) then (if (nI 8) ≤ l2 then (fX9_takesE_b97 k28 l0 l1 l3 h) else ((o_getR h l0 9 25).bind fun v11 => e_on v11 ((o_getI h l0 9 26).bind fun v13 => none) (fun a12 => (o_getI h l0 9 26).bind fun v15 => (o_stI h a12 0 v15 (-10 : Int32)).bind fun h16 => (o_getI h16 l0 9 26).bind fun v17 => (o_put h16 l0 9 26 (.int (v17 + (nI 1)))).bind fun h18 => (fX9_go l0 h18).bind fun h19 => fX9_takesE_b172 k28 l0 l1 l3 h19))) else (fX9_takesE_b97 k28 l0 l1 l3 h)) else (fX9_takesE_b97 k28 l0 l1 l3 h))
def fX9_takesE_b28 (k28 : Nat → Int32 → Int32 → Int32 → e_H → Option (Bool × e_H)) (l0 : Nat) (l1 : Int32) (l2 : Int32) (l3 : Int32) (h : e_H) : Option (Bool × e_H) :=
  if l3 = 0 then ((o_getI h l0 9 16).bind fun v1 => if v1 = 0 then ((fX9_settle l0 (nI 0) h).bind fun h2 => if l1 = 0 then (some (true, h2)) else (some (false, h2))) else (fX9_takesE_b39 k28 l0 l1 l2 l3 h)) else (fX9_takesE_b39 k28 l0 l1 l2 l3 h)
def fX9_takesE_L28 : Nat → Nat → Int32 → Int32 → Int32 → e_H → Option (Bool × e_H)
  | 0 => fun _ _ _ _ _ => none
  | n + 1 => fX9_takesE_b28 (fX9_takesE_L28 n)
def fX9_takesE (l0 : Nat) (h : e_H) : Option (Bool × e_H) :=
  (o_obj h l0 9).bind fun _ => (o_put h l0 9 23 (.int (nI 0))).bind fun h1 => (o_put h1 l0 9 24 (.int (nI 0))).bind fun h2 => (o_put h2 l0 9 26 (.int (nI 0))).bind fun h3 => (o_getR h3 l0 9 27).bind fun v4 => e_on v4 (none) (fun a5 => (o_stI h3 a5 3 (nI 0) (vp_nar .boolean (nI 0))).bind fun h7 => fX9_takesE_L28 200 l0 (nI 0) (nI 0) (nI 1) h7)
def fX9_text_b115 (k115 : Nat → Int32 → Int32 → e_H → Option (Int32 × e_H)) (l0 : Nat) (l2 : Int32) (l3 : Int32) (h : e_H) : Option (Int32 × e_H) :=
  (o_getI h l0 9 23).bind fun v1 => if v1 ≤ l3 then ((o_getR h l0 9 0).bind fun v2 => e_on v2 (none) (fun a3 => (o_ldI h a3 0 (nI 2)).bind fun v4 => (o_stI h a3 0 (nI 2) (v4 + (nI 1))).bind fun h5 => some (l2, h5))) else ((o_getR h l0 9 0).bind fun v6 => e_on v6 ((o_getR h l0 9 22).bind fun v8 => e_on v8 (none) (fun a9 => (o_ldI h a9 0 l3).bind fun v10 => none)) (fun a7 => (o_getR h l0 9 22).bind fun v12 => e_on v12 (none) (fun a13 => (o_ldI h a13 0 l3).bind fun v14 => (o_stI h a7 0 (((nI 127) + ((nI 96) * l2)) + l3) v14).bind fun h15 => k115 l0 l2 (l3 + (nI 1)) h15)))
def fX9_text_L115 : Nat → Nat → Int32 → Int32 → e_H → Option (Int32 × e_H)
  | 0 => fun _ _ _ _ => none
  | n + 1 => fX9_text_b115 (fX9_text_L115 n)
def fX9_text_b33 (l0 : Nat) (t0 : Int32) (h : e_H) : Option (Int32 × e_H) :=
  (o_put h l0 9 13 (.int (nI 0))).bind fun h1 => if t0 = 0 then ((o_getI h1 l0 9 15).bind fun v2 => some (((-100 : Int32) - v2), h1)) else ((o_getR h1 l0 9 0).bind fun v3 => e_on v3 (none) (fun a4 => (o_ldI h1 a4 0 (nI 2)).bind fun v5 => if v5 = (nI 14) then (some ((-1000000003 : Int32), h1)) else ((o_getR h1 l0 9 0).bind fun v6 => e_on v6 (none) (fun a7 => (o_ldI h1 a7 0 (nI 2)).bind fun v8 => (o_getR h1 l0 9 0).bind fun v9 => e_on v9 ((o_getI h1 l0 9 19).bind fun v11 => (o_getI h1 l0 9 23).bind fun v12 => none) (fun a10 => (o_getI h1 l0 9 19).bind fun v14 => (o_getI h1 l0 9 23).bind fun v15 => (o_stI h1 a10 0 ((nI 99) + ((nI 2) * v8)) (((nI 1000) * v14) + v15)).bind fun h16 => (o_getR h16 l0 9 0).bind fun v17 => e_on v17 ((o_getI h16 l0 9 24).bind fun v19 => none) (fun a18 => (o_getI h16 l0 9 24).bind fun v21 => (o_stI h16 a18 0 (((nI 99) + ((nI 2) * v8)) + (nI 1)) v21).bind fun h22 => fX9_text_L115 200 l0 v8 (nI 0) h22))))))
def fX9_text_b32 (l0 : Nat) (h : e_H) : Option (Int32 × e_H) :=
  fX9_text_b33 l0 (nI 0) h
def fX9_text (l0 : Nat) (h : e_H) : Option (Int32 × e_H) :=
  (o_obj h l0 9).bind fun _ => (o_put h l0 9 14 (.int (nI 0))).bind fun h1 => (o_put h1 l0 9 18 (.int (-1 : Int32))).bind fun h2 => (fX9_go l0 h2).bind fun h3 => (fX9_takesKey l0 h3).bind fun p4 => if (e_b p4.1) = 0 then (fX9_text_b32 l0 p4.2) else ((fX9_takesE l0 p4.2).bind fun p5 => if (e_b p5.1) = 0 then (fX9_text_b32 l0 p5.2) else (fX9_text_b33 l0 (nI 1) p5.2))
def fX9_textTold (l0 : Nat) (l1 : Int32) (l2 : Int32) (h : e_H) : Option Int32 :=
  (o_obj h l0 9).bind fun _ => (o_getR h l0 9 0).bind fun v1 => e_on v1 (none) (fun a2 => (o_ldI h a2 0 (nI 2)).bind fun v3 => (fX9_in l1 (nI 0) (v3 - (nI 1))).bind fun v4 => if (e_b v4) = 0 then (some (-1000000001 : Int32)) else ((fX9_in l2 (nI 0) (nI 1)).bind fun v5 => if (e_b v5) = 0 then (some (-1000000001 : Int32)) else (if l2 = 0 then ((o_getR h l0 9 0).bind fun v6 => e_on v6 (none) (fun a7 => (o_ldI h a7 0 ((nI 99) + ((nI 2) * l1))).bind fun v8 => some (v8 / (nI 1000)))) else ((o_getR h l0 9 0).bind fun v9 => e_on v9 (none) (fun a10 => (o_ldI h a10 0 (((nI 99) + ((nI 2) * l1)) + (nI 1))).bind fun v11 => some v11)))))
def fX9_why (l0 : Nat) (l1 : Int32) (h : e_H) : Option Int32 :=
  (o_obj h l0 9).bind fun _ => (fX9_in l1 (nI 0) (nI 2)).bind fun v1 => if (e_b v1) = 0 then (some (-1000000001 : Int32)) else ((fX9_counts l0 l1 h).bind fun v2 => if 0 ≤ v2 then (some v2) else (some (-1000000005 : Int32)))
def fX9_isSheet (l0 : Int32) : Option Bool :=
  (fX9_in l0 (nI 0) (nI 3)).bind fun v1 => some v1
def fX9_sheet_b62 (l0 : Nat) (l1 : Int32) (t0 : Int32) (t1 : Int32) (h : e_H) : Option (Int32 × e_H) :=
  none
def fX9_sheet_b66 (k66 : Nat → Int32 → Int32 → e_H → Option (Int32 × e_H)) (l0 : Nat) (l1 : Int32) (l4 : Int32) (h : e_H) : Option (Int32 × e_H) :=
  if (nI 24) ≤ l4 then ((o_getR h l0 9 31).bind fun v1 => e_on v1 (none) (fun a2 => (o_ldI h a2 0 l1).bind fun v3 => some (v3, h))) else ((o_getR h l0 9 32).bind fun v4 => e_on v4 (none) (fun a5 => (o_stI h a5 0 (((nI 24) * l1) + l4) (nI 0)).bind fun h7 => k66 l0 l1 (l4 + (nI 1)) h7))
def fX9_sheet_L66 : Nat → Nat → Int32 → Int32 → e_H → Option (Int32 × e_H)
  | 0 => fun _ _ _ _ => none
  | n + 1 => fX9_sheet_b66 (fX9_sheet_L66 n)
def fX9_sheet_b62x1 (l0 : Nat) (l1 : Int32) (t0 : Int32) (t1 : Int32) (t2 : Nat) (h : e_H) : Option (Int32 × e_H) :=
  (o_stI h t2 0 t1 t0).bind fun h1 => fX9_sheet_L66 200 l0 l1 (nI 0) h1
def fX9_sheet_b41 (l0 : Nat) (l1 : Int32) (l2 : Int32) (l3 : Int32) (h : e_H) : Option (Int32 × e_H) :=
  (o_getR h l0 9 30).bind fun v1 => e_on v1 (none) (fun a2 => (o_stI h a2 0 l1 l2).bind fun h4 => (o_getR h4 l0 9 31).bind fun v5 => e_on v5 (if 0 ≤ l2 then (fX9_sheet_b62 l0 l1 l3 l1 h4) else (fX9_sheet_b62 l0 l1 (nI 0) l1 h4)) (fun a6 => if 0 ≤ l2 then (fX9_sheet_b62x1 l0 l1 l3 l1 a6 h4) else (fX9_sheet_b62x1 l0 l1 (nI 0) l1 a6 h4)))
def fX9_sheet_b29 (l0 : Nat) (l1 : Int32) (l2 : Int32) (l3 : Int32) (h : e_H) : Option (Int32 × e_H) :=
  if l2 < 0 then (fX9_sheet_b41 l0 l1 l2 l3 h) else (if 0 ≤ l3 then (fX9_sheet_b41 l0 l1 l2 l3 h) else (some ((-1000000014 : Int32), h)))
def fX9_sheet (l0 : Nat) (l1 : Int32) (l2 : Int32) (l3 : Int32) (h : e_H) : Option (Int32 × e_H) :=
  (o_obj h l0 9).bind fun _ => (fX9_isSheet l1).bind fun v1 => if (e_b v1) = 0 then (some ((-1000000001 : Int32), h)) else ((fX9_in l2 (-1 : Int32) (nI 1)).bind fun v2 => if (e_b v2) = 0 then (some ((-1000000001 : Int32), h)) else (if l2 < 0 then (fX9_sheet_b29 l0 l1 l2 l3 h) else (if l3 ≤ (nI 24) then (fX9_sheet_b29 l0 l1 l2 l3 h) else (some ((-1000000001 : Int32), h)))))
def fX9_mark_b118 (t0 : Int32) (t1 : Int32) (h : e_H) : Option (Int32 × e_H) :=
  none
def fX9_mark_b118x1 (t0 : Int32) (t1 : Int32) (t2 : Nat) (h : e_H) : Option (Int32 × e_H) :=
  (o_stI h t2 0 t1 t0).bind fun h1 => some ((nI 1), h1)
def fX9_mark_b93 (l0 : Nat) (l1 : Int32) (l2 : Int32) (l3 : Int32) (h : e_H) : Option (Int32 × e_H) :=
  (o_getR h l0 9 32).bind fun v1 => e_on v1 ((o_getR h l0 9 30).bind fun v3 => e_on v3 (none) (fun a4 => (o_ldI h a4 0 l1).bind fun v5 => if v5 = 0 then (fX9_mark_b118 (l3).toInt16.toInt32 (((nI 24) * l1) + l2) h) else (fX9_mark_b118 l3 (((nI 24) * l1) + l2) h))) (fun a2 => (o_getR h l0 9 30).bind fun v6 => e_on v6 (none) (fun a7 => (o_ldI h a7 0 l1).bind fun v8 => if v8 = 0 then (fX9_mark_b118x1 (l3).toInt16.toInt32 (((nI 24) * l1) + l2) a2 h) else (fX9_mark_b118x1 l3 (((nI 24) * l1) + l2) a2 h)))
def fX9_mark_b61 (l0 : Nat) (l1 : Int32) (l2 : Int32) (l3 : Int32) (h : e_H) : Option (Int32 × e_H) :=
  (o_getR h l0 9 30).bind fun v1 => e_on v1 (none) (fun a2 => (o_ldI h a2 0 l1).bind fun v3 => if v3 = (nI 1) then (if l3 = (-1000000005 : Int32) then (fX9_mark_b93 l0 l1 l2 l3 h) else ((fX9_in l3 (-99999 : Int32) (99999 : Int32)).bind fun v4 => if (e_b v4) = 0 then (some ((-1000000001 : Int32), h)) else (fX9_mark_b93 l0 l1 l2 l3 h))) else (fX9_mark_b93 l0 l1 l2 l3 h))
def fX9_mark (l0 : Nat) (l1 : Int32) (l2 : Int32) (l3 : Int32) (h : e_H) : Option (Int32 × e_H) :=
  (o_obj h l0 9).bind fun _ => (fX9_isSheet l1).bind fun v1 => if (e_b v1) = 0 then (some ((-1000000001 : Int32), h)) else ((o_getR h l0 9 30).bind fun v2 => e_on v2 (none) (fun a3 => (o_ldI h a3 0 l1).bind fun v4 => if 0 ≤ v4 then ((o_getR h l0 9 31).bind fun v5 => e_on v5 (none) (fun a6 => (o_ldI h a6 0 l1).bind fun v7 => (fX9_in l2 (nI 0) (v7 - (nI 1))).bind fun v8 => if (e_b v8) = 0 then (some ((-1000000013 : Int32), h)) else ((o_getR h l0 9 30).bind fun v9 => e_on v9 (none) (fun a10 => (o_ldI h a10 0 l1).bind fun v11 => if v11 = 0 then (if l3 = (-1000000005 : Int32) then (some ((-1000000012 : Int32), h)) else (fX9_mark_b61 l0 l1 l2 l3 h)) else (fX9_mark_b61 l0 l1 l2 l3 h))))) else (some ((-1000000011 : Int32), h))))
def fX9_pour_b127 (k36 : Nat → Int32 → Int32 → Int32 → Int32 → e_H → Option (Int32 × e_H)) (l0 : Nat) (l1 : Int32) (l2 : Int32) (l4 : Int32) (l6 : Int32) (l7 : Int32) (t0 : Int32) (t1 : Int32) (h : e_H) : Option (Int32 × e_H) :=
  (o_getR h l0 9 0).bind fun v1 => e_on v1 (none) (fun a2 => (o_stI h a2 0 l6 l7).bind fun h4 => k36 l0 l1 l2 (t1 + t0) (l4 + (nI 1)) h4)
def fX9_pour_b107 (k36 : Nat → Int32 → Int32 → Int32 → Int32 → e_H → Option (Int32 × e_H)) (l0 : Nat) (l1 : Int32) (l2 : Int32) (l3 : Int32) (l4 : Int32) (l6 : Int32) (t0 : Int32) (h : e_H) : Option (Int32 × e_H) :=
  (o_getR h l0 9 0).bind fun v1 => e_on v1 (none) (fun a2 => (o_ldI h a2 0 l6).bind fun v3 => if v3 = t0 then (fX9_pour_b127 k36 l0 l1 l2 l4 l6 t0 (nI 0) l3 h) else (fX9_pour_b127 k36 l0 l1 l2 l4 l6 t0 (nI 1) l3 h))
def fX9_pour_b36 (k36 : Nat → Int32 → Int32 → Int32 → Int32 → e_H → Option (Int32 × e_H)) (l0 : Nat) (l1 : Int32) (l2 : Int32) (l3 : Int32) (l4 : Int32) (h : e_H) : Option (Int32 × e_H) :=
  if (nI 15) ≤ l4 then (some (l3, h)) else ((o_getR h l0 9 31).bind fun v1 => e_on v1 (none) (fun a2 => (o_ldI h a2 0 l1).bind fun v3 => if v3 ≤ l4 then (some (l3, h)) else ((o_getR h l0 9 32).bind fun v4 => e_on v4 (none) (fun a5 => (o_ldI h a5 0 (((nI 24) * l1) + l4)).bind fun v6 => if v6 = (-1000000005 : Int32) then ((o_getR h l0 9 0).bind fun v7 => e_on v7 (none) (fun a8 => (o_ldI h a8 0 ((((nI 3) + ((nI 16) * l2)) + (nI 1)) + l4)).bind fun v9 => fX9_pour_b107 k36 l0 l1 l2 l3 l4 ((((nI 3) + ((nI 16) * l2)) + (nI 1)) + l4) v9 h)) else ((fX9_within v6 (-99 : Int32) (nI 99)).bind fun v10 => fX9_pour_b107 k36 l0 l1 l2 l3 l4 ((((nI 3) + ((nI 16) * l2)) + (nI 1)) + l4) v10 h)))))
def fX9_pour_L36 : Nat → Nat → Int32 → Int32 → Int32 → Int32 → e_H → Option (Int32 × e_H)
  | 0 => fun _ _ _ _ _ _ => none
  | n + 1 => fX9_pour_b36 (fX9_pour_L36 n)
def fX9_pour (l0 : Nat) (l1 : Int32) (l2 : Int32) (h : e_H) : Option (Int32 × e_H) :=
  (o_obj h l0 9).bind fun _ => (fX9_isSheet l1).bind fun v1 => if (e_b v1) = 0 then (some ((-1000000001 : Int32), h)) else ((fX9_isCurve l0 l2 h).bind fun v2 => if (e_b v2) = 0 then (some ((-1000000001 : Int32), h)) else ((o_getR h l0 9 30).bind fun v3 => e_on v3 (none) (fun a4 => (o_ldI h a4 0 l1).bind fun v5 => if 0 ≤ v5 then (fX9_pour_L36 200 l0 l1 l2 (nI 0) (nI 0) h) else (some ((-1000000011 : Int32), h)))))
def fX9_copy_b142 (k142 : Nat → Int32 → Int32 → Int32 → Int32 → e_H → Option (Int32 × e_H)) (l0 : Nat) (l3 : Int32) (l4 : Int32) (l5 : Int32) (l6 : Int32) (h : e_H) : Option (Int32 × e_H) :=
  if l5 ≤ l6 then (some (l5, h)) else ((o_getR h l0 9 32).bind fun v1 => e_on v1 ((o_getR h l0 9 37).bind fun v3 => e_on v3 (none) (fun a4 => (o_ldI h a4 0 l6).bind fun v5 => none)) (fun a2 => (o_getR h l0 9 37).bind fun v7 => e_on v7 (none) (fun a8 => (o_ldI h a8 0 l6).bind fun v9 => (o_stI h a2 0 ((((nI 24) * l3) + l4) + l6) v9).bind fun h10 => k142 l0 l3 l4 l5 (l6 + (nI 1)) h10)))
def fX9_copy_L142 : Nat → Nat → Int32 → Int32 → Int32 → Int32 → e_H → Option (Int32 × e_H)
  | 0 => fun _ _ _ _ _ _ => none
  | n + 1 => fX9_copy_b142 (fX9_copy_L142 n)
def fX9_copy_b105 (k105 : Nat → Int32 → Int32 → Int32 → Int32 → Int32 → Int32 → e_H → Option (Int32 × e_H)) (l0 : Nat) (l1 : Int32) (l2 : Int32) (l3 : Int32) (l4 : Int32) (l5 : Int32) (l6 : Int32) (h : e_H) : Option (Int32 × e_H) :=
  if l5 ≤ l6 then (fX9_copy_L142 200 l0 l3 l4 l5 (nI 0) h) else ((o_getR h l0 9 37).bind fun v1 => e_on v1 ((o_getR h l0 9 32).bind fun v3 => e_on v3 (none) (fun a4 => (o_ldI h a4 0 ((((nI 24) * l1) + l2) + l6)).bind fun v5 => none)) (fun a2 => (o_getR h l0 9 32).bind fun v7 => e_on v7 (none) (fun a8 => (o_ldI h a8 0 ((((nI 24) * l1) + l2) + l6)).bind fun v9 => (o_stI h a2 0 l6 v9).bind fun h10 => k105 l0 l1 l2 l3 l4 l5 (l6 + (nI 1)) h10)))
def fX9_copy_L105 : Nat → Nat → Int32 → Int32 → Int32 → Int32 → Int32 → Int32 → e_H → Option (Int32 × e_H)
  | 0 => fun _ _ _ _ _ _ _ _ => none
  | n + 1 => fX9_copy_b105 (fX9_copy_L105 n)
def fX9_copy (l0 : Nat) (l1 : Int32) (l2 : Int32) (l3 : Int32) (l4 : Int32) (l5 : Int32) (h : e_H) : Option (Int32 × e_H) :=
  (o_obj h l0 9).bind fun _ => (fX9_isSheet l1).bind fun v1 => if (e_b v1) = 0 then (some ((-1000000001 : Int32), h)) else ((fX9_isSheet l3).bind fun v2 => if (e_b v2) = 0 then (some ((-1000000001 : Int32), h)) else ((o_getR h l0 9 30).bind fun v3 => e_on v3 (none) (fun a4 => (o_ldI h a4 0 l1).bind fun v5 => if v5 < 0 then (some ((-1000000011 : Int32), h)) else ((o_getR h l0 9 30).bind fun v6 => e_on v6 (none) (fun a7 => (o_ldI h a7 0 l3).bind fun v8 => if 0 ≤ v8 then ((o_getR h l0 9 30).bind fun v9 => e_on v9 (none) (fun a10 => (o_ldI h a10 0 l1).bind fun v11 => (o_getR h l0 9 30).bind fun v12 => e_on v12 (none) (fun a13 => (o_ldI h a13 0 l3).bind fun v14 => if v11 = v14 then (if l2 < 0 then (some ((-1000000013 : Int32), h)) else (if l4 < 0 then (some ((-1000000013 : Int32), h)) else (if l5 < 0 then (some ((-1000000013 : Int32), h)) else ((o_getR h l0 9 31).bind fun v15 => e_on v15 (none) (fun a16 => (o_ldI h a16 0 l1).bind fun v17 => if (v17 - l5) < l2 then (some ((-1000000013 : Int32), h)) else ((o_getR h l0 9 31).bind fun v18 => e_on v18 (none) (fun a19 => (o_ldI h a19 0 l3).bind fun v20 => if l4 ≤ (v20 - l5) then (fX9_copy_L105 200 l0 l1 l2 l3 l4 l5 (nI 0) h) else (some ((-1000000013 : Int32), h))))))))) else (some ((-1000000012 : Int32), h))))) else (some ((-1000000011 : Int32), h)))))))
def fX9_isSlot (l0 : Int32) : Option Bool :=
  (fX9_in l0 (nI 0) (nI 4)).bind fun v1 => some v1
def fX9_lay_b110 (l0 : Nat) (l1 : Int32) (l2 : Int32) (l3 : Int32) (l4 : Int32) (t0 : Int32) (t1 : Int32) (h : e_H) : Option (Int32 × e_H) :=
  none
def fX9_lay_b130 (l0 : Nat) (l1 : Int32) (l2 : Int32) (l3 : Int32) (l4 : Int32) (t0 : Int32) (t1 : Int32) (h : e_H) : Option (Int32 × e_H) :=
  none
def fX9_lay_b134 (k134 : Nat → Int32 → Int32 → Int32 → Int32 → Int32 → e_H → Option (Int32 × e_H)) (l0 : Nat) (l1 : Int32) (l2 : Int32) (l3 : Int32) (l4 : Int32) (l5 : Int32) (h : e_H) : Option (Int32 × e_H) :=
  if (nI 24) ≤ l5 then (some (l4, h)) else (if l2 = (nI 2) then ((o_getR h l0 9 36).bind fun v1 => e_on v1 ((o_getR h l0 9 32).bind fun v3 => e_on v3 (none) (fun a4 => (o_ldI h a4 0 (((nI 24) * l3) + l5)).bind fun v5 => none)) (fun a2 => (o_getR h l0 9 32).bind fun v7 => e_on v7 (none) (fun a8 => (o_ldI h a8 0 (((nI 24) * l3) + l5)).bind fun v9 => (o_stI h a2 0 (((nI 24) * l1) + l5) v9).bind fun h10 => k134 l0 l1 l2 l3 l4 (l5 + (nI 1)) h10))) else (some (l4, h)))
def fX9_lay_L134 : Nat → Nat → Int32 → Int32 → Int32 → Int32 → Int32 → e_H → Option (Int32 × e_H)
  | 0 => fun _ _ _ _ _ _ _ => none
  | n + 1 => fX9_lay_b134 (fX9_lay_L134 n)
def fX9_lay_b130x1 (l0 : Nat) (l1 : Int32) (l2 : Int32) (l3 : Int32) (l4 : Int32) (t0 : Int32) (t1 : Int32) (t2 : Nat) (h : e_H) : Option (Int32 × e_H) :=
  (o_stI h t2 0 t1 t0).bind fun h1 => fX9_lay_L134 200 l0 l1 l2 l3 l4 (nI 0) h1
def fX9_lay_b110x1 (l0 : Nat) (l1 : Int32) (l2 : Int32) (l3 : Int32) (l4 : Int32) (t0 : Int32) (t1 : Int32) (t2 : Nat) (h : e_H) : Option (Int32 × e_H) :=
  (o_stI h t2 0 t1 t0).bind fun h1 => (o_getR h1 l0 9 35).bind fun v2 => e_on v2 (if l2 = (nI 1) then ((fX9_worthOf l0 l3 h1).bind fun v4 => fX9_lay_b130 l0 l1 l2 l3 l4 v4 l1 h1) else (fX9_lay_b130 l0 l1 l2 l3 l4 (nI 0) l1 h1)) (fun a3 => if l2 = (nI 1) then ((fX9_worthOf l0 l3 h1).bind fun v5 => fX9_lay_b130x1 l0 l1 l2 l3 l4 v5 l1 a3 h1) else (fX9_lay_b130x1 l0 l1 l2 l3 l4 (nI 0) l1 a3 h1))
def fX9_lay_b62 (l0 : Nat) (l1 : Int32) (l2 : Int32) (l3 : Int32) (h : e_H) : Option (Int32 × e_H) :=
  (o_getR h l0 9 33).bind fun v1 => e_on v1 (none) (fun a2 => (o_ldI h a2 0 l1).bind fun v3 => (o_getR h l0 9 33).bind fun v4 => e_on v4 (none) (fun a5 => (o_stI h a5 0 l1 l2).bind fun h7 => (o_getR h7 l0 9 34).bind fun v8 => e_on v8 (if l2 = (nI 1) then ((fX9_kindOf l0 l3 h7).bind fun v10 => fX9_lay_b110 l0 l1 l2 l3 v3 v10 l1 h7) else (if l2 = (nI 2) then ((o_getR h7 l0 9 31).bind fun v11 => e_on v11 (none) (fun a12 => (o_ldI h7 a12 0 l3).bind fun v13 => fX9_lay_b110 l0 l1 l2 l3 v3 v13 l1 h7)) else (fX9_lay_b110 l0 l1 l2 l3 v3 l3 l1 h7))) (fun a9 => if l2 = (nI 1) then ((fX9_kindOf l0 l3 h7).bind fun v14 => fX9_lay_b110x1 l0 l1 l2 l3 v3 v14 l1 a9 h7) else (if l2 = (nI 2) then ((o_getR h7 l0 9 31).bind fun v15 => e_on v15 (none) (fun a16 => (o_ldI h7 a16 0 l3).bind fun v17 => fX9_lay_b110x1 l0 l1 l2 l3 v3 v17 l1 a9 h7)) else (fX9_lay_b110x1 l0 l1 l2 l3 v3 l3 l1 a9 h7)))))
def fX9_lay_b44 (l0 : Nat) (l1 : Int32) (l2 : Int32) (l3 : Int32) (h : e_H) : Option (Int32 × e_H) :=
  if l2 = (nI 2) then ((o_getR h l0 9 30).bind fun v1 => e_on v1 (none) (fun a2 => (o_ldI h a2 0 l3).bind fun v3 => if 0 ≤ v3 then (fX9_lay_b62 l0 l1 l2 l3 h) else (some ((-1000000011 : Int32), h)))) else (fX9_lay_b62 l0 l1 l2 l3 h)
def fX9_lay_b29 (l0 : Nat) (l1 : Int32) (l2 : Int32) (l3 : Int32) (h : e_H) : Option (Int32 × e_H) :=
  if l2 = (nI 2) then ((fX9_isSheet l3).bind fun v1 => if (e_b v1) = 0 then (some ((-1000000001 : Int32), h)) else (fX9_lay_b44 l0 l1 l2 l3 h)) else (fX9_lay_b44 l0 l1 l2 l3 h)
def fX9_lay (l0 : Nat) (l1 : Int32) (l2 : Int32) (l3 : Int32) (h : e_H) : Option (Int32 × e_H) :=
  (o_obj h l0 9).bind fun _ => (fX9_isSlot l1).bind fun v1 => if (e_b v1) = 0 then (some ((-1000000001 : Int32), h)) else ((fX9_in l2 (nI 0) (nI 3)).bind fun v2 => if (e_b v2) = 0 then (some ((-1000000001 : Int32), h)) else (if l2 = (nI 1) then ((fX9_isCurve l0 l3 h).bind fun v3 => if (e_b v3) = 0 then (some ((-1000000001 : Int32), h)) else (fX9_lay_b29 l0 l1 l2 l3 h)) else (fX9_lay_b29 l0 l1 l2 l3 h)))
def fX9_ask (l0 : Nat) (l1 : Int32) (l2 : Int32) (h : e_H) : Option Int32 :=
  (o_obj h l0 9).bind fun _ => (fX9_isSlot l1).bind fun v1 => if (e_b v1) = 0 then (some (-1000000001 : Int32)) else ((fX9_in l2 (nI 0) (nI 5)).bind fun v2 => if (e_b v2) = 0 then (some (-1000000001 : Int32)) else ((o_getR h l0 9 33).bind fun v3 => e_on v3 (none) (fun a4 => (o_ldI h a4 0 l1).bind fun v5 => if v5 = 0 then (some (-1000000011 : Int32)) else ((o_getR h l0 9 33).bind fun v6 => e_on v6 (none) (fun a7 => (o_ldI h a7 0 l1).bind fun v8 => if v8 = (nI 1) then ((o_getR h l0 9 34).bind fun v9 => e_on v9 (none) (fun a10 => (o_ldI h a10 0 l1).bind fun v11 => (fX9_isUnder v11 l2).bind fun v12 => if (e_b v12) = 0 then (some (-1000000012 : Int32)) else ((o_getR h l0 9 35).bind fun v13 => e_on v13 (none) (fun a14 => (o_ldI h a14 0 l1).bind fun v15 => some v15)))) else (some (-1000000012 : Int32)))))))
def fX9_item (l0 : Nat) (l1 : Int32) (l2 : Int32) (h : e_H) : Option Int32 :=
  (o_obj h l0 9).bind fun _ => (fX9_isSlot l1).bind fun v1 => if (e_b v1) = 0 then (some (-1000000001 : Int32)) else ((o_getR h l0 9 33).bind fun v2 => e_on v2 (none) (fun a3 => (o_ldI h a3 0 l1).bind fun v4 => if v4 = 0 then (some (-1000000011 : Int32)) else ((o_getR h l0 9 33).bind fun v5 => e_on v5 (none) (fun a6 => (o_ldI h a6 0 l1).bind fun v7 => if v7 = (nI 2) then ((o_getR h l0 9 34).bind fun v8 => e_on v8 (none) (fun a9 => (o_ldI h a9 0 l1).bind fun v10 => (fX9_in l2 (nI 0) (v10 - (nI 1))).bind fun v11 => if (e_b v11) = 0 then (some (-1000000013 : Int32)) else ((o_getR h l0 9 36).bind fun v12 => e_on v12 (none) (fun a13 => (o_ldI h a13 0 (((nI 24) * l1) + l2)).bind fun v14 => if v14 = (-1000000005 : Int32) then (some (-1000000012 : Int32)) else (some v14))))) else (some (-1000000012 : Int32))))))
def fX9_rest (l0 : Nat) (l1 : Int32) (l2 : Int32) (h : e_H) : Option Int32 :=
  (o_obj h l0 9).bind fun _ => (fX9_isSlot l1).bind fun v1 => if (e_b v1) = 0 then (some (-1000000001 : Int32)) else ((o_getR h l0 9 33).bind fun v2 => e_on v2 (none) (fun a3 => (o_ldI h a3 0 l1).bind fun v4 => if v4 = 0 then (some (-1000000011 : Int32)) else ((o_getR h l0 9 33).bind fun v5 => e_on v5 (none) (fun a6 => (o_ldI h a6 0 l1).bind fun v7 => if v7 = (nI 3) then (if l2 = 0 then (some (-1000000002 : Int32)) else (if l2 = (-1 : Int32) then (some (nI 0)) else ((o_getR h l0 9 34).bind fun v8 => e_on v8 (none) (fun a9 => (o_ldI h a9 0 l1).bind fun v10 => if l2 = 0 then none else some (v10 - v10 / l2 * l2))))) else (some (-1000000012 : Int32))))))
def fX9_tell (l0 : Nat) (l1 : Int32) (h : e_H) : Option (Int32 × e_H) :=
  (o_obj h l0 9).bind fun _ => (o_getI h l0 9 39).bind fun v1 => if v1 = (nI 60) then (some ((-1000000003 : Int32), h)) else ((o_getR h l0 9 38).bind fun v2 => e_on v2 ((o_getI h l0 9 39).bind fun v4 => none) (fun a3 => (o_getI h l0 9 39).bind fun v6 => (o_stI h a3 0 v6 l1).bind fun h7 => (o_getI h7 l0 9 39).bind fun v8 => (o_put h7 l0 9 39 (.int (v8 + (nI 1)))).bind fun h9 => (o_getI h9 l0 9 39).bind fun v10 => some (v10, h9)))
def fX9_copyAll_b2 (k2 : Nat → Nat → Int32 → e_H → Option e_H) (l0 : Nat) (l1 : Nat) (l2 : Int32) (h : e_H) : Option e_H :=
  if (nI 1471) ≤ l2 then (some h) else ((o_ldI h l0 0 l2).bind fun v1 => (o_stI h l1 0 l2 v1).bind fun h2 => k2 l0 l1 (l2 + (nI 1)) h2)
def fX9_copyAll_L2 : Nat → Nat → Nat → Int32 → e_H → Option e_H
  | 0 => fun _ _ _ _ => none
  | n + 1 => fX9_copyAll_b2 (fX9_copyAll_L2 n)
def fX9_copyAll (l0 : Nat) (l1 : Nat) (h : e_H) : Option e_H :=
  fX9_copyAll_L2 1600 l0 l1 (nI 0) h
def fX9_check_b228 (l0 : Nat) (l3 : Int32) (l5 : Int32) (l6 : Int32) (h : e_H) : Option (Int32 × e_H) :=
  (o_getR h l0 9 2).bind fun v1 => e_on v1 ((o_getR h l0 9 0).bind fun v3 => e_on v3 (none) (fun a4 => none)) (fun a2 => (o_getR h l0 9 0).bind fun v5 => e_on v5 (none) (fun a6 => (fX9_copyAll a2 a6 h).bind fun h7 => if l6 = l3 then (if l6 = l5 then (some ((nI 0), h7)) else (some (((nI 1) + l6), h7))) else (some (((nI 1) + l6), h7))))
def fX9_check_b222 (k90 : Nat → Int32 → Int32 → Int32 → Int32 → Int32 → e_H → Option (Int32 × e_H)) (l0 : Nat) (l2 : Int32) (l3 : Int32) (l5 : Int32) (l6 : Int32) (l7 : Int32) (h : e_H) : Option (Int32 × e_H) :=
  k90 l0 l2 l3 l5 l6 (l7 + (nI 1)) h
def fX9_check_b216 (k90 : Nat → Int32 → Int32 → Int32 → Int32 → Int32 → e_H → Option (Int32 × e_H)) (l0 : Nat) (l2 : Int32) (l3 : Int32) (l5 : Int32) (l7 : Int32) (t0 : Int32) (t1 : Int32) (h : e_H) : Option (Int32 × e_H) :=
  fX9_check_b222 k90 l0 l2 l3 (l5 + (nI 2)) (t1 + t0) l7 h
def fX9_check_b215 (k90 : Nat → Int32 → Int32 → Int32 → Int32 → Int32 → e_H → Option (Int32 × e_H)) (l0 : Nat) (l2 : Int32) (l3 : Int32) (l5 : Int32) (l7 : Int32) (t0 : Int32) (h : e_H) : Option (Int32 × e_H) :=
  fX9_check_b216 k90 l0 l2 l3 l5 l7 (nI 0) t0 h
def fX9_check_b179 (k90 : Nat → Int32 → Int32 → Int32 → Int32 → Int32 → e_H → Option (Int32 × e_H)) (l0 : Nat) (l2 : Int32) (l3 : Int32) (l5 : Int32) (l7 : Int32) (l8 : Int32) (t0 : Int32) (t1 : Int32) (h : e_H) : Option (Int32 × e_H) :=
  if (t1 + t0) = (l5 + (nI 1)) then (if l3 ≤ (t1 + t0) then (fX9_check_b215 k90 l0 l2 l3 l5 l7 (t1 + t0) h) else ((o_getR h l0 9 38).bind fun v1 => e_on v1 (none) (fun a2 => (o_ldI h a2 0 (t1 + t0)).bind fun v3 => if v3 = l8 then (fX9_check_b216 k90 l0 l2 l3 l5 l7 (nI 1) (t1 + t0) h) else (fX9_check_b215 k90 l0 l2 l3 l5 l7 (t1 + t0) h)))) else (fX9_check_b215 k90 l0 l2 l3 l5 l7 (t1 + t0) h)
def fX9_check_b178 (k90 : Nat → Int32 → Int32 → Int32 → Int32 → Int32 → e_H → Option (Int32 × e_H)) (l0 : Nat) (l2 : Int32) (l3 : Int32) (l5 : Int32) (l7 : Int32) (l8 : Int32) (t0 : Int32) (h : e_H) : Option (Int32 × e_H) :=
  fX9_check_b179 k90 l0 l2 l3 l5 l7 l8 (nI 0) t0 h
def fX9_check_b90 (k90 : Nat → Int32 → Int32 → Int32 → Int32 → Int32 → e_H → Option (Int32 × e_H)) (l0 : Nat) (l2 : Int32) (l3 : Int32) (l5 : Int32) (l6 : Int32) (l7 : Int32) (h : e_H) : Option (Int32 × e_H) :=
  if (nI 121) ≤ l7 then (fX9_check_b228 l0 l3 l5 l6 h) else (if ((nI 2) * l2) ≤ l5 then (fX9_check_b228 l0 l3 l5 l6 h) else ((fX9_findShape l0 ((l7 / (nI 11)) - (nI 5)) ((l7 - l7 / (nI 11) * (nI 11)) - (nI 5)) h).bind fun h1 => (fX9_timesOf l0 (nI 0) h1).bind fun v2 => if v2 ≤ 0 then (fX9_check_b222 k90 l0 l2 l3 l5 l6 l7 h1) else (if l6 = l5 then (if l3 ≤ l6 then (fX9_check_b178 k90 l0 l2 l3 l5 l7 v2 l6 h1) else ((o_getR h1 l0 9 38).bind fun v3 => e_on v3 (none) (fun a4 => (o_ldI h1 a4 0 l6).bind fun v5 => if v5 = (((nI 100) * (l7 / (nI 11))) + (l7 - l7 / (nI 11) * (nI 11))) then (fX9_check_b179 k90 l0 l2 l3 l5 l7 v2 (nI 1) l6 h1) else (fX9_check_b178 k90 l0 l2 l3 l5 l7 v2 l6 h1)))) else (fX9_check_b178 k90 l0 l2 l3 l5 l7 v2 l6 h1))))
def fX9_check_L90 : Nat → Nat → Int32 → Int32 → Int32 → Int32 → Int32 → e_H → Option (Int32 × e_H)
  | 0 => fun _ _ _ _ _ _ _ => none
  | n + 1 => fX9_check_b90 (fX9_check_L90 n)
def fX9_check (l0 : Nat) (l1 : Int32) (l2 : Int32) (h : e_H) : Option (Int32 × e_H) :=
  (o_obj h l0 9).bind fun _ => (o_getI h l0 9 39).bind fun v1 => (o_put h l0 9 39 (.int (nI 0))).bind fun h2 => (fX9_in l2 (nI 1) (nI 30)).bind fun v3 => if (e_b v3) = 0 then (some ((-1000000001 : Int32), h2)) else ((o_getI h2 l0 9 3).bind fun v4 => if v4 = 0 then (some ((-1000000002 : Int32), h2)) else ((o_getR h2 l0 9 1).bind fun v5 => e_on v5 (none) (fun a6 => (o_ldI h2 a6 0 (nI 1)).bind fun v7 => (fX9_in l1 (nI 0) (v7 - (nI 1))).bind fun v8 => if (e_b v8) = 0 then (some ((-1000000001 : Int32), h2)) else ((o_getR h2 l0 9 0).bind fun v9 => e_on v9 ((o_getR h2 l0 9 2).bind fun v11 => e_on v11 (none) (fun a12 => none)) (fun a10 => (o_getR h2 l0 9 2).bind fun v13 => e_on v13 (none) (fun a14 => (fX9_copyAll a10 a14 h2).bind fun h15 => (o_getR h15 l0 9 1).bind fun v16 => e_on v16 ((o_getR h15 l0 9 0).bind fun v18 => e_on v18 (none) (fun a19 => none)) (fun a17 => (o_getR h15 l0 9 0).bind fun v20 => e_on v20 (none) (fun a21 => (fX9_copyAll a17 a21 h15).bind fun h22 => (fX9_findTerms l0 l1 h22).bind fun p23 => fX9_check_L90 200 l0 l2 v1 (nI 0) (nI 0) (nI 0) p23.2))))))))
def fX9_keep (l0 : Nat) (h : e_H) : Option (Int32 × e_H) :=
  (o_obj h l0 9).bind fun _ => (o_getR h l0 9 0).bind fun v1 => e_on v1 ((o_getR h l0 9 1).bind fun v3 => e_on v3 (none) (fun a4 => none)) (fun a2 => (o_getR h l0 9 1).bind fun v5 => e_on v5 (none) (fun a6 => (fX9_copyAll a2 a6 h).bind fun h7 => (o_put h7 l0 9 3 (.int (nI 1))).bind fun h8 => (o_getR h8 l0 9 0).bind fun v9 => e_on v9 (none) (fun a10 => (o_ldI h8 a10 0 (nI 1)).bind fun v11 => some (v11, h8))))
def fX9_back (l0 : Nat) (h : e_H) : Option (Int32 × e_H) :=
  (o_obj h l0 9).bind fun _ => (o_getI h l0 9 3).bind fun v1 => if v1 = 0 then (some ((-1000000002 : Int32), h)) else ((o_getR h l0 9 1).bind fun v2 => e_on v2 ((o_getR h l0 9 0).bind fun v4 => e_on v4 (none) (fun a5 => none)) (fun a3 => (o_getR h l0 9 0).bind fun v6 => e_on v6 (none) (fun a7 => (fX9_copyAll a3 a7 h).bind fun h8 => (o_getR h8 l0 9 0).bind fun v9 => e_on v9 (none) (fun a10 => (o_ldI h8 a10 0 (nI 1)).bind fun v11 => some (v11, h8)))))
def fX9_count (l0 : Nat) (l1 : Int32) (h : e_H) : Option Int32 :=
  (o_obj h l0 9).bind fun _ => if l1 = nI 0 then ((o_getR h l0 9 0).bind fun v1 => e_on v1 (none) (fun a2 => (o_ldI h a2 0 (nI 1)).bind fun v3 => some v3)) else (if l1 = nI 1 then ((o_getR h l0 9 0).bind fun v4 => e_on v4 (none) (fun a5 => (o_ldI h a5 0 (nI 2)).bind fun v6 => some v6)) else (if l1 = nI 2 then ((o_getI h l0 9 39).bind fun v7 => some v7) else (if l1 = nI 3 then ((o_getI h l0 9 13).bind fun v8 => some v8) else (if l1 = nI 4 then ((o_getR h l0 9 0).bind fun v9 => e_on v9 (none) (fun a10 => (o_ldI h a10 0 (nI 0)).bind fun v11 => some v11)) else (some (-1000000001 : Int32))))))
