def p_B0 (fs : List Value) : va_E := .inr (8, fs)
theorem hb_put {fs : List Value} {r : List va_E} {k : Nat} {v : Value} (hk : k < fs.length) : o_put (p_B0 fs :: r) 0 8 k v = some (p_B0 (fs.set k v) :: r) := by
  show (if k < fs.length then some (p_B0 (fs.set k v) :: r) else none) = _
  rw [if_pos hk]
theorem hb_newA {b : va_E} {r : List va_E} {t N : Nat} (hN : N < 2 ^ 31) : o_newA (b :: r) t (nI N) N = some (r.length + 1, b :: (r ++ [o_zero t N])) := by
  have := ap_newA (h := [b]) (l := r) (t := t) hN
  rw [show ([b] : List va_E).length + r.length = r.length + 1 from Nat.add_comm 1 _] at this
  exact this
section ROWS0
theorem i_rows {X : List va_E} {fs : List Value} (hX : (p_B0 fs :: X).length = 60) (h5 : fs[5]? = some (.ref 60)) (z1 z2 : va_E) : ∀ (d m c : Nat), c + d = 4 → fX8_init_L103 (d + 1 + m) 0 (nI c) ((p_B0 fs :: X) ++ ([.inl (6, 4, p_rr (p_R0 63 2 c)), z1, z2] ++ p_rz 63 c)) = fX8_init_L133 10 0 (nI 0) ((p_B0 fs :: X) ++ ([.inl (6, 4, p_rr (p_R0 63 2 4)), z1, z2] ++ p_rz 63 4))
  | 0, m, c, hc => by
    have e : c = 4 := by omega
    subst e
    have hg : ∀ l : List va_E, o_getR ((p_B0 fs :: X) ++ l) 0 8 5 = some (some 60) := fun l => by
      show ((fs[5]?).bind o_asR) = _
      rw [h5]
      rfl
    have hl : o_len ((p_B0 fs :: X) ++ ([.inl (6, 4, p_rr (p_R0 63 2 4)), z1, z2] ++ p_rz 63 4)) 60 6 = some (nI 4) := by
      have := ap_lenA (h := p_B0 fs :: X) (l := [.inl (6, 4, p_rr (p_R0 63 2 4)), z1, z2] ++ p_rz 63 4) (k := 0) (t := 6)
      rw [hX] at this
      exact this.trans rfl
    rw [show 0 + 1 + m = m + 1 by omega]
    show fX8_init_b103 _ _ _ _ = _
    unfold fX8_init_b103
    refine bnd (hg _) ?_
    refine bnd hl ?_
    rw [if_pos (by decide)]
  | d + 1, m, c, hc => by
    have ih := i_rows hX h5 z1 z2 d m (c + 1) (by omega)
    have hg : ∀ l : List va_E, o_getR ((p_B0 fs :: X) ++ l) 0 8 5 = some (some 60) := fun l => by
      show ((fs[5]?).bind o_asR) = _
      rw [h5]
      rfl
    have hl : o_len ((p_B0 fs :: X) ++ ([.inl (6, 4, p_rr (p_R0 63 2 c)), z1, z2] ++ p_rz 63 c)) 60 6 = some (nI 4) := by
      have := ap_lenA (h := p_B0 fs :: X) (l := [.inl (6, 4, p_rr (p_R0 63 2 c)), z1, z2] ++ p_rz 63 c) (k := 0) (t := 6)
      rw [hX] at this
      exact this.trans rfl
    have el : ([.inl (6, 4, p_rr (p_R0 63 2 c)), z1, z2] ++ p_rz 63 c : List va_E).length = 3 + 2 * c := by
      rw [List.length_append, p_rz_len]
      rfl
    have en : ((p_B0 fs :: X) ++ ([.inl (6, 4, p_rr (p_R0 63 2 c)), z1, z2] ++ p_rz 63 c)).length = 63 + 2 * c := by
      rw [ap_len, el, hX]
      omega
    have g := i_x2 ((p_B0 fs :: X) ++ ([.inl (6, 4, p_rr (p_R0 63 2 c)), z1, z2] ++ p_rz 63 c))
    have hs := ap_stQ (h := p_B0 fs :: X) (l := [.inl (6, 4, p_rr (p_R0 63 2 c)), z1, z2] ++ (p_rz 63 c ++ [.inr (2, [.int (-1), .int (nI 0), .ref (63 + 2 * c + 1)]), .inl (0, 24, .inl fun _ => 0)])) (k := 0) (k' := 3 + 2 * c) (t := 6) (i := c) (n := 4) (f := p_R0 63 2 c) (fs := [.int (-1), .int (nI 0), .ref (63 + 2 * c + 1)]) rfl (by omega) (by decide) (by
      rw [← List.append_assoc, List.getElem?_append_right (by omega), el, Nat.sub_self]
      rfl)
    rw [show (p_B0 fs :: X).length + 0 = 60 by rw [hX], show (p_B0 fs :: X).length + (3 + 2 * c) = 63 + 2 * c by rw [hX]; omega, p_R0_s] at hs
    rw [show d + 1 + 1 + m = (d + 1 + m) + 1 by omega, ← ih]
    show fX8_init_b103 _ _ _ _ = _
    unfold fX8_init_b103
    refine bnd (hg _) ?_
    refine bnd hl ?_
    rw [if_neg (nI_ge (by omega) (by omega))]
    refine bnd (hg _) ?_
    refine bnd g ?_
    have en' : (o_newO ((p_B0 fs :: X) ++ ([.inl (6, 4, p_rr (p_R0 63 2 c)), z1, z2] ++ p_rz 63 c)) 2 [.int 0, .int 0, .null]).1 = 63 + 2 * c := en
    rw [en', en, List.append_assoc, List.append_assoc]
    refine bnd hs ?_
    rw [nI_s]
    rfl
theorem i_slots {X : List va_E} {fs : List Value} (hX : (p_B0 fs :: X).length = 60) (h5 : fs[6]? = some (.ref 61)) (z1 z2 : va_E) (R : List va_E) (hR : R.length = 8) : ∀ (d m c : Nat), c + d = 5 → fX8_init_L133 (d + 1 + m) 0 (nI c) ((p_B0 fs :: X) ++ ([z1, .inl (7, 5, p_rr (p_R0 71 5 c)), z2] ++ (R ++ p_lz 71 c))) = some ((p_B0 fs :: X) ++ ([z1, .inl (7, 5, p_rr (p_R0 71 5 5)), z2] ++ (R ++ p_lz 71 5)))
  | 0, m, c, hc => by
    have e : c = 5 := by omega
    subst e
    have hg : ∀ l : List va_E, o_getR ((p_B0 fs :: X) ++ l) 0 8 6 = some (some 61) := fun l => by
      show ((fs[6]?).bind o_asR) = _
      rw [h5]
      rfl
    have hl : o_len ((p_B0 fs :: X) ++ ([z1, .inl (7, 5, p_rr (p_R0 71 5 5)), z2] ++ (R ++ p_lz 71 5))) 61 7 = some (nI 5) := by
      have := ap_lenA (h := p_B0 fs :: X) (l := [z1, .inl (7, 5, p_rr (p_R0 71 5 5)), z2] ++ (R ++ p_lz 71 5)) (k := 1) (t := 7)
      rw [hX] at this
      exact this.trans rfl
    rw [show 0 + 1 + m = m + 1 by omega]
    show fX8_init_b133 _ _ _ _ = _
    unfold fX8_init_b133
    refine bnd (hg _) ?_
    refine bnd hl ?_
    rw [if_pos (by decide)]
  | d + 1, m, c, hc => by
    have ih := i_slots hX h5 z1 z2 R hR d m (c + 1) (by omega)
    have hg : ∀ l : List va_E, o_getR ((p_B0 fs :: X) ++ l) 0 8 6 = some (some 61) := fun l => by
      show ((fs[6]?).bind o_asR) = _
      rw [h5]
      rfl
    have hl : o_len ((p_B0 fs :: X) ++ ([z1, .inl (7, 5, p_rr (p_R0 71 5 c)), z2] ++ (R ++ p_lz 71 c))) 61 7 = some (nI 5) := by
      have := ap_lenA (h := p_B0 fs :: X) (l := [z1, .inl (7, 5, p_rr (p_R0 71 5 c)), z2] ++ (R ++ p_lz 71 c)) (k := 1) (t := 7)
      rw [hX] at this
      exact this.trans rfl
    have el : ([z1, .inl (7, 5, p_rr (p_R0 71 5 c)), z2] ++ (R ++ p_lz 71 c) : List va_E).length = 11 + 5 * c := by
      rw [List.length_append, List.length_append, p_lz_len, hR]
      show 3 + (8 + 5 * c) = _
      omega
    have en : ((p_B0 fs :: X) ++ ([z1, .inl (7, 5, p_rr (p_R0 71 5 c)), z2] ++ (R ++ p_lz 71 c))).length = 71 + 5 * c := by
      rw [ap_len, el, hX]
      omega
    have g := i_x4 ((p_B0 fs :: X) ++ ([z1, .inl (7, 5, p_rr (p_R0 71 5 c)), z2] ++ (R ++ p_lz 71 c)))
    have hs := ap_stQ (h := p_B0 fs :: X) (l := [z1, .inl (7, 5, p_rr (p_R0 71 5 c)), z2] ++ (R ++ (p_lz 71 c ++ [.inr (4, [.int (nI 0), .int (nI 0), .ref (71 + 5 * c + 1), .ref (71 + 5 * c + 3)]), .inr (0, [.int (nI 0), .ref (71 + 5 * c + 2)]), .inl (0, 15, .inl fun _ => 0), .inr (2, [.int (-1), .int (nI 0), .ref (71 + 5 * c + 4)]), .inl (0, 24, .inl fun _ => 0)]))) (k := 1) (k' := 11 + 5 * c) (t := 7) (i := c) (n := 5) (f := p_R0 71 5 c) (fs := [.int (nI 0), .int (nI 0), .ref (71 + 5 * c + 1), .ref (71 + 5 * c + 3)]) rfl (by omega) (by decide) (by
      rw [← List.append_assoc R, ← List.append_assoc, List.getElem?_append_right (by omega), el, Nat.sub_self]
      rfl)
    rw [show (p_B0 fs :: X).length + 1 = 61 by rw [hX], show (p_B0 fs :: X).length + (11 + 5 * c) = 71 + 5 * c by rw [hX]; omega, p_R0_s] at hs
    rw [show d + 1 + 1 + m = (d + 1 + m) + 1 by omega, ← ih]
    show fX8_init_b133 _ _ _ _ = _
    unfold fX8_init_b133
    refine bnd (hg _) ?_
    refine bnd hl ?_
    rw [if_neg (nI_ge (by omega) (by omega))]
    refine bnd (hg _) ?_
    refine bnd g ?_
    have en' : (o_newO ((p_B0 fs :: X) ++ ([z1, .inl (7, 5, p_rr (p_R0 71 5 c)), z2] ++ (R ++ p_lz 71 c))) 4 [.int 0, .int 0, .null, .null]).1 = 71 + 5 * c := en
    rw [en', en, List.append_assoc, List.append_assoc, List.append_assoc]
    refine bnd hs ?_
    rw [nI_s]
    rfl
end ROWS0
def p_X1 : List va_E := [] ++ (p_W0 1 6 ++ p_cz (1 + 4) 6)
def p_X2 : List va_E := p_X1 ++ (p_W0 17 6 ++ p_cz (17 + 4) 6)
def p_X3 : List va_E := p_X2 ++ (p_V0 33 1 3 ++ p_vz (33 + 6) 3)
def p_X4 : List va_E := p_X3 ++ (p_V0 45 17 3 ++ p_vz (45 + 6) 3)
def p_X5 : List va_E := p_X4 ++ [.inr (5, [.int (nI 0), .ref (57 + 1), .ref (57 + 2), .int (nI 0), .int (nI 0), .int (-1), .int (nI 0)]), .inl (0, 96, .inl fun _ => 0), .inl (0, 96, .inl fun _ => 0)]
def p_FS : List Value := [.ref 1, .ref 17, .ref 33, .ref 45, .ref 57, .ref 60, .ref 61, .ref 62, .int (nI 0), .int (nI 0)]
def p_G8 : List va_E := (p_B0 p_FS :: p_X5) ++ ([.inl (6, 4, p_rr (p_R0 63 2 4)), .inl (7, 5, p_rr (p_R0 71 5 5)), .inl (0, 60, .inl fun _ => 0)] ++ (p_rz 63 4 ++ p_lz 71 5))
theorem p_W0l (n c : Nat) : (p_W0 n c).length = 4 := rfl
theorem p_V0l (n w c : Nat) : (p_V0 n w c).length = 6 := rfl
theorem p_X1l : p_X1.length = 16 := by
  unfold p_X1
  rw [List.nil_append, List.length_append, p_cz_len, p_W0l]
theorem p_X2l : p_X2.length = 32 := by
  unfold p_X2
  rw [List.length_append, List.length_append, p_cz_len, p_W0l, p_X1l]
theorem p_X3l : p_X3.length = 44 := by
  unfold p_X3
  rw [List.length_append, List.length_append, p_vz_len, p_V0l, p_X2l]
theorem p_X4l : p_X4.length = 56 := by
  unfold p_X4
  rw [List.length_append, List.length_append, p_vz_len, p_V0l, p_X3l]
theorem p_X5l : p_X5.length = 59 := by
  unfold p_X5
  rw [List.length_append, p_X4l]
  rfl
theorem hb_obj {fs : List Value} {X : List va_E} : o_obj (p_B0 fs :: X) 0 8 = some fs := rfl
theorem hb_getR {fs : List Value} {X : List va_E} {k : Nat} {r : Option Nat} (h : (fs[k]?).bind o_asR = some r) : o_getR (p_B0 fs :: X) 0 8 k = some r := h
theorem j_x7 {fs : List Value} {X Y : List va_E} {n : Nat} (hX : X.length + 1 = n) (hY : X ++ (p_W0 n 6 ++ p_cz (n + 4) 6) = Y) : fX7_init (o_newO (p_B0 fs :: X) 7 [.int 0, .int 0, .int 0, .null, .null, .null]).1 (o_newO (p_B0 fs :: X) 7 [.int 0, .int 0, .int 0, .null, .null, .null]).2 = some (p_B0 fs :: Y) := by
  subst hX hY
  exact i_x7 (p_B0 fs :: X)
theorem j_x6 {fs : List Value} {X Y : List va_E} {n w : Nat} (hX : X.length + 1 = n) (hY : X ++ (p_V0 n w 3 ++ p_vz (n + 6) 3) = Y) : fX6_init (o_newO (p_B0 fs :: X) 6 [.int 0, .int 0, .int 0, .null, .null, .null, .null, .null, .null]).1 w (o_newO (p_B0 fs :: X) 6 [.int 0, .int 0, .int 0, .null, .null, .null, .null, .null, .null]).2 = some (p_B0 fs :: Y) := by
  subst hX hY
  exact i_x6 (p_B0 fs :: X) w
theorem j_x5 {fs : List Value} {X Y : List va_E} {n : Nat} (hX : X.length + 1 = n) (hY : X ++ [.inr (5, [.int (nI 0), .ref (n + 1), .ref (n + 2), .int (nI 0), .int (nI 0), .int (-1), .int (nI 0)]), .inl (0, 96, .inl fun _ => 0), .inl (0, 96, .inl fun _ => 0)] = Y) : fX5_init (o_newO (p_B0 fs :: X) 5 [.int 0, .null, .null, .int 0, .int 0, .int 0, .int 0]).1 (o_newO (p_B0 fs :: X) 5 [.int 0, .null, .null, .int 0, .int 0, .int 0, .int 0]).2 = some (p_B0 fs :: Y) := by
  subst hX hY
  exact i_x5 (p_B0 fs :: X)
theorem j_o1 {fs : List Value} {X : List va_E} {ci n : Nat} {gs : List Value} (hX : X.length + 1 = n) : (o_newO (p_B0 fs :: X) ci gs).1 = n := hX
theorem j_get {fs : List Value} {X : List va_E} {ci k : Nat} {gs : List Value} {r : Option Nat} (h : (fs[k]?).bind o_asR = some r) : o_getR (o_newO (p_B0 fs :: X) ci gs).2 0 8 k = some r := h
theorem j_newA {fs : List Value} {X : List va_E} {t N n : Nat} (hX : X.length + 1 = n) (hN : N < 2 ^ 31) : o_newA (p_B0 fs :: X) t (nI N) N = some (n, p_B0 fs :: (X ++ [o_zero t N])) := by
  subst hX
  exact hb_newA hN
theorem i_x8 : fX8_init 0 [p_B0 [.null, .null, .null, .null, .null, .null, .null, .null, .int 0, .int 0]] = some p_G8 := by
  unfold fX8_init
  rw [hb_obj, Option.bind_some, Option.bind_some, j_x7 (Y := p_X1) (n := 1) rfl rfl, Option.bind_some, j_o1 (n := 1) rfl, hb_put (by decide), Option.bind_some, Option.bind_some,
    j_x7 (Y := p_X2) (n := 17) (by rw [p_X1l]) rfl, Option.bind_some, j_o1 (n := 17) (by rw [p_X1l]), hb_put (by decide), Option.bind_some, Option.bind_some,
    j_get (r := some 1) rfl, Option.bind_some]
  simp only [e_on]
  rw [j_x6 (Y := p_X3) (n := 33) (by rw [p_X2l]) rfl, Option.bind_some, j_o1 (n := 33) (by rw [p_X2l]), hb_put (by decide), Option.bind_some, Option.bind_some, j_get (r := some 17) rfl, Option.bind_some]
  simp only [e_on]
  rw [j_x6 (Y := p_X4) (n := 45) (by rw [p_X3l]) rfl, Option.bind_some, j_o1 (n := 45) (by rw [p_X3l]), hb_put (by decide), Option.bind_some, Option.bind_some,
    j_x5 (Y := p_X5) (n := 57) (by rw [p_X4l]) rfl, Option.bind_some, j_o1 (n := 57) (by rw [p_X4l]), hb_put (by decide), Option.bind_some,
    j_newA (n := 60) (by rw [p_X5l]) (by decide), Option.bind_some, hb_put (by decide), Option.bind_some,
    j_newA (n := 61) (by rw [List.length_append, p_X5l]; rfl) (by decide), Option.bind_some, hb_put (by decide), Option.bind_some,
    j_newA (n := 62) (by rw [List.length_append, List.length_append, p_X5l]; rfl) (by decide), Option.bind_some, hb_put (by decide), Option.bind_some, hb_put (by decide), Option.bind_some, hb_put (by decide), Option.bind_some]
  have hX : (p_B0 p_FS :: p_X5).length = 60 := by
    show p_X5.length + 1 = 60
    rw [p_X5l]
  have r1 := i_rows (X := p_X5) (fs := p_FS) hX rfl (.inl (7, 5, p_rr (p_R0 71 5 0))) (.inl (0, 60, .inl fun _ => 0)) 4 5 0 (by omega)
  have r2 := i_slots (X := p_X5) (fs := p_FS) hX rfl (.inl (6, 4, p_rr (p_R0 63 2 4))) (.inl (0, 60, .inl fun _ => 0)) (p_rz 63 4) (p_rz_len 63 4) 5 4 0 (by omega)
  have e1 : o_zero 6 4 = .inl (6, 4, p_rr (p_R0 63 2 0)) := by
    rw [← p_R0_0]
    rfl
  have e2 : o_zero 7 5 = .inl (7, 5, p_rr (p_R0 71 5 0)) := by
    rw [← p_R0_0]
    rfl
  have e3 : o_zero 0 60 = .inl (0, 60, .inl fun _ => 0) := rfl
  rw [e1, e2, e3]
  have e4 : (p_B0 p_FS :: (p_X5 ++ [.inl (6, 4, p_rr (p_R0 63 2 0))] ++ [.inl (7, 5, p_rr (p_R0 71 5 0))] ++ [.inl (0, 60, .inl fun _ => 0)])) = (p_B0 p_FS :: p_X5) ++ ([.inl (6, 4, p_rr (p_R0 63 2 0)), .inl (7, 5, p_rr (p_R0 71 5 0)), .inl (0, 60, .inl fun _ => 0)] ++ p_rz 63 0) := by
    rw [List.append_assoc, List.append_assoc]
    rfl
  have e5 : ([.inl (6, 4, p_rr (p_R0 63 2 4)), .inl (7, 5, p_rr (p_R0 71 5 0)), .inl (0, 60, .inl fun _ => 0)] ++ p_rz 63 4 : List va_E) = [.inl (6, 4, p_rr (p_R0 63 2 4)), .inl (7, 5, p_rr (p_R0 71 5 0)), .inl (0, 60, .inl fun _ => 0)] ++ (p_rz 63 4 ++ p_lz 71 0) := by
    rw [show p_lz 71 0 = [] from rfl, List.append_nil]
  rw [e5] at r1
  exact (congrArg (fX8_init_L103 10 0 (nI 0)) e4).trans (r1.trans r2)
