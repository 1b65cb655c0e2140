section AP
variable {h l : List va_E}
theorem ap_get {k : Nat} : (h ++ l)[h.length + k]? = l[k]? := by
  rw [List.getElem?_append_right (by omega), show h.length + k - h.length = k by omega]
theorem ap_get0 : (h ++ l)[h.length]? = l[0]? := ap_get (k := 0)
theorem ap_set {k : Nat} {v : va_E} : (h ++ l).set (h.length + k) v = h ++ l.set k v := by
  rw [List.set_append_right _ _ (by omega), show h.length + k - h.length = k by omega]
theorem ap_set0 {v : va_E} : (h ++ l).set h.length v = h ++ l.set 0 v := ap_set (k := 0)
theorem ap_len : (h ++ l).length = h.length + l.length := List.length_append
theorem ap_newA {t N : Nat} (hN : N < 2 ^ 31) : o_newA (h ++ l) t (nI N) N = some (h.length + l.length, h ++ (l ++ [o_zero t N])) := by
  unfold o_newA
  rw [nI_clamp hN, if_neg (by
    rintro (z | z)
    · exact nI_pos hN z
    · omega), ap_len, List.append_assoc]
theorem ap_newO {ci : Nat} {fs : List Value} : o_newO (h ++ l) ci fs = (h.length + l.length, h ++ (l ++ [.inr (ci, fs)])) := by
  unfold o_newO
  rw [ap_len, List.append_assoc]
theorem ap_obj {k ci : Nat} : o_obj (h ++ l) (h.length + k) ci = o_obj l k ci := by
  unfold o_obj
  rw [ap_get]
theorem ap_obj0 {ci : Nat} : o_obj (h ++ l) h.length ci = o_obj l 0 ci := ap_obj (k := 0)
theorem ap_put {k ci j : Nat} {v : Value} {l2 : List va_E} (h2 : o_put l k ci j v = some l2) : o_put (h ++ l) (h.length + k) ci j v = some (h ++ l2) := by
  unfold o_put at h2 ⊢
  rw [ap_obj]
  cases e : o_obj l k ci with
  | none => rw [e] at h2; exact absurd h2 (by simp)
  | some fs =>
    rw [e] at h2
    simp only [Option.bind_some] at h2 ⊢
    by_cases hj : j < fs.length
    · rw [if_pos hj] at h2 ⊢
      rw [ap_set, ← Option.some.inj h2]
    · rw [if_neg hj] at h2
      exact absurd h2 (by simp)
theorem ap_put0 {ci j : Nat} {v : Value} {l2 : List va_E} (h2 : o_put l 0 ci j v = some l2) : o_put (h ++ l) h.length ci j v = some (h ++ l2) := ap_put (k := 0) h2
theorem ap_getR {k ci j : Nat} : o_getR (h ++ l) (h.length + k) ci j = o_getR l k ci j := by
  unfold o_getR o_get
  rw [ap_obj]
theorem ap_getR0 {ci j : Nat} : o_getR (h ++ l) h.length ci j = o_getR l 0 ci j := ap_getR (k := 0)
theorem ap_lenA {k t : Nat} : o_len (h ++ l) (h.length + k) t = o_len l k t := by
  unfold o_len o_arr
  rw [ap_get]
theorem ap_stQ {k k' t i n : Nat} {f : Nat → Option Nat} {fs : List Value} (h1 : l[k]? = some (.inl (t, n, p_rr f))) (hi : i < n) (hn : n < 2 ^ 31) (h2 : l[k']? = some (.inr (e_el t, fs))) : o_stQ (h ++ l) (h.length + k) t (nI i) (h.length + k') = some (h ++ l.set k (.inl (t, n, p_rr (va_up f i (some (h.length + k')))))) := by
  unfold o_stQ o_rowR o_arr o_obj
  rw [ap_get, h1, ap_get, h2]
  simp only [p_rr, if_true, Option.bind_some]
  rw [if_neg (nI_in hi hn), nI_clamp (by omega), ap_set]
end AP
theorem i_x0 (h : e_H) : fX0_init h.length (h ++ [.inr (0, [.int 0, .null])]) = some (h ++ [.inr (0, [.int (nI 0), .ref (h.length + 1)]), .inl (0, 15, .inl fun _ => 0)]) := by
  unfold fX0_init
  rw [ap_obj0, show o_obj [.inr (0, [.int 0, .null])] 0 0 = some [.int 0, .null] from rfl, Option.bind_some, ap_put0 (l2 := [.inr (0, [.int (nI 0), .null])]) rfl, Option.bind_some, ap_newA (by decide), Option.bind_some]
  show (o_put (h ++ ([.inr (0, [.int (nI 0), .null]), .inl (0, 15, .inl fun _ => 0)])) h.length 0 1 (.ref (h.length + 1))).bind _ = _
  rw [ap_put0 (l2 := [.inr (0, [.int (nI 0), .ref (h.length + 1)]), .inl (0, 15, .inl fun _ => 0)]) rfl, Option.bind_some]
theorem i_x2 (h : e_H) : fX2_init h.length (h ++ [.inr (2, [.int 0, .int 0, .null])]) = some (h ++ [.inr (2, [.int (-1), .int (nI 0), .ref (h.length + 1)]), .inl (0, 24, .inl fun _ => 0)]) := by
  unfold fX2_init
  rw [ap_obj0, show o_obj [.inr (2, [.int 0, .int 0, .null])] 0 2 = some [.int 0, .int 0, .null] from rfl, Option.bind_some, ap_put0 (l2 := [.inr (2, [.int (-1), .int 0, .null])]) rfl, Option.bind_some, ap_put0 (l2 := [.inr (2, [.int (-1), .int (nI 0), .null])]) rfl, Option.bind_some, ap_newA (by decide), Option.bind_some]
  show (o_put (h ++ ([.inr (2, [.int (-1), .int (nI 0), .null]), .inl (0, 24, .inl fun _ => 0)])) h.length 2 2 (.ref (h.length + 1))).bind _ = _
  rw [ap_put0 (l2 := [.inr (2, [.int (-1), .int (nI 0), .ref (h.length + 1)]), .inl (0, 24, .inl fun _ => 0)]) rfl, Option.bind_some]
theorem i_x3 (h : e_H) : fX3_init h.length (h ++ [.inr (3, [.null])]) = some (h ++ [.inr (3, [.ref (h.length + 1)]), .inl (1, 85, .inr (.inl fun _ => 0))]) := by
  unfold fX3_init
  rw [ap_obj0, show o_obj [.inr (3, [.null])] 0 3 = some [.null] from rfl, Option.bind_some, ap_newA (by decide), Option.bind_some]
  show (o_put (h ++ ([.inr (3, [.null]), .inl (1, 85, .inr (.inl fun _ => 0))])) h.length 3 0 (.ref (h.length + 1))).bind _ = _
  rw [ap_put0 (l2 := [.inr (3, [.ref (h.length + 1)]), .inl (1, 85, .inr (.inl fun _ => 0))]) rfl, Option.bind_some]
theorem i_x5 (h : e_H) : fX5_init h.length (h ++ [.inr (5, [.int 0, .null, .null, .int 0, .int 0, .int 0, .int 0])]) = some (h ++ [.inr (5, [.int (nI 0), .ref (h.length + 1), .ref (h.length + 2), .int (nI 0), .int (nI 0), .int (-1), .int (nI 0)]), .inl (0, 96, .inl fun _ => 0), .inl (0, 96, .inl fun _ => 0)]) := by
  unfold fX5_init
  rw [ap_obj0, show o_obj [.inr (5, [.int 0, .null, .null, .int 0, .int 0, .int 0, .int 0])] 0 5 = some [.int 0, .null, .null, .int 0, .int 0, .int 0, .int 0] from rfl, Option.bind_some, ap_put0 (l2 := [.inr (5, [.int (nI 0), .null, .null, .int 0, .int 0, .int 0, .int 0])]) rfl, Option.bind_some, ap_newA (by decide), Option.bind_some]
  show (o_put (h ++ ([.inr (5, [.int (nI 0), .null, .null, .int 0, .int 0, .int 0, .int 0]), .inl (0, 96, .inl fun _ => 0)])) h.length 5 1 (.ref (h.length + 1))).bind _ = _
  rw [ap_put0 (l2 := [.inr (5, [.int (nI 0), .ref (h.length + 1), .null, .int 0, .int 0, .int 0, .int 0]), .inl (0, 96, .inl fun _ => 0)]) rfl, Option.bind_some, ap_newA (by decide), Option.bind_some]
  show (o_put (h ++ ([.inr (5, [.int (nI 0), .ref (h.length + 1), .null, .int 0, .int 0, .int 0, .int 0]), .inl (0, 96, .inl fun _ => 0), .inl (0, 96, .inl fun _ => 0)])) h.length 5 2 (.ref (h.length + 2))).bind _ = _
  rw [ap_put0 (l2 := [.inr (5, [.int (nI 0), .ref (h.length + 1), .ref (h.length + 2), .int 0, .int 0, .int 0, .int 0]), .inl (0, 96, .inl fun _ => 0), .inl (0, 96, .inl fun _ => 0)]) rfl, Option.bind_some,
    ap_put0 (l2 := [.inr (5, [.int (nI 0), .ref (h.length + 1), .ref (h.length + 2), .int (nI 0), .int 0, .int 0, .int 0]), .inl (0, 96, .inl fun _ => 0), .inl (0, 96, .inl fun _ => 0)]) rfl, Option.bind_some,
    ap_put0 (l2 := [.inr (5, [.int (nI 0), .ref (h.length + 1), .ref (h.length + 2), .int (nI 0), .int (nI 0), .int 0, .int 0]), .inl (0, 96, .inl fun _ => 0), .inl (0, 96, .inl fun _ => 0)]) rfl, Option.bind_some,
    ap_put0 (l2 := [.inr (5, [.int (nI 0), .ref (h.length + 1), .ref (h.length + 2), .int (nI 0), .int (nI 0), .int (-1), .int 0]), .inl (0, 96, .inl fun _ => 0), .inl (0, 96, .inl fun _ => 0)]) rfl, Option.bind_some,
    ap_put0 (l2 := [.inr (5, [.int (nI 0), .ref (h.length + 1), .ref (h.length + 2), .int (nI 0), .int (nI 0), .int (-1), .int (nI 0)]), .inl (0, 96, .inl fun _ => 0), .inl (0, 96, .inl fun _ => 0)]) rfl, Option.bind_some]
theorem i_x4 (h : e_H) : fX4_init h.length (h ++ [.inr (4, [.int 0, .int 0, .null, .null])]) = some (h ++ [.inr (4, [.int (nI 0), .int (nI 0), .ref (h.length + 1), .ref (h.length + 3)]), .inr (0, [.int (nI 0), .ref (h.length + 2)]), .inl (0, 15, .inl fun _ => 0), .inr (2, [.int (-1), .int (nI 0), .ref (h.length + 4)]), .inl (0, 24, .inl fun _ => 0)]) := by
  unfold fX4_init
  rw [ap_obj0, show o_obj [.inr (4, [.int 0, .int 0, .null, .null])] 0 4 = some [.int 0, .int 0, .null, .null] from rfl, Option.bind_some, ap_put0 (l2 := [.inr (4, [.int (nI 0), .int 0, .null, .null])]) rfl, Option.bind_some, ap_put0 (l2 := [.inr (4, [.int (nI 0), .int (nI 0), .null, .null])]) rfl, Option.bind_some, ap_newO, Option.bind_some]
  have g1 := i_x0 (h ++ [.inr (4, [.int (nI 0), .int (nI 0), .null, .null])])
  rw [ap_len, List.append_assoc, List.append_assoc] at g1
  show (fX0_init (h.length + 1) (h ++ ([.inr (4, [.int (nI 0), .int (nI 0), .null, .null])] ++ [.inr (0, [.int 0, .null])]))).bind _ = _
  rw [show fX0_init (h.length + 1) (h ++ ([.inr (4, [.int (nI 0), .int (nI 0), .null, .null])] ++ [.inr (0, [.int 0, .null])])) = _ from g1, Option.bind_some]
  show (o_put (h ++ ([.inr (4, [.int (nI 0), .int (nI 0), .null, .null]), .inr (0, [.int (nI 0), .ref (h.length + 2)]), .inl (0, 15, .inl fun _ => 0)])) h.length 4 2 (.ref (h.length + 1))).bind _ = _
  rw [ap_put0 (l2 := [.inr (4, [.int (nI 0), .int (nI 0), .ref (h.length + 1), .null]), .inr (0, [.int (nI 0), .ref (h.length + 2)]), .inl (0, 15, .inl fun _ => 0)]) rfl, Option.bind_some, ap_newO, Option.bind_some]
  have g2 := i_x2 (h ++ [.inr (4, [.int (nI 0), .int (nI 0), .ref (h.length + 1), .null]), .inr (0, [.int (nI 0), .ref (h.length + 2)]), .inl (0, 15, .inl fun _ => 0)])
  rw [ap_len, List.append_assoc, List.append_assoc] at g2
  show (fX2_init (h.length + 3) (h ++ ([.inr (4, [.int (nI 0), .int (nI 0), .ref (h.length + 1), .null]), .inr (0, [.int (nI 0), .ref (h.length + 2)]), .inl (0, 15, .inl fun _ => 0)] ++ [.inr (2, [.int 0, .int 0, .null])]))).bind _ = _
  rw [show fX2_init (h.length + 3) (h ++ ([.inr (4, [.int (nI 0), .int (nI 0), .ref (h.length + 1), .null]), .inr (0, [.int (nI 0), .ref (h.length + 2)]), .inl (0, 15, .inl fun _ => 0)] ++ [.inr (2, [.int 0, .int 0, .null])])) = _ from g2, Option.bind_some]
  show (o_put (h ++ ([.inr (4, [.int (nI 0), .int (nI 0), .ref (h.length + 1), .null]), .inr (0, [.int (nI 0), .ref (h.length + 2)]), .inl (0, 15, .inl fun _ => 0), .inr (2, [.int (-1), .int (nI 0), .ref (h.length + 4)]), .inl (0, 24, .inl fun _ => 0)])) h.length 4 3 (.ref (h.length + 3))).bind _ = _
  rw [ap_put0 (l2 := [.inr (4, [.int (nI 0), .int (nI 0), .ref (h.length + 1), .ref (h.length + 3)]), .inr (0, [.int (nI 0), .ref (h.length + 2)]), .inl (0, 15, .inl fun _ => 0), .inr (2, [.int (-1), .int (nI 0), .ref (h.length + 4)]), .inl (0, 24, .inl fun _ => 0)]) rfl, Option.bind_some]
