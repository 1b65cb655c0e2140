theorem hp_l {h l : List va_E} {a : Nat} (ha : a < h.length) : (h ++ l)[a]? = h[a]? := List.getElem?_append_left ha
theorem hp_0 {h : List va_E} {x : va_E} {l : List va_E} : (h ++ x :: l)[h.length]? = some x := by simp
theorem hp_1 {h : List va_E} {x y : va_E} {l : List va_E} : (h ++ x :: y :: l)[h.length + 1]? = some y := by
  rw [List.getElem?_append_right (by omega), show h.length + 1 - h.length = 1 by omega]
  rfl
theorem hp_s0 {h : List va_E} {x v : va_E} {l : List va_E} : (h ++ x :: l).set h.length v = h ++ v :: l := by
  rw [List.set_append_right _ _ (by omega), Nat.sub_self]
  rfl
theorem hp_s1 {h : List va_E} {x y v : va_E} {l : List va_E} : (h ++ x :: y :: l).set (h.length + 1) v = h ++ x :: v :: l := by
  rw [List.set_append_right _ _ (by omega), show h.length + 1 - h.length = 1 by omega]
  rfl
theorem hp_obj {h l : List va_E} {a ci : Nat} (ha : a < h.length) : o_obj (h ++ l) a ci = o_obj h a ci := by
  unfold o_obj
  rw [hp_l ha]
theorem hp_getI {h l : List va_E} {a ci k : Nat} (ha : a < h.length) : o_getI (h ++ l) a ci k = o_getI h a ci k := by
  unfold o_getI o_get
  rw [hp_obj ha]
theorem hp_getR {h l : List va_E} {a ci k : Nat} (ha : a < h.length) : o_getR (h ++ l) a ci k = o_getR h a ci k := by
  unfold o_getR o_get
  rw [hp_obj ha]
theorem hp_len {h l : List va_E} {a t : Nat} (ha : a < h.length) : o_len (h ++ l) a t = o_len h a t := by
  unfold o_len o_arr
  rw [hp_l ha]
theorem hp_rowI {h l : List va_E} {a t : Nat} (ha : a < h.length) : o_rowI (h ++ l) a t = o_rowI h a t := by
  unfold o_rowI o_arr
  rw [hp_l ha]
def p_Ln (Λ : Nat → p_Lw) (K : Nat) (p : p_Lw) : Nat → p_Lw := fun j => if j = K then p else Λ j
theorem hp_H {K : Nat} {S I : Nat → Nat → Int32} {L : Nat → Nat → Int64} {T : Nat → Nat → Option Nat} {Λ : Nat → p_Lw} (p : p_Lw) : p_H K S I L T Λ ++ [.inr (1, [.int p.1.1, .int p.1.2, .ref (123 + 2 * K)]), .inl (0, p.2.1, .inl p.2.2)] = p_H (K + 1) S I L T (p_Ln Λ K p) := by
  unfold p_H
  rw [show 122 + 2 * (K + 1) = 122 + 2 * K + 1 + 1 by omega, List.range_succ, List.range_succ, List.map_append, List.map_append, List.append_assoc]
  have e0 : (List.range (122 + 2 * K)).map (p_e S I L T Λ) = (List.range (122 + 2 * K)).map (p_e S I L T (p_Ln Λ K p)) := by
    refine List.map_congr_left (fun j hj => ?_)
    have hj' := List.mem_range.mp hj
    unfold p_e
    by_cases h : j < 122
    · rw [if_pos h, if_pos h]
    · rw [if_neg h, if_neg h]
      unfold p_x p_Ln
      rw [if_neg (show ¬ (j - 122) / 2 = K by omega)]
  rw [e0]
  congr 1
  have e1 : p_e S I L T (p_Ln Λ K p) (122 + 2 * K) = .inr (1, [.int p.1.1, .int p.1.2, .ref (123 + 2 * K)]) := by
    unfold p_e p_x p_Ln
    rw [if_neg (show ¬ 122 + 2 * K < 122 by omega), if_pos (show (122 + 2 * K - 122) % 2 = 0 by omega), if_pos (show (122 + 2 * K - 122) / 2 = K by omega), show 122 + 2 * K - 122 + 123 = 123 + 2 * K by omega]
  have e2 : p_e S I L T (p_Ln Λ K p) (122 + 2 * K + 1) = .inl (0, p.2.1, .inl p.2.2) := by
    unfold p_e p_x p_Ln
    rw [if_neg (show ¬ 122 + 2 * K + 1 < 122 by omega), if_neg (show ¬ (122 + 2 * K + 1 - 122) % 2 = 0 by omega), if_pos (show (122 + 2 * K + 1 - 122) / 2 = K by omega)]
  show _ = [p_e S I L T (p_Ln Λ K p) (122 + 2 * K)] ++ [p_e S I L T (p_Ln Λ K p) (122 + 2 * K + 1)]
  rw [e1, e2]
  rfl
theorem cpy_at {f g : Nat → Int32} {n j : Nat} (h : j < n) : va_cpy f g 0 0 n j = f j := by simp [va_cpy, h]
theorem q_law {n ky : Nat} {K : Nat} {S I : Nat → Nat → Int32} {L : Nat → Nat → Int64} {T : Nat → Nat → Option Nat} {Λ : Nat → p_Lw} (h5 : S 57 5 = nI ky) (h6 : S 57 6 = nI n) {c : Nat} (h3 : S 57 3 = nI c) (hc : c < 96) (hc0 : 0 < c) : fX5_law 57 (p_H K S I L T Λ) = some (some (122 + 2 * K), p_H (K + 1) S I L T (p_Ln Λ K ((nI ky, nI n), (c, va_cpy (I 59) (fun _ => 0) 0 0 c)))) := by
  obtain ⟨H, hH⟩ : ∃ H, H = p_H K S I L T Λ := ⟨_, rfl⟩
  have hl : H.length = 122 + 2 * K := by rw [hH]; exact p_len
  have eN : o_newO H 1 [.int 0, .int 0, .null] = (H.length, H ++ [.inr (1, [.int 0, .int 0, .null])]) := rfl
  have eC : fJ7_copyOf_59c91 59 (nI c) (H ++ [.inr (1, [.int 0, .int 0, .null])]) = some (some (H.length + 1), H ++ [.inr (1, [.int 0, .int 0, .null]), .inl (0, c, .inl (va_cpy (I 59) (fun _ => 0) 0 0 c))]) := by
    unfold fJ7_copyOf_59c91
    have a1 : o_newA (H ++ [.inr (1, [.int 0, .int 0, .null])]) 0 (nI c) 96 = some (H.length + 1, H ++ [.inr (1, [.int 0, .int 0, .null]), .inl (0, c, .inl fun _ => 0)]) := by
      unfold o_newA
      rw [nI_clamp (by omega), if_neg (by
        rintro (z | z)
        · exact nI_pos (by omega) z
        · omega), List.length_append, List.append_assoc]
      rfl
    have a2 : o_cpy (H ++ [.inr (1, [.int 0, .int 0, .null]), .inl (0, c, .inl fun _ => 0)]) 59 (nI 0) (H.length + 1) (nI 0) (nI c) = some (H ++ [.inr (1, [.int 0, .int 0, .null]), .inl (0, c, .inl (va_cpy (I 59) (fun _ => 0) 0 0 c))]) := by
      unfold o_cpy
      have r1 : o_rowI (H ++ [.inr (1, [.int 0, .int 0, .null]), .inl (0, c, .inl fun _ => 0)]) 59 0 = some (96, I 59) := by
        rw [hp_rowI (by omega), hH, p_rowI pk_59]
      have r2 : o_rowI (H ++ [.inr (1, [.int 0, .int 0, .null]), .inl (0, c, .inl fun _ => 0)]) (H.length + 1) 0 = some (c, fun _ => 0) := by
        unfold o_rowI o_arr
        rw [hp_1]
        rfl
      rw [r1, Option.bind_some, r2, Option.bind_some, nI_clamp (show c < 2 ^ 31 by omega), nI_clamp (show 0 < 2 ^ 31 by omega), hp_s1]
      refine if_neg ?_
      rintro (z | z | z | z | z)
      · exact absurd z (by decide)
      · exact absurd z (by decide)
      · exact nI_pos (by omega) z
      · have z' : 96 < 0 + c := z
        omega
      · have z' : c < 0 + c := z
        omega
    have a3 : o_len (H ++ [.inr (1, [.int 0, .int 0, .null])]) 59 0 = some (nI 96) := by rw [hp_len (by omega), hH, p_lenI pk_59]
    have a4 : o_len (H ++ [.inr (1, [.int 0, .int 0, .null]), .inl (0, c, .inl fun _ => 0)]) 59 0 = some (nI 96) := by rw [hp_len (by omega), hH, p_lenI pk_59]
    rw [a3, Option.bind_some, if_neg (fun z => by have := (nI_eq (by omega) (by omega)).mp z; omega), a1, Option.bind_some, a4, Option.bind_some, if_pos (nI_lt hc (by decide)), a2, Option.bind_some]
  have eI : fX1_init H.length (nI ky) (nI n) (H.length + 1) (H ++ [.inr (1, [.int 0, .int 0, .null]), .inl (0, c, .inl (va_cpy (I 59) (fun _ => 0) 0 0 c))]) = some (H ++ [.inr (1, [.int (nI ky), .int (nI n), .ref (H.length + 1)]), .inl (0, c, .inl (va_cpy (I 59) (fun _ => 0) 0 0 c))]) := by
    have ob : ∀ (fs : List Value) (y : va_E), o_obj (H ++ [.inr (1, fs), y]) H.length 1 = some fs := fun fs y => by
      unfold o_obj
      rw [hp_0]
      rfl
    have pt : ∀ (fs : List Value) (y : va_E) (k : Nat) (v : Value), k < fs.length → o_put (H ++ [.inr (1, fs), y]) H.length 1 k v = some (H ++ [.inr (1, fs.set k v), y]) := fun fs y k v hk => by
      unfold o_put
      rw [ob, Option.bind_some, if_pos hk, hp_s0]
    unfold fX1_init
    rw [ob, Option.bind_some, pt _ _ 0 _ (by simp), Option.bind_some, pt _ _ 1 _ (by simp), Option.bind_some, pt _ _ 2 _ (by simp), Option.bind_some]
    rfl
  have g5 : o_getI (H ++ [.inr (1, [.int 0, .int 0, .null])]) 57 5 5 = some (nI ky) := by rw [hp_getI (by omega), hH, gT_5, h5]
  have g6 : o_getI (H ++ [.inr (1, [.int 0, .int 0, .null])]) 57 5 6 = some (nI n) := by rw [hp_getI (by omega), hH, gT_6, h6]
  have g3 : o_getI (H ++ [.inr (1, [.int 0, .int 0, .null])]) 57 5 3 = some (nI c) := by rw [hp_getI (by omega), hH, gT_3, h3]
  have g2 : o_getR (H ++ [.inr (1, [.int 0, .int 0, .null])]) 57 5 2 = some (some 59) := by rw [hp_getR (by omega), hH, gT_2]
  have e1 : fX5_law 57 H = some (some H.length, H ++ [.inr (1, [.int (nI ky), .int (nI n), .ref (H.length + 1)]), .inl (0, c, .inl (va_cpy (I 59) (fun _ => 0) 0 0 c))]) := by
    obtain ⟨fs, hfs⟩ : ∃ fs, o_obj H 57 5 = some fs := ⟨_, by rw [hH]; exact gT_o⟩
    unfold fX5_law
    rw [hfs, Option.bind_some, Option.bind_some, eN]
    show ((o_getI (H ++ [.inr (1, [.int 0, .int 0, .null])]) 57 5 5).bind _) = _
    rw [g5, Option.bind_some, g6, Option.bind_some, g2, Option.bind_some]
    show ((o_getI (H ++ [.inr (1, [.int 0, .int 0, .null])]) 57 5 3).bind _) = _
    rw [g3, Option.bind_some, if_pos (nI_lt hc0 (by omega)), eC, Option.bind_some]
    show ((fX1_init H.length (nI ky) (nI n) (H.length + 1) _).bind _) = _
    rw [eI, Option.bind_some]
  rw [← hH, e1, hl, ← hp_H, ← hH, show 122 + 2 * K + 1 = 123 + 2 * K by omega]
theorem wfl_ev {f : Nat → Int32} : ∀ C : List Int32, p_sk f C → p_dp C = ev_dep f C.length ∧ (p_wfl C → ∀ k, k < C.length → if -3 ≤ f k then True else if f k = -33 then 1 ≤ ev_dep f k else 2 ≤ ev_dep f k)
  | [], _ => ⟨rfl, fun _ k hk => absurd hk (Nat.not_lt_zero k)⟩
  | x :: C, h => by
    obtain ⟨h1, h2⟩ := h.top
    obtain ⟨i1, i2⟩ := wfl_ev C h2
    constructor
    · show (if -3 ≤ x then p_dp C + 1 else if x = -33 then p_dp C else p_dp C - 1) = (if -3 ≤ f C.length then ev_dep f C.length + 1 else if f C.length = -33 then ev_dep f C.length else ev_dep f C.length - 1)
      rw [h1, i1]
    · intro hw k hk
      by_cases e : k = C.length
      · rw [e, h1, ← i1]
        exact hw.2
      · exact i2 hw.1 k (by rw [List.length_cons] at hk; omega)
theorem q_addLaw {K : Nat} {S I : Nat → Nat → Int32} {L : Nat → Nat → Int64} {T : Nat → Nat → Option Nat} {Λ : Nat → p_Lw} {q tn : Nat} (hq : q < K) (h1 : S 1 1 = nI tn) (ht : tn < 14) : fX7_addLaw 1 (122 + 2 * q) (p_H K S I L T Λ) = some (nI tn, p_H K (p_s S 1 1 (nI (tn + 1))) I L (va_up T 3 (va_up (T 3) tn (some (122 + 2 * q)))) Λ) := by
  have hw : p_isW 1 := Or.inl rfl
  unfold fX7_addLaw
  simp only [gW_o hw, gW_1 hw, gW_4 hw, gW_p1 hw, Option.bind_some, e_on, h1, p_lenR (pk_wl hw), p_stQ (pk_wl hw) ht (show 14 < 2 ^ 31 by decide) (gX_o hq), nI_s, p_s_at]
  rw [if_neg (nI_pos (by omega)), if_pos (nI_lt ht (by decide)), pk_sub (by omega)]
  rfl
