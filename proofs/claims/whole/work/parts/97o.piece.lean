def p_rep (x : Int32) : Nat → List Int32 → List Int32
  | 0, C => C
  | d + 1, C => p_rep x d (x :: C)
theorem rep_c (x : Int32) : ∀ d C, p_rep x d (x :: C) = x :: p_rep x d C
  | 0, C => rfl
  | d + 1, C => rep_c x d (x :: C)
theorem rep_len (x : Int32) : ∀ d C, (p_rep x d C).length = C.length + d
  | 0, C => rfl
  | d + 1, C => by
    show (p_rep x d (x :: C)).length = _
    rw [rep_len x d (x :: C), List.length_cons]
    omega
theorem rep_mem (x : Int32) {y : Int32} : ∀ d C, y ∈ p_rep x d C → y = x ∨ y ∈ C
  | 0, C, h => Or.inr h
  | d + 1, C, h => by
    rcases rep_mem x d (x :: C) h with z | z
    · exact Or.inl z
    · rcases List.mem_cons.mp z with z | z
      · exact Or.inl z
      · exact Or.inr z
theorem rep_map : ∀ d C, (p_rep (-33) d C).map p_c9 = p_rep (-10) d (C.map p_c9)
  | 0, C => rfl
  | d + 1, C => by
    show (p_rep (-33) d (-33 :: C)).map p_c9 = p_rep (-10) d (-10 :: C.map p_c9)
    rw [rep_map d (-33 :: C)]
    rfl
theorem rep_cO : ∀ d W, p_cO (p_rep (-10) d W) = p_cO W
  | 0, W => rfl
  | d + 1, W => by
    show p_cO (p_rep (-10) d (-10 :: W)) = _
    rw [rep_cO d, p_cO_n (by decide)]
theorem rep_cN : ∀ d W, p_cN (p_rep (-10) d W) = p_cN W + d
  | 0, W => rfl
  | d + 1, W => by
    show p_cN (p_rep (-10) d (-10 :: W)) = _
    rw [rep_cN d, p_cN_o]
    omega
theorem rep_stl : ∀ d W D, p_stl 6 (p_rep (-10) d W) D = p_stl 6 W (p_rep (-10) d D)
  | 0, W, D => rfl
  | d + 1, W, D => by
    show p_stl 6 (p_rep (-10) d (-10 :: W)) D = p_stl 6 W (p_rep (-10) d (-10 :: D))
    rw [rep_stl d, rep_c]
    show p_stl 6 (-10 :: W) _ = _
    rw [show p_stl 6 (-10 :: W) (p_rep (-10) d D) = (if (-10 : Int32) = -11 then ((-10 : Int32) :: W, p_rep (-10) d D) else if p_rk (-10) < 6 then ((-10 : Int32) :: W, p_rep (-10) d D) else p_stl 6 W ((-10) :: p_rep (-10) d D)) from rfl, if_neg (by decide), if_neg (by decide)]
theorem rep_wfl : ∀ d C, p_wfl C → 1 ≤ p_dp C → p_wfl (p_rep (-33) d C) ∧ p_dp (p_rep (-33) d C) = p_dp C
  | 0, C, h, _ => ⟨h, rfl⟩
  | d + 1, C, h, h1 => by
    have e1 : p_dp (-33 :: C) = p_dp C := by
      show (if (-3 : Int32) ≤ -33 then _ else if (-33 : Int32) = -33 then _ else _) = _
      rw [if_neg (by decide), if_pos rfl]
    have e2 : p_wfl (-33 :: C) := by
      refine ⟨h, ?_⟩
      rw [if_neg (by decide), if_pos rfl]
      exact h1
    obtain ⟨h2, h3⟩ := rep_wfl d (-33 :: C) e2 (by omega)
    exact ⟨h2, h3.trans e1⟩
def p_cd (bt : Nat → Int32) (n q : Nat) (e : Int32) : Prop := (e = nI (p_skp bt n q) → p_ltr (p_by bt n (p_skp bt n q)) = false ∧ p_dig (p_by bt n (p_skp bt n q)) = false) ∧ p_en q e
theorem dig_ltr {b : Int32} (h : p_dig b = true) : p_ltr b = false := by
  cases e : p_ltr b
  · rfl
  · rw [ltr_dig e] at h
    exact absurd h (by decide)
section PIECE
variable {bt : Nat → Int32} {n ky : Nat}
theorem pt_num {f : Nat} {e : Int32} (hf : f < n) (hd : p_dig (p_by bt n f) = true) (he : nI f ≠ e) : p_pt bt n ky f e = (if p_re p_dig bt n f ≤ f + 4 then some (p_nv bt f (p_re p_dig bt n f - f)) else none) ∧ p_tnx bt n f = p_re p_dig bt n f := by
  constructor
  · unfold p_pt p_tkn p_tvl
    rw [if_neg (show ¬ n ≤ f by omega), dig_ltr hd, if_neg (show ¬ (false = true) by decide), hd, if_pos rfl, if_pos rfl]
    by_cases h : p_re p_dig bt n f ≤ f + 4
    · rw [if_neg (show ¬ (nI f = e ∨ f + 4 < p_re p_dig bt n f) from fun z => by rcases z with z | z; exact he z; omega), if_pos rfl, if_pos h, Nat.min_eq_right (by omega)]
    · rw [if_pos (show (nI f = e ∨ f + 4 < p_re p_dig bt n f) by omega), if_neg (by decide), if_neg (fun z => absurd z.1 (by decide)), if_neg h]
  · unfold p_tnx
    rw [if_neg (show ¬ n ≤ f by omega), dig_ltr hd, if_neg (show ¬ (false = true) by decide), hd, if_pos rfl]
theorem pt_ltr {f : Nat} {e : Int32} (hf : f < n) (hl : p_ltr (p_by bt n f) = true) (he : nI f ≠ e) : p_pt bt n ky f e = (if p_nm ky (p_by bt n f) < 0 then none else if p_ltr (p_by bt n (f + 1)) then none else some (nI 10000 + p_nm ky (p_by bt n f))) ∧ (p_ltr (p_by bt n (f + 1)) = false → p_tnx bt n f = f + 1) := by
  have eb : p_by bt n f = bt f := by
    unfold p_by
    rw [if_pos hf]
  have er : p_re p_ltr bt n f = p_re p_ltr bt n (f + 1) := p_re_s hf (by rw [← eb]; exact hl)
  have et : p_tnx bt n f = p_re p_ltr bt n (f + 1) := by
    unfold p_tnx
    rw [if_neg (show ¬ n ≤ f by omega), hl, if_pos rfl, er]
  have ek : p_tkn bt n f e = 1 := by
    unfold p_tkn
    rw [if_neg (show ¬ n ≤ f by omega), hl, if_pos rfl, if_neg he]
  constructor
  · unfold p_pt
    rw [ek, if_neg (by decide), et]
    by_cases h1 : p_nm ky (p_by bt n f) < 0
    · rw [if_neg (fun z => z.2.2 h1), if_pos h1]
    · rw [if_neg h1]
      cases h2 : p_ltr (p_by bt n (f + 1))
      · rw [if_neg (show ¬ (false = true) by decide), if_pos ⟨rfl, p_re_at (by omega) (by decide) h2, h1⟩]
      · rw [if_pos rfl]
        refine if_neg (fun z => ?_)
        have h3 := (p_re_ok p_ltr (bt := bt) (show f + 1 ≤ n by omega)).2.2.2 (by decide)
        rw [z.2.1, h2] at h3
        exact absurd h3 (by decide)
  · intro h2
    rw [et]
    exact p_re_at (by omega) (by decide) h2
theorem pt_oth {f : Nat} {e : Int32} (hl : p_ltr (p_by bt n f) = false) (hd : p_dig (p_by bt n f) = false) : p_pt bt n ky f e = none := by
  have ek : p_tkn bt n f e = 0 ∨ p_tkn bt n f e = 3 := by
    unfold p_tkn
    by_cases h : n ≤ f
    · rw [if_pos h]; exact Or.inl rfl
    · rw [if_neg h, hl, if_neg (by decide), hd, if_neg (by decide)]; exact Or.inr rfl
  unfold p_pt
  rw [if_neg (by omega), if_neg (by omega)]
theorem st_end {q : Nat} {e : Int32} {W D : List Int32} {a : Nat} {τ : Nat → Bool} (ht : p_tb bt n) (hq : q ≤ n) (hf : p_skp bt n q = n) (hO : 0 < p_cO W) (hO2 : p_cO W < 1000) : p_no bt n ky false ((q, e), (W, D), a, τ) n := by
  have hn := ht.1
  refine ⟨0, hq, fun K S I L T Λ h => ?_⟩
  obtain ⟨hq9, ⟨t1, t2, t3, t4, t5⟩, -, hlen⟩ := h
  have hlen' : D.length + W.length ≤ q := hlen
  have t1' : S 96 15 = nI (p_skp bt n q) := t1
  have t3' : S 96 16 = nI (p_tkn bt n (p_skp bt n q) e) := t3
  have ek : p_tkn bt n (p_skp bt n q) e = 0 := by
    unfold p_tkn
    rw [if_pos (by omega)]
  obtain ⟨S1, I1, g1, g2, g3, g4⟩ := q9_settle (K := K) (L := L) (T := T) (Λ := Λ) (r := 0) (by decide) (show D.length + W.length ≤ 96 by omega) hq9
  refine ⟨S1, I1, by rw [g3.2 15 (by decide), t1', hf], g3.mono (by decide), g4, fun f => ?_⟩
  show fX9_takesE_b28 _ _ (nI (p_cO W)) _ _ _ = _
  unfold fX9_takesE_b28
  rw [if_pos eb_f, gM_16, Option.bind_some, t3', ek, if_pos nI_0, g1, Option.bind_some]
  refine if_neg (fun z => ?_)
  have := (nI_eq (show p_cO W < 2 ^ 31 by omega) (show 0 < 2 ^ 31 by decide)).mp z
  omega
theorem w62_go {F : Nat → Int32 → Int32 → Int32 → e_H → Option (Bool × e_H)} {k3 : Nat} (hk3 : k3 ≤ 8) : ∀ (d m i : Nat) (K : Nat) (S I : Nat → Nat → Int32) (L : Nat → Nat → Int64) (T : Nat → Nat → Option Nat) (Λ : Nat → p_Lw) (at_ : Nat) (C : List Int32) (a : Nat), i + d = k3 → p_ts bt n ky S I at_ C a → C.length + d ≤ 96 → ∃ S' I', fX5_readPiece_L62 F (d + 1 + m) 57 (nI k3) (nI i) (p_H K S I L T Λ) = some (true, p_H K S' I' L T Λ) ∧ p_f8 S I S' I' ∧ p_ts bt n ky S' I' at_ (p_rep (-33) d C) a
  | 0, m, i, K, S, I, L, T, Λ, at_, C, a, hi, hts, hC => by
    refine ⟨S, I, ?_, p_f8.rf _ _, hts⟩
    rw [show 0 + 1 + m = m + 1 by omega]
    show fX5_readPiece_b62 _ _ _ _ _ _ = _
    unfold fX5_readPiece_b62
    rw [if_pos (nI_le (by omega) (by omega))]
  | d + 1, m, i, K, S, I, L, T, Λ, at_, C, a, hi, hts, hC => by
    obtain ⟨S', I', g1, g2, g3⟩ := w62_go (F := F) hk3 d m (i + 1) K (p_s S 57 3 (nI (C.length + 1))) (va_up I 59 (upd (I 59) C.length (-33))) L T Λ at_ (-33 :: C) a (by omega) (hts.wr (-33)) (by rw [List.length_cons]; omega)
    refine ⟨S', I', ?_, (((p_f8.rf S I).s _ _).i _).tr g2, g3⟩
    rw [show d + 1 + 1 + m = (d + 1 + m) + 1 by omega]
    show fX5_readPiece_b62 _ _ _ _ _ _ = _
    unfold fX5_readPiece_b62
    rw [if_neg (nI_ge (by omega) (by omega)), q_write hts (by omega), Option.bind_some, nI_s]
    exact g1
theorem not_go {F : Nat → Int32 → Int32 → Int32 → e_H → Option (Bool × e_H)} {o k : Nat} (ht : p_tb bt n) : ∀ (d m j : Nat) (K : Nat) (S I : Nat → Nat → Int32) (L : Nat → Nat → Int64) (T : Nat → Nat → Option Nat) (Λ : Nat → p_Lw) (at_ : Nat) (C : List Int32) (a : Nat), k + j + d = 8 → p_ts bt n ky S I at_ C a → at_ ≤ n → ∃ i at', i ≤ d ∧ at_ + i ≤ at' ∧ at' ≤ n ∧ p_skp bt n at' = at' ∧ (∃ S', p_f8 S I S' I ∧ p_ts bt n ky S' I at' C a ∧ fX5_readPiece_L5 F (d + 1 + m) 57 (nI o) (nI k) (nI (k + j)) (nI j) (p_H K S I L T Λ) = if p_by bt n at' = nI 33 then some (false, p_H K S' I L T Λ) else fX5_readPiece_b48 F 57 (nI o) (nI k) (nI (k + j + i)) (p_H K S' I L T Λ)) ∧ (p_by bt n at' = nI 33 → i = d) ∧ ∀ q e W D τ, q ≤ n → p_skp bt n q = p_skp bt n at_ → p_cd bt n q e → p_cN W = k + j → ∃ q', q' ≤ n ∧ p_skp bt n q' = at' ∧ p_cd bt n q' e ∧ p_to bt n ky true ((q, e), (W, D), a, τ) true ((q', e), (p_rep (-10) i W, D), a, τ)
  | d, m, j, K, S, I, L, T, Λ, at_, C, a, hj, hts, hat => by
    have hn := ht.1
    have hle := p_skp_le (bt := bt) hat
    obtain ⟨f, hf⟩ : ∃ f, f = p_skp bt n at_ := ⟨_, rfl⟩
    have hfl : at_ ≤ f ∧ f ≤ n := by rw [hf]; exact hle
    have hff : p_skp bt n f = f := by rw [hf]; exact p_skp_skp hat
    have g0 := q_nextOf (S := S) (I := I) (L := L) (T := T) (K := K) (Λ := Λ) (s := 3) ht hts.1 hts.2.1 (Or.inl rfl) hat hts.2.2.1
    rw [← hf] at g0
    rw [show d + 1 + m = (d + m) + 1 by omega]
    by_cases hb : p_by bt n f = nI 33
    · have hs : p_sg 3 (p_by bt n f) = true := by rw [hb]; decide
      have hfn : f < n := by_lt (by decide) hb
      cases d with
      | zero =>
        refine ⟨0, f, Nat.le_refl _, by omega, hfl.2, hff, ⟨p_s S 57 4 (nI f), (p_f8.rf _ _).s _ _, hts.mv f, ?_⟩, fun _ => rfl, fun q e W D τ h1 h2 h3 h4 => ⟨q, h1, by rw [h2, hf], h3, p_to.rf⟩⟩
        rw [if_pos hb]
        show fX5_readPiece_b5 _ _ _ _ _ _ _ _ = _
        unfold fX5_readPiece_b5
        rw [if_neg (nI_ge (by omega) (by omega)), g0, Option.bind_some]
        unfold p_nx
        rw [hs, if_pos rfl, hb, if_neg (show ¬ nI 33 < (0 : Int32) by decide), if_neg (nI_nlt (by omega) (by omega))]
      | succ d =>
        obtain ⟨i, at', i1, i2, i3, i4, ⟨S', i5, i6, i7⟩, i8, i9⟩ := not_go (F := F) (o := o) (k := k) ht d m (j + 1) K (p_s S 57 4 (nI (f + 1))) I L T Λ (f + 1) C a (by omega) (hts.mv (f + 1)) (by omega)
        refine ⟨i + 1, at', by omega, by omega, i3, i4, ⟨S', ((p_f8.rf S I).s _ _).tr i5, i6, ?_⟩, fun z => by rw [i8 z], fun q e W D τ h1 h2 h3 h4 => ?_⟩
        · show fX5_readPiece_b5 _ _ _ _ _ _ _ _ = _
          unfold fX5_readPiece_b5
          rw [if_neg (nI_ge (by omega) (by omega)), g0, Option.bind_some]
          unfold p_nx
          rw [hs, if_pos rfl, hb, if_neg (show ¬ nI 33 < (0 : Int32) by decide), if_pos (nI_lt (by omega) (by omega)), gT_4, Option.bind_some, p_s_at, nI_s, gT_p4, Option.bind_some, p_s_up, nI_s, nI_s]
          rw [show k + j + (i + 1) = k + (j + 1) + i by omega, show d + 1 + m = d + 1 + m from rfl]
          exact i7
        · have hq : p_skp bt n q = f := by rw [h2, hf]
          have s1 := st_not (q := q) (e := e) (W := W) (D := D) (a := a) (τ := τ) (ky := ky) ht (by rw [hq]; exact hb) (by omega)
          rw [hq] at s1
          have hqf := (p_skp_le (bt := bt) h1).1
          have hen : p_en (f + 1) e := h3.2.mono (by omega)
          obtain ⟨q', y1, y2, y3, y4⟩ := i9 (f + 1) e (-10 :: W) D τ (by omega) rfl ⟨fun z => by
            have := p_skp_le (bt := bt) (show f + 1 ≤ n by omega)
            exact absurd z (h3.2 _ (by omega) (by omega)), hen⟩ (by rw [p_cN_o]; omega)
          exact ⟨q', y1, y2, y3, s1.tr y4⟩
    · refine ⟨0, f, Nat.zero_le _, by omega, hfl.2, hff, ⟨p_s S 57 4 (nI f), (p_f8.rf _ _).s _ _, hts.mv f, ?_⟩, fun z => absurd z hb, fun q e W D τ h1 h2 h3 h4 => ⟨q, h1, by rw [h2, hf], h3, p_to.rf⟩⟩
      have hs : p_sg 3 (p_by bt n f) = false := decide_eq_false hb
      rw [if_neg hb]
      show fX5_readPiece_b5 _ _ _ _ _ _ _ _ = _
      unfold fX5_readPiece_b5
      rw [if_neg (nI_ge (by omega) (by omega)), g0, Option.bind_some]
      unfold p_nx
      rw [hs, if_neg (show ¬ (false = true) by decide), if_pos (show (-1 : Int32) < 0 by decide)]
      rfl
end PIECE
