theorem sh_op {b : Int32} (h : p_sh b ≠ nI 0) : p_ltr b = false ∧ p_dig b = false ∧ b ≠ nI 41 ∧ p_sh b ≠ -10 ∧ p_sh b ≠ -11 ∧ 1 ≤ p_rk (p_sh b) ∧ p_rk (p_sh b) ≤ 5 ∧ (∃ y, y < 256 ∧ b = nI y) := by
  unfold p_sh at h ⊢
  by_cases c1 : b = nI 38
  · rw [if_pos c1, c1]; exact ⟨by decide, by decide, by decide, by decide, by decide, by decide, by decide, 38, by decide, rfl⟩
  rw [if_neg c1] at h ⊢
  by_cases c2 : b = nI 42
  · rw [if_pos c2, c2]; exact ⟨by decide, by decide, by decide, by decide, by decide, by decide, by decide, 42, by decide, rfl⟩
  rw [if_neg c2] at h ⊢
  by_cases c3 : b = nI 43
  · rw [if_pos c3, c3]; exact ⟨by decide, by decide, by decide, by decide, by decide, by decide, by decide, 43, by decide, rfl⟩
  rw [if_neg c3] at h ⊢
  by_cases c4 : b = nI 45
  · rw [if_pos c4, c4]; exact ⟨by decide, by decide, by decide, by decide, by decide, by decide, by decide, 45, by decide, rfl⟩
  rw [if_neg c4] at h ⊢
  by_cases c5 : b = nI 47
  · rw [if_pos c5, c5]; exact ⟨by decide, by decide, by decide, by decide, by decide, by decide, by decide, 47, by decide, rfl⟩
  rw [if_neg c5] at h ⊢
  by_cases c6 : b = nI 60
  · rw [if_pos c6, c6]; exact ⟨by decide, by decide, by decide, by decide, by decide, by decide, by decide, 60, by decide, rfl⟩
  rw [if_neg c6] at h ⊢
  by_cases c7 : b = nI 61
  · rw [if_pos c7, c7]; exact ⟨by decide, by decide, by decide, by decide, by decide, by decide, by decide, 61, by decide, rfl⟩
  rw [if_neg c7] at h ⊢
  by_cases c8 : b = nI 62
  · rw [if_pos c8, c8]; exact ⟨by decide, by decide, by decide, by decide, by decide, by decide, by decide, 62, by decide, rfl⟩
  rw [if_neg c8] at h ⊢
  by_cases c9 : b = nI 124
  · rw [if_pos c9, c9]; exact ⟨by decide, by decide, by decide, by decide, by decide, by decide, by decide, 124, by decide, rfl⟩
  rw [if_neg c9] at h
  exact absurd rfl h
theorem skp_hi {bt : Nat → Int32} {n q : Nat} (h : p_skp bt n q < n) : q ≤ n := by
  by_cases hqn : q ≤ n
  · exact hqn
  · unfold p_skp p_re at h
    rw [show n - q = 0 by omega] at h
    have : q < n := h
    omega
theorem p_cO_le : ∀ W : List Int32, p_cO W ≤ W.length
  | [] => Nat.le_refl 0
  | w :: W => by
    have := p_cO_le W
    show p_cO W + _ ≤ W.length + 1
    split <;> omega
section STEPS2
variable {bt : Nat → Int32} {n ky : Nat}
theorem st_open {q : Nat} {e : Int32} {W D : List Int32} {a : Nat} {τ : Nat → Bool} (ht : p_tb bt n) (hb : p_by bt n (p_skp bt n q) = nI 40) (hO : p_cO W < 8) : p_to bt n ky true ((q, e), (W, D), a, τ) true ((p_skp bt n q + 1, e), (-11 :: W, D), a, fun i => if i = p_cO W + 1 then false else τ i) := by
  have hn := ht.1
  have hf := by_lt (by decide) hb
  have hqn := skp_hi hf
  obtain ⟨k1, k2, k3, k4⟩ := tkn_sg (e := e) hf (by rw [hb]; decide) (by rw [hb]; decide)
  have hle := p_skp_le (bt := bt) hqn
  refine ⟨1, by show q + 1 ≤ p_skp bt n q + 1; omega, fun K S I L T Λ h => ?_⟩
  obtain ⟨hq9, ⟨t1, t2, t3, t4, t5⟩, -, hlen⟩ := h
  have hlen' : D.length + W.length ≤ q := hlen
  have t2' : S 96 14 = nI (p_tnx bt n (p_skp bt n q)) := t2
  have t3' : S 96 16 = nI (p_tkn bt n (p_skp bt n q) e) := t3
  have t4' : S 96 17 = p_tvl bt n (p_skp bt n q) := t4 hf
  have t5' : S 96 18 = p_ted bt n (p_skp bt n q) e := t5
  rw [k2] at t2'
  rw [k1] at t3'
  rw [k4, hb] at t4'
  rw [k3] at t5'
  obtain ⟨h1, h2, h3, h4, h5, h6, h7, h8, h9⟩ := id hq9
  have hq2 : p_q9 bt n ky (p_s S 96 26 (nI (W.length + 1))) (va_up (va_up I 109 (upd (I 109) W.length (-11))) 110 (upd (I 110) (p_cO W + 1) (nI 0))) (-11 :: W) D a (fun i => if i = p_cO W + 1 then false else τ i) := by
    refine ⟨by rw [p_s_ne (by decide)]; exact h1, by rw [va_up_n (by decide), va_up_n (by decide)]; exact h2, by rw [p_s_ne (by decide)]; exact h3, by rw [p_s_ne (by decide)]; exact h4, by rw [va_up_n (by decide), va_up_n (by decide)]; exact h5, by rw [p_s_ne (by decide)]; exact h6, by rw [p_s_at]; rfl, by rw [va_up_n (by decide), va_up_s]; exact h8.push (-11), fun i hi => ?_⟩
    rw [va_up_s]
    simp only [upd]
    by_cases ei : i = p_cO W + 1
    · rw [if_pos ei, if_pos ei]; rfl
    · rw [if_neg ei, if_neg ei]
      exact h9 i (show i ≤ p_cO W by rw [p_cO_o] at hi; omega)
  obtain ⟨S2, m1, m2, m3⟩ := q9_go (K := K) (L := L) (T := T) (Λ := Λ) (e := e) ht hq2.1 hq2.2.1 (show p_skp bt n q + 1 ≤ n by omega) (by rw [p_s_ne (by decide)]; exact t2') (by rw [p_s_ne (by decide)]; exact t5')
  have hq3 := hq2.fk m3
  have g0 := q9_nots (K := K) (L := L) (T := T) (Λ := Λ) (W := -11 :: W) (by simp; omega) hq3
  rw [p_cN_n (by decide)] at g0
  refine ⟨S2, _, ⟨hq3, m2, by show p_skp bt n q + 1 ≤ n; omega, by show D.length + (W.length + 1) ≤ p_skp bt n q + 1; omega⟩, ((p_fk.rf _ S).put (by decide) _).tr (m3.mono (by decide)), ((p_fI.rf I).up (Or.inr (Or.inl rfl)) _).up (Or.inr (Or.inr rfl)) _, fun f => ?_⟩
  show fX9_takesE_b28 _ _ _ _ _ _ = fX9_takesE_L28 f 96 (nI (p_cO (-11 :: W))) (nI (p_cN (-11 :: W))) (e_b true) _
  unfold fX9_takesE_b28 fX9_takesE_b39 fX9_takesE_b97 fX9_takesE_b172
  rw [if_neg eb_t, if_neg eb_t]
  simp only [gM_16, gM_17, gM_25, gM_26, gM_27, gM_p26, Option.bind_some, e_on, t3', t4', h7, p_stI pk_109 (show W.length < 96 by omega) (show 96 < 2 ^ 31 by decide), nI_s, p_stI pk_110 (show p_cO W + 1 < 10 by omega) (show 10 < 2 ^ 31 by decide), va_up_n (show 110 ≠ 109 by decide), show vp_nar .boolean (nI 0) = nI 0 by decide, m1, g0]
  rw [if_pos trivial, if_neg (show ¬ nI 40 = nI 33 by decide), if_pos trivial, if_pos trivial, if_neg (nI_ge hO (by decide)), p_cO_o, p_cN_n (by decide)]
theorem st_close {q : Nat} {e : Int32} {W D W2 D1 W3 D3 : List Int32} {a : Nat} {τ : Nat → Bool} (ht : p_tb bt n) (hb : p_by bt n (p_skp bt n q) = nI 41) (h0 : p_stl 0 W D = (-11 :: W2, D1)) (h6 : p_stl 6 W2 D1 = (W3, D3)) : p_to bt n ky false ((q, e), (W, D), a, τ) false ((p_skp bt n q + 1, e), (W3, D3), a, τ) := by
  have hn := ht.1
  have hf := by_lt (by decide) hb
  have hqn := skp_hi hf
  obtain ⟨k1, k2, k3, k4⟩ := tkn_sg (e := e) hf (by rw [hb]; decide) (by rw [hb]; decide)
  have hle := p_skp_le (bt := bt) hqn
  have l0 := stl_ok 0 W D
  have l6 := stl_ok 6 W2 D1
  rw [h0] at l0
  rw [h6] at l6
  obtain ⟨l1, l2⟩ := l0
  obtain ⟨l3, l4⟩ := l6
  have l1' : W2.length + 1 + D1.length = W.length + D.length := l1
  have l2' : p_cO (-11 :: W2) = p_cO W := l2
  have l3' : W3.length + D3.length = W2.length + D1.length := l3
  have l4' : p_cO W3 = p_cO W2 := l4
  rw [p_cO_o] at l2'
  refine ⟨1, by show q + 1 ≤ p_skp bt n q + 1; omega, fun K S I L T Λ h => ?_⟩
  obtain ⟨hq9, ⟨t1, t2, t3, t4, t5⟩, -, hlen⟩ := h
  have hlen' : D.length + W.length ≤ q := hlen
  have t2' : S 96 14 = nI (p_tnx bt n (p_skp bt n q)) := t2
  have t3' : S 96 16 = nI (p_tkn bt n (p_skp bt n q) e) := t3
  have t4' : S 96 17 = p_tvl bt n (p_skp bt n q) := t4 hf
  have t5' : S 96 18 = p_ted bt n (p_skp bt n q) e := t5
  rw [k2] at t2'
  rw [k1] at t3'
  rw [k4, hb] at t4'
  rw [k3] at t5'
  obtain ⟨S1, I1, g1, g2, g3, g4⟩ := q9_settle (K := K) (L := L) (T := T) (Λ := Λ) (r := 0) (by decide) (show D.length + W.length ≤ 96 by omega) hq9
  rw [h0] at g2
  obtain ⟨z1, z2, z3, z4, z5, z6, z7, z8, z9⟩ := id g2
  have hq2 : p_q9 bt n ky (p_s S1 96 26 (nI W2.length)) I1 W2 D1 a τ := ⟨by rw [p_s_ne (by decide)]; exact z1, z2, by rw [p_s_ne (by decide)]; exact z3, by rw [p_s_ne (by decide)]; exact z4, z5, by rw [p_s_ne (by decide)]; exact z6, p_s_at, z8.top.2, fun i hi => z9 i (by show i ≤ p_cO (-11 :: W2); rw [p_cO_o]; omega)⟩
  obtain ⟨S2, I2, m1, m2, m3, m4⟩ := q9_settle (K := K) (L := L) (T := T) (Λ := Λ) (r := 6) (by decide) (show D1.length + W2.length ≤ 96 by omega) hq2
  rw [h6] at m2
  have g0 := q9_nots (K := K) (L := L) (T := T) (Λ := Λ) (W := W3) (by omega) m2
  obtain ⟨S3, r1, r2, r3⟩ := q9_go (K := K) (L := L) (T := T) (Λ := Λ) (I := I2) (e := e) ht m2.1 m2.2.1 (show p_skp bt n q + 1 ≤ n by omega) (by rw [m3.2 14 (by decide), p_s_ne (by decide), g3.2 14 (by decide)]; exact t2') (by rw [m3.2 18 (by decide), p_s_ne (by decide), g3.2 18 (by decide)]; exact t5')
  refine ⟨S3, I2, ⟨m2.fk r3, r2, by show p_skp bt n q + 1 ≤ n; omega, by show D3.length + W3.length ≤ p_skp bt n q + 1; omega⟩, (((g3.mono (by decide)).tr ((p_fk.rf _ S1).put (by decide) _)).tr (m3.mono (by decide))).tr (r3.mono (by decide)), g4.tr m4, fun f => ?_⟩
  show fX9_takesE_b28 _ _ (nI (p_cO W)) _ _ _ = fX9_takesE_L28 f 96 (nI (p_cO W3)) (nI (p_cN W3)) (e_b false) _
  unfold fX9_takesE_b28 fX9_takesE_b39
  rw [if_pos eb_f, if_pos eb_f]
  have e26 : S1 96 26 = nI (W2.length + 1) := z7
  simp only [gM_16, gM_17, gM_26, gM_p26, Option.bind_some, e_on, t3', t4', g1, e26]
  rw [if_neg (by decide), if_pos trivial, if_pos trivial, if_neg (nI_nle (show 0 < p_cO W by omega) (show p_cO W < 2 ^ 31 by
    have := p_cO_le W
    omega)), pk_sub (by omega), show W2.length + 1 - 1 = W2.length by omega, m1, Option.bind_some, g0, Option.bind_some, r1, Option.bind_some, ← l2', l4', show nI (p_cO W2 + 1) + (-1 : Int32) = nI (p_cO W2) by rw [show nI (p_cO W2 + 1) + (-1 : Int32) = nI (p_cO W2 + 1) - nI 1 from (Int32.sub_eq_add_neg _ _).symm, pk_sub (by omega), show p_cO W2 + 1 - 1 = p_cO W2 by omega]]
theorem st_sign {q : Nat} {e : Int32} {W D W1 D1 : List Int32} {a : Nat} {τ : Nat → Bool} (ht : p_tb bt n) (hx : p_sh (p_by bt n (p_skp bt n q)) ≠ nI 0) (htst : ¬ (p_rk (p_sh (p_by bt n (p_skp bt n q))) = 3 ∧ τ (p_cO W) = true)) (h1 : p_stl (p_rk (p_sh (p_by bt n (p_skp bt n q)))) W D = (W1, D1)) (hN : p_cN W1 = p_cN W) (hO : p_cO W ≤ 8) : p_to bt n ky false ((q, e), (W, D), a, τ) true ((p_skp bt n q + 1, e), (p_sh (p_by bt n (p_skp bt n q)) :: W1, D1), a, fun i => if i = p_cO W then (decide (p_rk (p_sh (p_by bt n (p_skp bt n q))) = 3) || (decide (3 < p_rk (p_sh (p_by bt n (p_skp bt n q)))) && τ i)) else τ i) := by
  have hn := ht.1
  obtain ⟨o1, o2, o3, o4, o5, o6, o7, y, hy, ey⟩ := sh_op hx
  have hf := by_lt hy ey
  have hqn := skp_hi hf
  obtain ⟨k1, k2, k3, k4⟩ := tkn_sg (e := e) hf o1 o2
  have hle := p_skp_le (bt := bt) hqn
  obtain ⟨l1, l2⟩ := stl_ok (p_rk (p_sh (p_by bt n (p_skp bt n q)))) W D
  rw [h1] at l1 l2
  have l1' : W1.length + D1.length = W.length + D.length := l1
  have l2' : p_cO W1 = p_cO W := l2
  refine ⟨1, by show q + 1 ≤ p_skp bt n q + 1; omega, fun K S I L T Λ h => ?_⟩
  have hsg := q9_sign (K := K) (L := L) (T := T) (Λ := Λ) (I := I) h.2.1
  have hsg' : fX9_signHere 96 (p_H K S I L T Λ) = some (p_sh (p_by bt n (p_skp bt n q))) := by
    rw [hsg]
    show some (if p_tkn bt n (p_skp bt n q) e = 3 then _ else _) = _
    rw [if_pos k1]
  obtain ⟨hq9, ⟨t1, t2, t3, t4, t5⟩, -, hlen⟩ := h
  have hlen' : D.length + W.length ≤ q := hlen
  have t2' : S 96 14 = nI (p_tnx bt n (p_skp bt n q)) := t2
  have t3' : S 96 16 = nI (p_tkn bt n (p_skp bt n q) e) := t3
  have t4' : S 96 17 = p_tvl bt n (p_skp bt n q) := t4 hf
  have t5' : S 96 18 = p_ted bt n (p_skp bt n q) e := t5
  rw [k2] at t2'
  rw [k1] at t3'
  rw [k4] at t4'
  rw [k3] at t5'
  have hn41 : ¬ p_by bt n (p_skp bt n q) = nI 41 := o3
  generalize hxx : p_sh (p_by bt n (p_skp bt n q)) = x at *
  obtain ⟨z1, z2, z3, z4, z5, z6, z7, z8, z9⟩ := id hq9
  have e110 : I 110 (p_cO W) = e_b (τ (p_cO W)) := z9 (p_cO W) (Nat.le_refl _)
  obtain ⟨v, hv⟩ : ∃ v : Bool, v = (decide (p_rk x = 3) || (decide (3 < p_rk x) && τ (p_cO W))) := ⟨_, rfl⟩
  have hq1 : p_q9 bt n ky S (va_up I 110 (upd (I 110) (p_cO W) (e_b v))) W D a (fun i => if i = p_cO W then (decide (p_rk x = 3) || (decide (3 < p_rk x) && τ i)) else τ i) := by
    refine ⟨z1, by rw [va_up_n (by decide)]; exact z2, z3, z4, by rw [va_up_n (by decide)]; exact z5, z6, z7, by rw [va_up_n (by decide)]; exact z8, fun i hi => ?_⟩
    rw [va_up_s]
    simp only [upd]
    by_cases ei : i = p_cO W
    · rw [if_pos ei, if_pos ei, hv, ei]
    · rw [if_neg ei, if_neg ei]
      exact z9 i hi
  obtain ⟨S1, I1, g1, g2, g3, g4⟩ := q9_settle (K := K) (L := L) (T := T) (Λ := Λ) (r := p_rk x) (p_rk_le x) (show D.length + W.length ≤ 96 by omega) hq1
  rw [h1] at g2
  obtain ⟨S2, m1, m2, m3, m4⟩ := push_go (K := K) (L := L) (T := T) (Λ := Λ) (e := e) ht g2 (show p_skp bt n q + 1 ≤ n by omega) (by rw [g3.2 14 (by decide)]; exact t2') (by rw [g3.2 18 (by decide)]; exact t5') x (by rw [p_cO_n o5]; exact g2.2.2.2.2.2.2.2.2)
  have e26 : S1 96 26 = nI W1.length := g2.2.2.2.2.2.2.1
  refine ⟨S2, _, ⟨m2, m3, by show p_skp bt n q + 1 ≤ n; omega, by show D1.length + (W1.length + 1) ≤ p_skp bt n q + 1; omega⟩, (g3.mono (by decide)).tr m4, (((p_fI.rf I).up (Or.inr (Or.inr rfl)) _).tr g4).up (Or.inr (Or.inl rfl)) _, fun f => ?_⟩
  have b305 : ∀ t0 : Int32, vp_nar .boolean t0 = e_b v → fX9_takesE_b305x1 (fX9_takesE_L28 f) 96 (nI (p_cO W)) (nI (p_cN W)) x t0 (nI (p_cO W)) 110 (p_H K S I L T Λ) = fX9_takesE_L28 f 96 (nI (p_cO (x :: W1))) (nI (p_cN (x :: W1))) (e_b true) (p_H K S2 (va_up I1 109 (upd (I1 109) W1.length x)) L T Λ) := fun t0 h0 => by
    unfold fX9_takesE_b305x1
    simp only [gM_25, gM_26, gM_p26, Option.bind_some, e_on, h0, p_stI pk_110 (show p_cO W < 10 by omega) (show 10 < 2 ^ 31 by decide), q9_rank, g1, e26, p_stI pk_109 (show W1.length < 96 by omega) (show 96 < 2 ^ 31 by decide), nI_s, m1]
    rw [p_cO_n o5, p_cN_n o4, l2', hN]
    rfl
  have b268 : fX9_takesE_b268 (fX9_takesE_L28 f) 96 (nI (p_cO W)) (nI (p_cN W)) x (p_H K S I L T Λ) = fX9_takesE_L28 f 96 (nI (p_cO (x :: W1))) (nI (p_cN (x :: W1))) (e_b true) (p_H K S2 (va_up I1 109 (upd (I1 109) W1.length x)) L T Λ) := by
    unfold fX9_takesE_b268 fX9_takesE_b300x1 fX9_takesE_b304x1
    simp only [gM_27, Option.bind_some, e_on, q9_rank, p_ldI pk_110 (show p_cO W < 10 by omega) (show 10 < 2 ^ 31 by decide), e110]
    by_cases r3 : p_rk x = 3
    · rw [if_pos (by rw [r3])]
      refine b305 _ ?_
      rw [hv, decide_eq_true r3]
      show vp_nar .boolean (nI 1) = e_b true
      decide
    · rw [if_neg (fun z => r3 ((nI_eq (by omega) (by decide)).mp z))]
      by_cases r4 : p_rk x ≤ 3
      · rw [if_pos (nI_le r4 (by decide))]
        refine b305 _ ?_
        rw [hv, decide_eq_false r3, decide_eq_false (show ¬ 3 < p_rk x by omega)]
        show vp_nar .boolean (nI 0) = e_b false
        decide
      · rw [if_neg (nI_ge (by omega) (by omega))]
        have hvv : v = τ (p_cO W) := by
          rw [hv, decide_eq_false r3, decide_eq_true (show 3 < p_rk x by omega)]
          simp
        cases hτ : τ (p_cO W)
        · rw [if_pos eb_f]
          exact b305 _ (by rw [hvv, hτ]; decide)
        · rw [if_neg eb_t]
          exact b305 _ (by rw [hvv, hτ]; decide)
  have b237 : fX9_takesE_b237 (fX9_takesE_L28 f) 96 (nI (p_cO W)) (nI (p_cN W)) (p_H K S I L T Λ) = fX9_takesE_L28 f 96 (nI (p_cO (x :: W1))) (nI (p_cN (x :: W1))) (e_b true) (p_H K S2 (va_up I1 109 (upd (I1 109) W1.length x)) L T Λ) := by
    unfold fX9_takesE_b237
    rw [hsg', Option.bind_some, if_neg (fun z => hx (z.trans nI_0.symm)), q9_rank, Option.bind_some]
    by_cases r3 : p_rk x = 3
    · rw [if_pos (by rw [r3]), gM_27, Option.bind_some]
      show ((o_ldI _ 110 3 _).bind _) = _
      rw [p_ldI pk_110 (show p_cO W < 10 by omega) (by decide), Option.bind_some, e110]
      cases hτ : τ (p_cO W)
      · rw [if_pos eb_f]
        exact b268
      · exact absurd ⟨r3, hτ⟩ htst
    · rw [if_neg (fun z => r3 ((nI_eq (by omega) (by decide)).mp z))]
      exact b268
  show fX9_takesE_b28 _ _ _ _ _ _ = _
  unfold fX9_takesE_b28 fX9_takesE_b39
  rw [if_pos eb_f, if_pos eb_f, gM_16, Option.bind_some, t3', if_neg (by decide), Option.bind_some, if_pos rfl, gM_17, Option.bind_some, t4', if_neg hn41]
  exact b237
theorem st_sno {q : Nat} {e : Int32} {W D : List Int32} {a : Nat} {τ : Nat → Bool} (ht : p_tb bt n) (hf : p_skp bt n q < n) (h41 : p_by bt n (p_skp bt n q) = nI 41 → p_cO W = 0) (hO : p_cO W ≤ 8) (hs : p_sh (p_by bt n (p_skp bt n q)) = nI 0 ∨ (p_rk (p_sh (p_by bt n (p_skp bt n q))) = 3 ∧ τ (p_cO W) = true)) : p_no bt n ky false ((q, e), (W, D), a, τ) (p_skp bt n q) := by
  have hn := ht.1
  have hqn := skp_hi hf
  have hle := p_skp_le (bt := bt) hqn
  refine ⟨0, hqn, fun K S I L T Λ h => ?_⟩
  have hsg := q9_sign (K := K) (L := L) (T := T) (Λ := Λ) (I := I) h.2.1
  have hsg' : fX9_signHere 96 (p_H K S I L T Λ) = some (if p_tkn bt n (p_skp bt n q) e = 3 then p_sh (p_by bt n (p_skp bt n q)) else nI 0) := hsg
  obtain ⟨hq9, ⟨t1, t2, t3, t4, t5⟩, -, hlen⟩ := h
  have t3' : S 96 16 = nI (p_tkn bt n (p_skp bt n q) e) := t3
  have e110 : I 110 (p_cO W) = e_b (τ (p_cO W)) := hq9.2.2.2.2.2.2.2.2 (p_cO W) (Nat.le_refl _)
  refine ⟨S, I, t1, p_fk.rf _ _, p_fI.rf _, fun f => ?_⟩
  have h7 : p_tkn bt n (p_skp bt n q) e < 2 ^ 31 := by
    unfold p_tkn
    repeat' split
    all_goals decide
  have b237 : fX9_takesE_b237 (fX9_takesE_L28 f) 96 (nI (p_cO W)) (nI (p_cN W)) (p_H K S I L T Λ) = some (false, p_H K S I L T Λ) := by
    unfold fX9_takesE_b237
    rw [hsg', Option.bind_some]
    by_cases hk3 : p_tkn bt n (p_skp bt n q) e = 3
    · rw [if_pos hk3]
      rcases hs with hs | ⟨hs1, hs2⟩
      · rw [if_pos (hs.trans nI_0)]
      · by_cases hx0 : p_sh (p_by bt n (p_skp bt n q)) = 0
        · rw [if_pos hx0]
        · rw [if_neg hx0, q9_rank, Option.bind_some, hs1, if_pos rfl, gM_27, Option.bind_some]
          show ((o_ldI _ 110 3 _).bind _) = _
          rw [p_ldI pk_110 (show p_cO W < 10 by omega) (by decide), Option.bind_some, e110, hs2, if_neg eb_t]
    · rw [if_neg hk3, if_pos nI_0]
  have n0 : ¬ nI (p_tkn bt n (p_skp bt n q) e) = 0 := fun z => by
    have := (nI_eq h7 (show 0 < 2 ^ 31 by decide)).mp z
    unfold p_tkn at this
    rw [if_neg (by omega)] at this
    revert this
    repeat' split
    all_goals decide
  show fX9_takesE_b28 _ _ _ _ _ _ = _
  unfold fX9_takesE_b28 fX9_takesE_b39
  rw [if_pos eb_f, if_pos eb_f, gM_16, Option.bind_some, t3', if_neg n0, Option.bind_some]
  by_cases hk3 : p_tkn bt n (p_skp bt n q) e = 3
  · rw [hk3, if_pos rfl, gM_17, Option.bind_some]
    by_cases z : S 96 17 = nI 41
    · rw [if_pos z]
      have hb : p_by bt n (p_skp bt n q) = nI 41 := by
        have t4' : S 96 17 = p_tvl bt n (p_skp bt n q) := t4 hf
        unfold p_tvl at t4'
        cases hd : p_dig (p_by bt n (p_skp bt n q))
        · rw [hd, if_neg (by decide)] at t4'
          rw [← t4', z]
        · exfalso
          unfold p_tkn at hk3
          rw [if_neg (by omega), hd] at hk3
          revert hk3
          cases p_ltr (p_by bt n (p_skp bt n q))
          · rw [if_neg (by decide), if_pos rfl]
            intro z
            split at z <;> exact absurd z (by decide)
          · rw [if_pos rfl]
            intro z
            split at z <;> exact absurd z (by decide)
      rw [h41 hb, if_pos (by decide)]
      rw [h41 hb] at b237
      exact b237
    · rw [if_neg z]
      exact b237
  · rw [if_neg (fun z => hk3 ((nI_eq h7 (by decide)).mp z))]
    exact b237
end STEPS2
