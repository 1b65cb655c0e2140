theorem c_text : p_both (fX8_text 0) (fX9_text 96) := by
  intro K S I L T Λ hinv
  obtain ⟨⟨lw, cn, tn, h1⟩, -, ⟨n, h5, h6, h7, h8⟩, -, -, -, h15, -⟩ := id hinv
  have ht : p_tb (I 105) n := ⟨h5, fun x hx => (h8 x hx).2⟩
  have hn := h5
  have htn : tn ≤ 14 := h1.2.2.1
  have hS1 : S 1 1 = nI tn := h1.2.2.2.1
  have hI2 : I 97 2 = nI tn := h1.2.2.2.2.1
  have key : ∀ J : Nat → Nat → Int32, (∀ b, b ≠ 59 → J b = I b) → p_key9 J := fun J hJ => by
    unfold p_key9 at h15 ⊢
    rw [hJ 106 (by decide), hJ 107 (by decide)]
    exact h15
  rcases parse ht (K := K) (L := L) (T := T) (Λ := Λ) h6 (fun x hx => (h8 x hx).1) with ⟨p, S1, I1, p1, p2, p3, p4, p5⟩ | ⟨ky, S1, I1, at_, C, a, p0, p1, p2, p3, p4, p5, pn, p6, p7, p8, p9⟩
  · obtain ⟨S2, I2, m1, m2, m3, m4⟩ := p5 K (p_s S1 57 0 (nI 0)) I1 L T Λ (by rw [p_s_n (by decide), p3.1 96 (by decide)]; exact h7) (fun x hx => by rw [p3.2 105 (by decide)]) (key I1 p3.2)
    refine both_go (h1 := p_H K (p_s S1 57 0 (nI 0)) I1 L T Λ) (S2 := p_s S2 96 13 (nI 0)) (I2 := I2) (L2 := L) (-100 - nI p) ?_ (m4.trans (pen_no m1)) (inv_tx hinv (fun b b1 b2 => ?_) ?_ ?_ ?_ p_s_at (fun b b1 b2 b3 b4 => ?_))
    · unfold fX8_text
      simp only [gB_o, gB_4, Option.bind_some, e_on, p2, gT_p0]
      rw [if_neg (nI_pos (by omega))]
    · rw [p_s_n b2, m2.1 b b2, p_s_n b1, p3.1 b b1]
    · rw [p_s_ne (by decide), m2.2 3 (by decide), p_s_n (by decide), p3.1 96 (by decide)]
    · rw [p_s_ne (by decide), m2.2 39 (by decide), p_s_n (by decide), p3.1 96 (by decide)]
    · rw [p_s_n (by decide), m2.1 57 (by decide), p_s_at]
    · rw [m3 b b2 b3 b4, p3.2 b b1]
  · obtain ⟨t1, t2, t3, t4, t5, t6, t7⟩ := p4
    have s11 : p_s S1 57 0 (nI 0) 1 1 = nI tn := by rw [p_s_n (by decide), p3.1 1 (by decide)]; exact hS1
    by_cases h14 : tn < 14
    · have c0 : 0 < C.length := by
        cases C with
        | nil => exact absurd rfl pn
        | cons => rw [List.length_cons]; omega
      have gl := q_law (K := K) (S := p_s S1 57 0 (nI 0)) (I := I1) (L := L) (T := T) (Λ := Λ) (ky := ky) (n := a) (c := C.length) (by rw [p_s_ne (by decide)]; exact t7) (by rw [p_s_ne (by decide)]; exact t6) (by rw [p_s_ne (by decide)]; exact t4) p5 c0
      have ga := q_addLaw (K := K + 1) (S := p_s S1 57 0 (nI 0)) (I := I1) (L := L) (T := T) (Λ := p_Ln Λ K ((nI ky, nI a), (C.length, va_cpy (I1 59) (fun _ => 0) 0 0 C.length))) (q := K) (tn := tn) (by omega) s11 h14
      obtain ⟨S2, I2, m1, m2, m3, m4, m5, m6, m7⟩ := p9 (K + 1) (p_s (p_s S1 57 0 (nI 0)) 1 1 (nI (tn + 1))) I1 L (va_up T 3 (va_up (T 3) tn (some (122 + 2 * K)))) (p_Ln Λ K ((nI ky, nI a), (C.length, va_cpy (I1 59) (fun _ => 0) 0 0 C.length))) (by rw [p_s_n (by decide), p_s_n (by decide), p3.1 96 (by decide)]; exact h7) (fun x hx => by rw [p3.2 105 (by decide)]) (key I1 p3.2)
      rw [List.length_map] at m2
      have e97 : I2 97 = I 97 := by rw [m6 97 (by decide) (by decide) (by decide), p3.2 97 (by decide)]
      obtain ⟨I3, r1, r2, r3, r4, r5, r6, r7⟩ := pen_new (K := K + 1) (L := L) (T := va_up T 3 (va_up (T 3) tn (some (122 + 2 * K)))) (Λ := p_Ln Λ K ((nI ky, nI a), (C.length, va_cpy (I1 59) (fun _ => 0) 0 0 C.length))) (S := S2) (I := I2) h14 p5 m2 m1 m4 (by rw [e97]; exact hI2)
      refine both_go (h1 := p_H (K + 1) (p_s (p_s S1 57 0 (nI 0)) 1 1 (nI (tn + 1))) I1 L (va_up T 3 (va_up (T 3) tn (some (122 + 2 * K)))) (p_Ln Λ K ((nI ky, nI a), (C.length, va_cpy (I1 59) (fun _ => 0) 0 0 C.length)))) (K2 := K + 1) (S2 := p_s S2 96 13 (nI 0)) (I2 := I3) (L2 := L) (nI tn) ?_ (m7.trans r1) (text_new hinv h1 h14 p0 p5 t5 p6 p7 p8 m3 (fun k hk => ?_) ?_ (fun b b1 b2 b3 => ?_) ?_ ?_ ?_ p_s_at (fun b b1 b2 b3 b4 b5 => ?_) r3 r4 r5 (fun x x1 x2 x3 x4 => ?_) r7)
      · unfold fX8_text
        simp only [gB_o, gB_0, gB_4, Option.bind_some, e_on, p2, gT_p0, gW_1 (show p_isW 1 from Or.inl rfl), s11, gl, ga]
        rw [if_pos (by decide), if_pos (nI_lt h14 (by decide))]
      · rw [p_s_n (by decide), m5.1 1 (by decide), p_s_ne hk, p_s_n (by decide), p3.1 1 (by decide)]
      · rw [p_s_n (by decide), m5.1 1 (by decide), p_s_at]
      · rw [p_s_n b3, m5.1 b b3, p_s_n b1, p_s_n b2, p3.1 b b2]
      · rw [p_s_ne (by decide), m5.2 3 (by decide), p_s_n (by decide), p_s_n (by decide), p3.1 96 (by decide)]
      · rw [p_s_ne (by decide), m5.2 39 (by decide), p_s_n (by decide), p_s_n (by decide), p3.1 96 (by decide)]
      · rw [p_s_n (by decide), m5.1 57 (by decide), p_s_n (by decide), p_s_at]
      · rw [r2 b b2, m6 b b3 b4 b5, p3.2 b b1]
      · rw [r6 x x1 x2 x3 x4, e97]
    · have e14 : tn = 14 := by omega
      obtain ⟨S2, I2, m1, m2, m3, m4, m5, m6, m7⟩ := p9 K (p_s S1 57 0 (nI 0)) I1 L T Λ (by rw [p_s_n (by decide), p3.1 96 (by decide)]; exact h7) (fun x hx => by rw [p3.2 105 (by decide)]) (key I1 p3.2)
      refine both_go (h1 := p_H K (p_s S1 57 0 (nI 0)) I1 L T Λ) (S2 := p_s S2 96 13 (nI 0)) (I2 := I2) (L2 := L) (-1000000003) ?_ (m7.trans (pen_full (by rw [m6 97 (by decide) (by decide) (by decide), p3.2 97 (by decide), hI2, e14]))) (inv_tx hinv (fun b b1 b2 => ?_) ?_ ?_ ?_ p_s_at (fun b b1 b2 b3 b4 => ?_))
      · unfold fX8_text
        simp only [gB_o, gB_0, gB_4, Option.bind_some, e_on, p2, gT_p0, gW_1 (show p_isW 1 from Or.inl rfl), s11]
        rw [if_pos (by decide), if_neg (nI_nlt (by omega) (by omega))]
      · rw [p_s_n b2, m5.1 b b2, p_s_n b1, p3.1 b b1]
      · rw [p_s_ne (by decide), m5.2 3 (by decide), p_s_n (by decide), p3.1 96 (by decide)]
      · rw [p_s_ne (by decide), m5.2 39 (by decide), p_s_n (by decide), p3.1 96 (by decide)]
      · rw [p_s_n (by decide), m5.1 57 (by decide), p_s_at]
      · rw [m6 b b2 b3 b4, p3.2 b b1]
