def p_kt : List Nat := [14, 15, 16, 17, 18, 19, 23, 24, 26]
def p_yes (bt : Nat → Int32) (n ky : Nat) (w1 : Bool) (c1 : p_cf) (D : List Int32) (a : Nat) : Prop := ∃ kk, c1.1.1 + kk ≤ n ∧ ∀ (K : Nat) (S I : Nat → Nat → Int32) (L : Nat → Nat → Int64) (T : Nat → Nat → Option Nat) (Λ : Nat → p_Lw), p_sts bt n ky c1 S I → ∃ S' I', S' 96 19 = nI ky ∧ S' 96 23 = nI D.length ∧ p_sk (I' 108) D ∧ S' 96 24 = nI a ∧ p_fk p_ks S S' ∧ p_fI I I' ∧ ∀ f, fX9_takesE_L28 (f + kk + 1) 96 (nI (p_cO c1.2.1.1)) (nI (p_cN c1.2.1.1)) (e_b w1) (p_H K S I L T Λ) = some (true, p_H K S' I' L T Λ)
theorem p_to.yes {bt : Nat → Int32} {n ky : Nat} {w1 w2 : Bool} {c1 c2 : p_cf} {D : List Int32} {a : Nat} (h : p_to bt n ky w1 c1 w2 c2) (h' : p_yes bt n ky w2 c2 D a) : p_yes bt n ky w1 c1 D a := by
  obtain ⟨k1, a1, a2⟩ := h
  obtain ⟨k2, b1, b2⟩ := h'
  refine ⟨k2 + k1, by omega, fun K S I L T Λ hs => ?_⟩
  obtain ⟨S', I', g1, g2, g3, g4⟩ := a2 K S I L T Λ hs
  obtain ⟨S'', I'', m1, m2, m3, m4, m5, m6, m7⟩ := b2 K S' I' L T Λ g1
  refine ⟨S'', I'', m1, m2, m3, m4, g2.tr m5, g3.tr m6, fun f => ?_⟩
  rw [show f + (k2 + k1) + 1 = (f + k2 + 1) + k1 by omega, g4, m7]
def p_rfT (bt : Nat → Int32) (n p : Nat) : Prop := ∀ (K : Nat) (S I : Nat → Nat → Int32) (L : Nat → Nat → Int64) (T : Nat → Nat → Option Nat) (Λ : Nat → p_Lw), S 96 13 = nI n → (∀ x, x < n → I 105 x = bt x) → p_key9 I → ∃ S' I', S' 96 15 = nI p ∧ p_fk p_kt S S' ∧ p_fI I I' ∧ fX9_text 96 (p_H K S I L T Λ) = fX9_text_b33 96 (nI 0) (p_H K S' I' L T Λ)
def p_ysT (bt : Nat → Int32) (n ky : Nat) (D : List Int32) (a : Nat) : Prop := ∀ (K : Nat) (S I : Nat → Nat → Int32) (L : Nat → Nat → Int64) (T : Nat → Nat → Option Nat) (Λ : Nat → p_Lw), S 96 13 = nI n → (∀ x, x < n → I 105 x = bt x) → p_key9 I → ∃ S' I', S' 96 19 = nI ky ∧ S' 96 23 = nI D.length ∧ p_sk (I' 108) D ∧ S' 96 24 = nI a ∧ p_fk p_kt S S' ∧ p_fI I I' ∧ fX9_text 96 (p_H K S I L T Λ) = fX9_text_b33 96 (nI 1) (p_H K S' I' L T Λ)
section PARSE
variable {bt : Nat → Int32} {n : Nat}
theorem st_yes {ky q : Nat} {e : Int32} {V D D' : List Int32} {a : Nat} {τ : Nat → Bool} (ht : p_tb bt n) (hq : q ≤ n) (hf : p_skp bt n q = n) (hV : ∀ v, v ∈ V → v ≠ -11) (hD : V.reverse ++ D = D') : p_yes bt n ky false ((q, e), (V ++ [], D), a, τ) D' a := by
  have hn := ht.1
  refine ⟨0, hq, fun K S I L T Λ h => ?_⟩
  obtain ⟨hq9, ⟨t1, t2, t3, t4, t5⟩, -, hlen⟩ := h
  have hlen' : D.length + (V ++ []).length ≤ q := hlen
  have t3' : S 96 16 = nI (p_tkn bt n (p_skp bt n q) e) := t3
  have ek : p_tkn bt n (p_skp bt n q) e = 0 := by
    unfold p_tkn
    rw [if_pos (by omega)]
  obtain ⟨S1, I1, g1, g2, g3, g4⟩ := q9_settle (K := K) (L := L) (T := T) (Λ := Λ) (r := 0) (by decide) (show D.length + (V ++ []).length ≤ 96 by omega) hq9
  rw [stl_fl (r := 0) (W := []) trivial V D (fun v hv => ⟨hV v hv, Nat.zero_le _⟩), hD] at g2
  obtain ⟨z1, z2, z3, z4, z5, z6, z7, z8, z9⟩ := g2
  refine ⟨S1, I1, z3, z4, z5, z6, g3.mono (by decide), g4, fun f => ?_⟩
  have eO : p_cO (V ++ []) = 0 := cO_app V hV
  show fX9_takesE_b28 _ _ (nI (p_cO (V ++ []))) _ _ _ = _
  unfold fX9_takesE_b28
  rw [if_pos eb_f, gM_16, Option.bind_some, t3', ek, if_pos nI_0, g1, Option.bind_some, eO, if_pos nI_0]
section PRE9
variable {K : Nat} {S I : Nat → Nat → Int32} {L : Nat → Nat → Int64} {T : Nat → Nat → Option Nat} {Λ : Nat → p_Lw}
theorem text_go (ht : p_tb bt n) (h13 : S 96 13 = nI n) (hI : ∀ x, x < n → I 105 x = bt x) : ∃ S1, fX9_text 96 (p_H K S I L T Λ) = ((fX9_takesKey 96 (p_H K S1 I L T Λ)).bind fun p4 => if (e_b p4.1) = 0 then (fX9_text_b32 96 p4.2) else ((fX9_takesE 96 p4.2).bind fun p5 => if (e_b p5.1) = 0 then (fX9_text_b32 96 p5.2) else (fX9_text_b33 96 (nI 1) p5.2))) ∧ p_t9 bt n S1 0 (-1) ∧ S1 96 13 = nI n ∧ p_fk [14, 15, 16, 17, 18] S S1 := by
  obtain ⟨S1, m1, m2, m3⟩ := q9_go (K := K) (L := L) (T := T) (Λ := Λ) (I := I) (S := p_s (p_s S 96 14 (nI 0)) 96 18 (-1)) (q := 0) (e := -1) ht (by rw [p_s_ne (by decide), p_s_ne (by decide)]; exact h13) hI (Nat.zero_le _) (by rw [p_s_ne (by decide), p_s_at]) p_s_at
  refine ⟨S1, ?_, m2, by rw [m3.2 13 (by decide), p_s_ne (by decide), p_s_ne (by decide)]; exact h13, (((p_fk.rf _ S).put (by decide) _).put (by decide) _).tr m3⟩
  unfold fX9_text
  rw [gM_o, Option.bind_some, gM_p14, Option.bind_some, gM_p18, Option.bind_some, m1, Option.bind_some]
end PRE9
theorem text_nokey (ht : p_tb bt n) (h : ∀ s, s < 3 → ¬ p_wrd bt n (p_skp bt n 0) s) : p_rfT bt n (p_skp bt n 0) := by
  intro K S I L T Λ h13 hI hk
  obtain ⟨S1, g1, g2, g3, g4⟩ := text_go (K := K) (L := L) (T := T) (Λ := Λ) ht h13 hI
  have hn := ht.1
  have hle := p_skp_le (bt := bt) (Nat.zero_le n)
  rcases q9_takesKey (K := K) (L := L) (T := T) (Λ := Λ) ht g3 hI hk (Nat.zero_le n) g2 (nI_m1 (by omega)) with ⟨s, S2, y1, y2, -⟩ | ⟨-, y2⟩
  · exact absurd y2 (h s y1)
  · refine ⟨S1, I, g2.1, g4.mono (by decide), p_fI.rf _, ?_⟩
    rw [g1, y2, Option.bind_some, if_pos eb_f]
    rfl
theorem text_key (ht : p_tb bt n) {s : Nat} (hs : s < 3) (h : p_wrd bt n (p_skp bt n 0) s) (K : Nat) (S I : Nat → Nat → Int32) (L : Nat → Nat → Int64) (T : Nat → Nat → Option Nat) (Λ : Nat → p_Lw) (h13 : S 96 13 = nI n) (hI : ∀ x, x < n → I 105 x = bt x) (hk : p_key9 I) : ∃ S3 I3, fX9_text 96 (p_H K S I L T Λ) = ((fX9_takesE_L28 200 96 (nI 0) (nI 0) (e_b true) (p_H K S3 I3 L T Λ)).bind fun p5 => if (e_b p5.1) = 0 then (fX9_text_b32 96 p5.2) else (fX9_text_b33 96 (nI 1) p5.2)) ∧ p_sts bt n s ((p_skp bt n 0 + o_sn s, nI (p_skp bt n 0 + o_sn s)), ([], []), 0, fun _ => false) S3 I3 ∧ p_fk p_kt S S3 ∧ p_fI I I3 := by
  obtain ⟨S1, g1, g2, g3, g4⟩ := text_go (K := K) (L := L) (T := T) (Λ := Λ) ht h13 hI
  have hn := ht.1
  have hle := p_skp_le (bt := bt) (Nat.zero_le n)
  rcases q9_takesKey (K := K) (L := L) (T := T) (Λ := Λ) ht g3 hI hk (Nat.zero_le n) g2 (nI_m1 (by omega)) with ⟨s', S2, y1, y2, y3, y4, y5, y6⟩ | ⟨y1, y2⟩
  · have es : s' = s := wd_one y1 hs y2 h
    rw [es] at y4 y5
    obtain ⟨w1, w2⟩ := wd_re hs hle.2 h
    refine ⟨p_s (p_s (p_s S2 96 23 (nI 0)) 96 24 (nI 0)) 96 26 (nI 0), va_up I 110 (upd (I 110) 0 (nI 0)), ?_, ⟨⟨?_, ?_, ?_, ?_, ?_, ?_, ?_, ?_, ?_⟩, ?_, w1, Nat.zero_le _⟩, (((((g4.mono (by decide)).tr (y6.mono (by decide))).put (by decide) _).put (by decide) _).put (by decide) _), (p_fI.rf I).up (Or.inr (Or.inr rfl)) _⟩
    · rw [g1, y3, Option.bind_some, if_neg eb_t]
      have e1 : fX9_takesE 96 (p_H K S2 I L T Λ) = fX9_takesE_L28 200 96 (nI 0) (nI 0) (e_b true) (p_H K (p_s (p_s (p_s S2 96 23 (nI 0)) 96 24 (nI 0)) 96 26 (nI 0)) (va_up I 110 (upd (I 110) 0 (nI 0))) L T Λ) := by
        unfold fX9_takesE
        simp only [gM_o, gM_p23, gM_p24, gM_p26, gM_27, Option.bind_some, e_on, p_stI pk_110 (show 0 < 10 by decide) (show 10 < 2 ^ 31 by decide), show vp_nar .boolean (nI 0) = nI 0 by decide, eb_1]
      rw [e1]
    · rw [p_s_ne (by decide), p_s_ne (by decide), p_s_ne (by decide), y6.2 13 (by decide)]; exact g3
    · rw [va_up_n (by decide)]; exact hI
    · rw [p_s_ne (by decide), p_s_ne (by decide), p_s_ne (by decide)]; exact y5
    · rw [p_s_ne (by decide), p_s_ne (by decide), p_s_at]; rfl
    · exact fun i hi => absurd hi (Nat.not_lt_zero i)
    · rw [p_s_ne (by decide), p_s_at]
    · rw [p_s_at]; rfl
    · exact fun i hi => absurd hi (Nat.not_lt_zero i)
    · intro i hi
      have e0 : i = 0 := Nat.le_zero.mp hi
      rw [va_up_s, e0]
      simp [upd]
      rfl
    · exact y4.fk ((((p_fk.rf [23, 24, 26] S2).put (by decide) _).put (by decide) _).put (by decide) _) (by decide)
  · exact absurd h (y1 s hs)
theorem text_no (ht : p_tb bt n) {s p : Nat} (hs : s < 3) (h : p_wrd bt n (p_skp bt n 0) s) (hno : p_no bt n s true ((p_skp bt n 0 + o_sn s, nI (p_skp bt n 0 + o_sn s)), ([], []), 0, fun _ => false) p) : p_rfT bt n p := by
  intro K S I L T Λ h13 hI hk
  have hn := ht.1
  obtain ⟨S3, I3, g1, g2, g3, g4⟩ := text_key ht hs h K S I L T Λ h13 hI hk
  obtain ⟨kk, n1, n2⟩ := hno
  obtain ⟨S4, I4, m1, m2, m3, m4⟩ := n2 K S3 I3 L T Λ g2
  have n1' : p_skp bt n 0 + o_sn s + kk ≤ n := n1
  have m4' := m4 (199 - kk)
  rw [show 199 - kk + kk + 1 = 200 by omega] at m4'
  have m5 : fX9_takesE_L28 200 96 (nI 0) (nI 0) (e_b true) (p_H K S3 I3 L T Λ) = some (false, p_H K S4 I4 L T Λ) := m4'
  refine ⟨S4, I4, m1, g3.tr (m2.mono (by decide)), g4.tr m3, ?_⟩
  rw [g1, m5, Option.bind_some, if_pos eb_f]
  rfl
theorem text_yes (ht : p_tb bt n) {s a : Nat} {D : List Int32} (hs : s < 3) (h : p_wrd bt n (p_skp bt n 0) s) (hys : p_yes bt n s true ((p_skp bt n 0 + o_sn s, nI (p_skp bt n 0 + o_sn s)), ([], []), 0, fun _ => false) D a) : p_ysT bt n s D a := by
  intro K S I L T Λ h13 hI hk
  have hn := ht.1
  obtain ⟨S3, I3, g1, g2, g3, g4⟩ := text_key ht hs h K S I L T Λ h13 hI hk
  obtain ⟨kk, n1, n2⟩ := hys
  obtain ⟨S4, I4, m1, m2, m3, m4, m5, m6, m7⟩ := n2 K S3 I3 L T Λ g2
  have n1' : p_skp bt n 0 + o_sn s + kk ≤ n := n1
  have m8 := m7 (199 - kk)
  rw [show 199 - kk + kk + 1 = 200 by omega] at m8
  have m9 : fX9_takesE_L28 200 96 (nI 0) (nI 0) (e_b true) (p_H K S3 I3 L T Λ) = some (true, p_H K S4 I4 L T Λ) := m8
  refine ⟨S4, I4, m1, m2, m3, m4, g3.tr (m5.mono (by decide)), g4.tr m6, ?_⟩
  rw [g1, m9, Option.bind_some, if_neg eb_t]
theorem parse (ht : p_tb bt n) {K : Nat} {S I : Nat → Nat → Int32} {L : Nat → Nat → Int64} {T : Nat → Nat → Option Nat} {Λ : Nat → p_Lw} (h0 : S 57 0 = nI n) (hI : ∀ x, x < n → I 58 x = bt x) : (∃ p S1 I1, p ≤ n ∧ fX5_read 57 (p_H K S I L T Λ) = some (nI p, p_H K S1 I1 L T Λ) ∧ p_f8 S I S1 I1 ∧ S1 57 0 = nI n ∧ p_rfT bt n p) ∨ (∃ ky S1 I1 at_ C a, ky ≤ 2 ∧ at_ ≤ n ∧ fX5_read 57 (p_H K S I L T Λ) = some (-1, p_H K S1 I1 L T Λ) ∧ p_f8 S I S1 I1 ∧ p_ts bt n ky S1 I1 at_ C a ∧ C.length < 96 ∧ C ≠ [] ∧ p_wfl C ∧ p_dp C = 1 ∧ (∀ x, x ∈ C → p_okc ky x) ∧ p_ysT bt n ky (C.map p_c9) a) := by
  have hn := ht.1
  have hle := p_skp_le (bt := bt) (Nat.zero_le n)
  obtain ⟨f, hf⟩ : ∃ f, f = p_skp bt n 0 := ⟨_, rfl⟩
  have hff : p_skp bt n f = f := by rw [hf]; exact p_skp_skp (Nat.zero_le n)
  obtain ⟨S0, hS0⟩ : ∃ S0, S0 = p_s (p_s (p_s S 57 4 (nI 0)) 57 3 (nI 0)) 57 6 (nI 0) := ⟨_, rfl⟩
  have s0 : S0 57 0 = nI n := by rw [hS0, p_s_ne (by decide), p_s_ne (by decide), p_s_ne (by decide)]; exact h0
  have s4 : S0 57 4 = nI 0 := by rw [hS0, p_s_ne (by decide), p_s_ne (by decide), p_s_at]
  have s3 : S0 57 3 = nI 0 := by rw [hS0, p_s_ne (by decide), p_s_at]
  have s6 : S0 57 6 = nI 0 := by rw [hS0, p_s_at]
  have f80 : p_f8 S I S0 I := by rw [hS0]; exact (((p_f8.rf S I).s _ _).s _ _).s _ _
  have gk := q_readKey (K := K) (L := L) (T := T) (Λ := Λ) ht s0 hI (Nat.zero_le n) s4
  rw [← hf] at gk hle
  rcases gk with ⟨s, y1, y2, y3⟩ | ⟨y1, y2⟩
  · obtain ⟨w1, w2⟩ := wd_re y1 hle.2 y2
    have hl := key_len s y1
    have y2' : p_wrd bt n (p_skp bt n 0) s := by rw [← hf]; exact y2
    obtain ⟨q, hq⟩ : ∃ q, q = f + o_sn s := ⟨_, rfl⟩
    have hqq : p_skp bt n 0 + o_sn s = q := by rw [hq, hf]
    obtain ⟨S1, hS1⟩ : ∃ S1, S1 = p_s (p_s S0 57 4 (nI q)) 57 5 (nI s) := ⟨_, rfl⟩
    have hts : p_ts bt n s S1 I q [] 0 := by
      rw [hS1]
      refine ⟨by rw [p_s_ne (by decide), p_s_ne (by decide)]; exact s0, hI, by rw [p_s_ne (by decide), p_s_at], by rw [p_s_ne (by decide), p_s_ne (by decide)]; exact s3, fun i hi => absurd hi (Nat.not_lt_zero i), by rw [p_s_ne (by decide), p_s_ne (by decide)]; exact s6, p_s_at⟩
    have f81 : p_f8 S I S1 I := by rw [hS1]; exact (f80.s _ _).s _ _
    have step : fX5_read 57 (p_H K S I L T Λ) = if (e_b (p_dig (p_by bt n q))) = 0 then ((fX5_readLevel 57 (nI 0) (nI 0) (nI 0) (p_H K S1 I L T Λ)).bind fun p10 => if (e_b p10.1) = 0 then (fX5_read_b54 57 p10.2) else ((fX5_skipBlanks 57 p10.2).bind fun h11 => (o_getI h11 57 5 4).bind fun v12 => (o_getI h11 57 5 0).bind fun v13 => if v13 ≤ v12 then (some ((-1 : Int32), h11)) else ((o_getI h11 57 5 4).bind fun v14 => some (v14, h11)))) else (fX5_read_b54 57 (p_H K S1 I L T Λ)) := by
      unfold fX5_read
      rw [gT_o, Option.bind_some, gT_p4, Option.bind_some, gT_p3, Option.bind_some, gT_p6, Option.bind_some, ← hS0, y3, Option.bind_some, gT_p5, Option.bind_some, ← hq, ← hS1, gT_5, Option.bind_some, hts.2.2.2.2.2.2, if_neg (nI_pos (by omega)), gT_4, Option.bind_some, hts.2.2.1, q_byteAt ht hts.1 hts.2.1 (by omega), Option.bind_some, q_isDigit, Option.bind_some]
    have nol : p_ltr (p_by bt n q) = false := by rw [hq]; exact y2.2
    cases hd : p_dig (p_by bt n q)
    · rw [hd, if_pos eb_f] at step
      obtain ⟨ok, S2, I2, at2, C2, a2, r1, r2, r3, r4, r5, r6⟩ := sim_top (ky := s) ht (by omega) K S1 I L T Λ q [] 0 hts (by omega) (by show 0 + 4 ≤ q; omega)
      rw [r1, Option.bind_some] at step
      have prr : p_prr bt n 0 0 0 q [] q (nI q) [] [] (fun _ => false) := by
        refine ⟨by omega, rfl, fun z => ?_, p_en_nI (by omega), rfl, rfl, trivial, rfl, fun _ => rfl⟩
        have h1 := (p_skp_le (bt := bt) (show q ≤ n by omega)).2
        have h2 := (nI_eq (by omega) (by omega)).mp z
        rw [← h2]
        exact ⟨nol, hd⟩
      cases ok with
      | false =>
        rw [if_pos eb_f] at step
        refine Or.inl ⟨at2, S2, I2, r4, ?_, f81.tr r2, r3.1, text_no ht y1 y2' ?_⟩
        · rw [step]
          unfold fX5_read_b54
          rw [gT_4, Option.bind_some, r3.2.2.1]
        · rw [hqq]
          exact r6 rfl _ _ _ _ _ prr
      | true =>
        obtain ⟨⟨p1, p2, p3, p4⟩, p5, p6⟩ := r5 rfl
        have p5' := p5 (by omega)
        have g1 := q_skip (S := S2) (I := I2) (L := L) (T := T) (K := K) (Λ := Λ) ht r3.1 r3.2.1 r4 r3.2.2.1
        rw [p5', ← r3.2.2.1, p_s_id] at g1
        rw [if_neg eb_t, g1, Option.bind_some, gT_4, Option.bind_some, gT_0, Option.bind_some, r3.1, r3.2.2.1] at step
        obtain ⟨q1, e1, V1, D1, τ1, v1, x1, x2, x3, x4, x5, x6, x7, x8⟩ := p6 _ _ _ _ _ prr
        rw [p5'] at x2 x8
        by_cases hend : at2 = n
        · rw [if_pos (nI_le (by omega) (by omega))] at step
          obtain ⟨z1, z2⟩ := p3 trivial
          have hl2 : C2.length < 96 := by
            have : C2.length + q ≤ 0 + at2 := p2
            omega
          refine Or.inr ⟨s, S2, I2, at2, C2, a2, by omega, r4, step, f81.tr r2, r3, hl2, fun z => ?_, z1, z2, p4 (fun x hx => absurd hx (by simp)), text_yes ht y1 y2' ?_⟩
          · rw [z] at z2
            exact absurd z2 (by decide)
          · rw [hqq]
            exact v1.yes (st_yes ht x1 (by rw [x2, hend]) (fun v hv => (x4 v hv).1) x5)
        · rw [if_neg (nI_ge (by omega) (by omega)), Option.bind_some] at step
          refine Or.inl ⟨at2, S2, I2, r4, step, f81.tr r2, r3.1, text_no ht y1 y2' ?_⟩
          rw [hqq]
          have eO : p_cO (V1 ++ []) = 0 := cO_app V1 (fun v hv => (x4 v hv).1)
          have s9 := st_sno (q := q1) (e := e1) (W := V1 ++ []) (D := D1) (a := a2) (τ := τ1) (ky := s) ht (by rw [x2]; omega) (fun _ => eO) (by rw [eO]; omega) (by
            rw [x2, eO]
            by_cases hz : p_sh (p_by bt n at2) = nI 0
            · exact Or.inl hz
            · obtain ⟨l, l1, l2, l3⟩ := sh_row hz
              obtain ⟨m1, m2⟩ := x8 l (Nat.zero_le _) l1 l2
              exact Or.inr ⟨by rw [l3, m1], m2⟩)
          rw [x2] at s9
          exact v1.no s9
    · rw [hd, if_neg eb_t] at step
      refine Or.inl ⟨q, S1, I, by omega, ?_, f81, hts.1, text_no ht y1 y2' ?_⟩
      · rw [step]
        unfold fX5_read_b54
        rw [gT_4, Option.bind_some, hts.2.2.1]
      · rw [hqq]
        have hlt : q < n := by
          by_cases z : q < n
          · exact z
          · unfold p_by at hd
            rw [if_neg z] at hd
            exact absurd hd (by decide)
        have hsq : p_skp bt n q = q := p_skp_id (by omega) (by
          cases hbk : p_blk (p_by bt n q)
          · rfl
          · have : p_by bt n q = nI 32 := of_decide_eq_true hbk
            rw [this] at hd
            exact absurd hd (by decide))
        have hx : p_pt bt n s q (nI q) = none := by
          have ek : p_tkn bt n q (nI q) = 4 := by
            unfold p_tkn
            rw [if_neg (show ¬ n ≤ q by omega), nol, if_neg (by decide), hd, if_pos rfl, if_pos (Or.inl rfl)]
          unfold p_pt
          rw [ek, if_neg (by decide), if_neg (fun z => absurd z.1 (by decide))]
        have s9 := st_no (q := q) (e := nI q) (W := []) (D := []) (a := 0) (τ := fun _ => false) (ky := s) ht (by omega) (by omega) (fun z => by
          rw [hsq] at z
          rw [z] at hd
          exact absurd hd (by decide)) (fun z => by
          rw [hsq] at z
          rw [z] at hd
          exact absurd hd (by decide)) (by decide) (by decide) (by rw [hsq]; exact hx)
        rw [hsq] at s9
        exact s9
  · refine Or.inl ⟨f, p_s (p_s S0 57 4 (nI f)) 57 5 (-1), I, hle.2, ?_, (f80.s _ _).s _ _, by rw [p_s_ne (by decide), p_s_ne (by decide)]; exact s0, by
      rw [hf]
      exact text_nokey ht (by rw [← hf]; exact y1)⟩
    unfold fX5_read fX5_read_b54
    rw [gT_o, Option.bind_some, gT_p4, Option.bind_some, gT_p3, Option.bind_some, gT_p6, Option.bind_some, ← hS0, y2, Option.bind_some, gT_p5, Option.bind_some, gT_5, Option.bind_some, p_s_at, if_pos (show (-1 : Int32) < 0 by decide), gT_4, Option.bind_some, p_s_ne (by decide), p_s_at]
end PARSE
