theorem p_inv.gen {S S' I I' : Nat → Nat → Int32} {T T' : Nat → Nat → Option Nat} {K K' : Nat} {Λ Λ' : Nat → p_Lw} (h : p_inv K S I T Λ)
    (w1 : ∃ lw cn tn, p_wr 1 97 S' I' T' K' Λ' lw cn tn)
    (w2 : ∃ b : Bool, S' 0 9 = e_b b ∧ S' 96 3 = e_b b ∧ (b = true → ∃ lw cn tn, p_wr 17 98 S' I' T' K' Λ' lw cn tn))
    (tp : ∃ l, l ≤ 96 ∧ S' 57 0 = nI l ∧ S' 96 13 = nI l ∧ ∀ x, x < l → I' 58 x = I' 105 x ∧ ∃ y, y < 256 ∧ I' 105 x = nI y)
    (wt : ∃ m, m ≤ 60 ∧ S' 0 8 = nI m ∧ S' 96 39 = nI m ∧ ∀ x, x < m → I' 62 x = I' 121 x)
    (hS : ∀ a, 62 < a → a < 96 → S' a = S a) (hI : ∀ a, (62 < a ∧ a < 96) ∨ (112 < a ∧ a < 120) ∨ a = 106 ∨ a = 107 → I' a = I a) (htk : p_tok T' K') : p_inv K' S' I' T' Λ' := by
  obtain ⟨-, -, -, -, h13, h14, h15, -⟩ := h
  refine ⟨w1, w2, tp, wt, fun s hs => ?_, fun s hs => ?_, ?_, htk⟩
  · rw [hS (63 + 2 * s) (by omega) (by omega), hI 113 (by decide), hI 114 (by decide), hI 115 (by decide), hI (63 + 2 * s + 1) (by omega)]
    exact h13 s hs
  · rw [hS (71 + 5 * s) (by omega) (by omega), hS (72 + 5 * s) (by omega) (by omega), hS (74 + 5 * s) (by omega) (by omega), hI 116 (by decide), hI 117 (by decide), hI 118 (by decide), hI 119 (by decide), hI (72 + 5 * s + 1) (by omega), hI (74 + 5 * s + 1) (by omega)]
    exact h14 s hs
  · unfold p_key9 at h15 ⊢
    rw [hI 106 (by decide), hI 107 (by decide)]
    exact h15
theorem c_tell (v : Int32) : p_both (fX8_tell 0 v) (fX9_tell 96 v) := by
  intro K S I L T Λ hinv
  obtain ⟨⟨lw, cn, tn, h1⟩, ⟨b, h2, h3, h4⟩, ⟨l, h5, h6, h7, h8⟩, ⟨m, h9, h10, h11, h12⟩, h13, h14, h15, h16⟩ := id hinv
  by_cases hm : m = 60
  · subst hm
    refine both_bad (r := -1000000003) hinv ?_ ?_
    · unfold fX8_tell
      simp only [gB_o, gB_0, gB_1, gB_2, gB_3, gB_4, gB_5, gB_6, gB_7, gB_8, gB_9, gB_p8, gB_p9, p_lenF pk_60, p_lenF pk_61, p_lenI pk_62, Option.bind_some, e_on, h10]
      rw [if_neg (nI_pos (by decide)), if_neg (by decide)]
    · unfold fX9_tell
      simp only [gM_o, gM_39, Option.bind_some, e_on, h11]
      rw [if_pos trivial]
  · have hm6 : m < 60 := by omega
    refine both_go (h1 := p_H K (p_s S 0 8 (nI (m + 1))) (va_up I 62 (upd (I 62) m v)) L T Λ) (S2 := p_s (p_s S 0 8 (nI (m + 1))) 96 39 (nI (m + 1))) (I2 := va_up (va_up I 62 (upd (I 62) m v)) 121 (upd (I 121) m v)) (L2 := L) (nI (m + 1)) ?_ ?_ (hinv.gen ⟨lw, cn, tn, h1.fr (fun x z1 z2 => by rw [p_s_n (by omega), p_s_n (by omega)]) (fun x z1 z2 => by rw [va_up_n (by omega), va_up_n (by omega)]) (by rw [va_up_n (by omega), va_up_n (by omega)])⟩ ⟨b, ?_, ?_, fun hb => ?_⟩ ⟨l, h5, ?_, ?_, ?_⟩ ⟨m + 1, by omega, ?_, ?_, fun x hx => ?_⟩ (fun a z1 z2 => by rw [p_s_n (by omega), p_s_n (by omega)]) (fun a ha => by rw [va_up_n (by omega), va_up_n (by omega)]) h16)
    · unfold fX8_tell
      simp only [gB_o, gB_0, gB_1, gB_2, gB_3, gB_4, gB_5, gB_6, gB_7, gB_8, gB_9, gB_p8, gB_p9, p_lenF pk_60, p_lenF pk_61, p_lenI pk_62, Option.bind_some, e_on, h10, p_stI pk_62 hm6 (show 60 < 2 ^ 31 by decide), p_s_at, nI_s]
      rw [if_neg (nI_pos (by omega)), if_pos (nI_lt hm6 (by decide))]
    · unfold fX9_tell
      simp only [gM_o, gM_39, gM_38, gM_p39, Option.bind_some, e_on, p_s_n (show 96 ≠ 0 by decide), h11, p_stI pk_121 hm6 (show 60 < 2 ^ 31 by decide), p_s_at, nI_s]
      rw [if_neg (fun z => hm ((nI_eq (by omega) (by decide)).mp z)), va_up_n (show 121 ≠ 62 by decide)]
    · rw [p_s_n (by decide), p_s_ne (by decide)]; exact h2
    · rw [p_s_ne (by decide), p_s_n (by decide)]; exact h3
    · obtain ⟨lw, cn, tn, h⟩ := h4 hb
      exact ⟨lw, cn, tn, h.fr (fun x z1 z2 => by rw [p_s_n (by omega), p_s_n (by omega)]) (fun x z1 z2 => by rw [va_up_n (by omega), va_up_n (by omega)]) (by rw [va_up_n (by omega), va_up_n (by omega)])⟩
    · rw [p_s_n (by decide), p_s_n (by decide)]; exact h6
    · rw [p_s_ne (by decide), p_s_n (by decide)]; exact h7
    · rw [va_up_n (by decide), va_up_n (by decide), va_up_n (by decide), va_up_n (by decide)]; exact h8
    · rw [p_s_n (by decide), p_s_at]
    · rw [p_s_at]
    · rw [va_up_n (by decide), va_up_s, va_up_s]
      simp only [upd]
      by_cases e : x = m
      · rw [if_pos e, if_pos e]
      · rw [if_neg e, if_neg e]
        exact h12 x (by omega)
theorem c_count (w : Int32) : p_both0 (fX8_count 0 w) (fX9_count 96 w) := by
  intro K S I L T Λ hinv
  obtain ⟨⟨lw, cn, tn, h1⟩, ⟨b, h2, h3, h4⟩, ⟨l, h5, h6, h7, h8⟩, ⟨m, h9, h10, h11, h12⟩, h13, h14, h15, h16⟩ := hinv
  refine ⟨if w = nI 0 then nI cn else if w = nI 1 then nI tn else if w = nI 2 then nI m else if w = nI 3 then nI l else if w = nI 4 then S 1 2 else -1000000001, ?_, ?_⟩
  · unfold fX8_count
    simp only [gB_o, gB_0, gB_1, gB_2, gB_3, gB_4, gB_5, gB_6, gB_7, gB_8, gB_9, gB_p8, gB_p9, p_lenF pk_60, p_lenF pk_61, p_lenI pk_62, Option.bind_some, e_on, gW_0 pk_w1, gW_1 pk_w1, gW_2 pk_w1, gT_0, h1.1.2.1, h1.2.2.2.1, h10, h6]
    split
    · rfl
    · split
      · rfl
      · split
        · rfl
        · split
          · rfl
          · split <;> rfl
  · unfold fX9_count
    simp only [gM_o, gM_0, gM_39, gM_13, Option.bind_some, e_on, p_ldI pk_97 (show 1 < 1471 by decide) (show 1471 < 2 ^ 31 by decide), p_ldI pk_97 (show 2 < 1471 by decide) (show 1471 < 2 ^ 31 by decide), p_ldI pk_97 (show 0 < 1471 by decide) (show 1471 < 2 ^ 31 by decide), h1.1.2.2.1, h1.2.2.2.2.1, h11, h7, h1.1.2.2.2]
    split
    · rfl
    · split
      · rfl
      · split
        · rfl
        · split
          · rfl
          · split <;> rfl
theorem c_why (k : Int32) : p_both0 (fX8_why 0 k) (fX9_why 96 k) := by
  intro K S I L T Λ hinv
  obtain ⟨lw, cn, tn, h⟩ := hinv.1
  have hw := k_w9 h
  rcases rng_or k (n := 2) (by decide) with ⟨kk, hk, rfl⟩ | ⟨hno, hr⟩
  · refine ⟨if 0 ≤ p_last (p_keys Λ lw) (nI kk) tn then p_last (p_keys Λ lw) (nI kk) tn else -1000000005, ?_, ?_⟩
    · unfold fX8_why
      simp only [gB_o, gB_0, gB_1, gB_2, gB_3, gB_4, gB_5, gB_6, gB_7, gB_8, gB_9, gB_p8, gB_p9, p_lenF pk_60, p_lenF pk_61, p_lenI pk_62, Option.bind_some, e_on, up_yes hk (show 2 < 2 ^ 31 by decide), q_lastLawOf pk_w1 h.2.2.2.2.2.1 h.2.2.2.1]
      split <;> rfl
    · unfold fX9_why
      simp only [gM_o, Option.bind_some, e_on, in_yes hk (show 2 < 2 ^ 31 by decide), if_neg eb_t, q9_counts hw.1 hw.2.1 hw.2.2.1 hw.2.2.2 hk]
      split <;> rfl
  · refine ⟨-1000000001, ?_, ?_⟩
    · unfold fX8_why
      simp only [gB_o, gB_0, gB_1, gB_2, gB_3, gB_4, gB_5, gB_6, gB_7, gB_8, gB_9, gB_p8, gB_p9, p_lenF pk_60, p_lenF pk_61, p_lenI pk_62, Option.bind_some, e_on, up_no hr]
    · unfold fX9_why
      simp only [gM_o, Option.bind_some, e_on, in_no hr, if_pos eb_f]
theorem c_textTold (t w : Int32) : p_both0 (fX8_textTold 0 t w) (fX9_textTold 96 t w) := by
  intro K S I L T Λ hinv
  obtain ⟨lw, cn, tn, h⟩ := hinv.1
  have htn := h.2.2.1
  rcases cur_or t (n := tn) (by omega) with ⟨tt, ht, rfl⟩ | hc
  · have hlk := (h.2.2.2.2.2.1.2 tt ht).2
    obtain ⟨k, k1, k2, k3, k4, k5⟩ := h.2.2.2.2.2.2.2 tt ht
    have hev := (h.2.2.2.2.2.2.1 tt ht).1
    rcases rng_or w (n := 1) (by decide) with ⟨ww, hw, rfl⟩ | ⟨hno, hr⟩
    · refine ⟨if nI ww = 0 then nI k else (Λ (lw tt)).1.2, ?_, ?_⟩
      · unfold fX8_textTold
        simp only [gB_o, gB_0, gB_1, gB_2, gB_3, gB_4, gB_5, gB_6, gB_7, gB_8, gB_9, gB_p8, gB_p9, p_lenF pk_60, p_lenF pk_61, p_lenI pk_62, Option.bind_some, e_on, q_lawAt pk_w1 h.2.2.2.2.2.1 h.2.2.2.1 ht, up_yes hw (show 1 < 2 ^ 31 by decide), gX_0 hlk, gX_1 hlk, k2]
        split <;> rfl
      · unfold fX9_textTold
        simp only [gM_o, gM_0, Option.bind_some, e_on, p_ldI pk_97 (show 2 < 1471 by decide) (show 1471 < 2 ^ 31 by decide), h.2.2.2.2.1, inz_yes ht (show tn ≤ 96 by omega), in_yes hw (show 1 < 2 ^ 31 by decide), if_neg eb_t, nI_mul, nI_add, show 99 + 2 * tt + 1 = 100 + 2 * tt by omega, p_ldI pk_97 (show 99 + 2 * tt < 1471 by omega) (show 1471 < 2 ^ 31 by decide), p_ldI pk_97 (show 100 + 2 * tt < 1471 by omega) (show 1471 < 2 ^ 31 by decide), k3, k4]
        rw [nI_div (by omega) (by decide), show (1000 * k + (Λ (lw tt)).2.1) / 1000 = k by omega]
        split <;> rfl
    · refine ⟨-1000000001, ?_, ?_⟩
      · unfold fX8_textTold
        simp only [gB_o, gB_0, gB_1, gB_2, gB_3, gB_4, gB_5, gB_6, gB_7, gB_8, gB_9, gB_p8, gB_p9, p_lenF pk_60, p_lenF pk_61, p_lenI pk_62, Option.bind_some, e_on, q_lawAt pk_w1 h.2.2.2.2.2.1 h.2.2.2.1 ht, up_no hr]
      · unfold fX9_textTold
        simp only [gM_o, gM_0, Option.bind_some, e_on, p_ldI pk_97 (show 2 < 1471 by decide) (show 1471 < 2 ^ 31 by decide), h.2.2.2.2.1, inz_yes ht (show tn ≤ 96 by omega), in_no hr, if_neg eb_t, if_pos eb_f]
  · refine ⟨-1000000001, ?_, ?_⟩
    · unfold fX8_textTold
      simp only [gB_o, gB_0, gB_1, gB_2, gB_3, gB_4, gB_5, gB_6, gB_7, gB_8, gB_9, gB_p8, gB_p9, p_lenF pk_60, p_lenF pk_61, p_lenI pk_62, Option.bind_some, e_on, q_lawAt_no pk_w1 h.2.2.2.1 hc]
    · unfold fX9_textTold
      simp only [gM_o, gM_0, Option.bind_some, e_on, p_ldI pk_97 (show 2 < 1471 by decide) (show 1471 < 2 ^ 31 by decide), h.2.2.2.2.1, inz_no (show tn ≤ 96 by omega) hc, if_pos eb_f]
theorem c_trim (n : Int32) : p_both (fX8_trim 0 n) (fX9_trim 96 n) := by
  intro K S I L T Λ hinv
  obtain ⟨⟨lw, cn, tn, h1⟩, ⟨b, h2, h3, h4⟩, ⟨l, h5, h6, h7, h8⟩, ⟨m, h9, h10, h11, h12⟩, h13, h14, h15, h16⟩ := id hinv
  rcases rng_or n (n := l) (by omega) with ⟨j, hj, rfl⟩ | ⟨hno, hr⟩
  · refine both_go (h1 := p_H K (p_s S 57 0 (nI j)) I L T Λ) (S2 := p_s (p_s S 57 0 (nI j)) 96 13 (nI j)) (I2 := I) (L2 := L) (nI j) ?_ ?_ (hinv.gen ⟨lw, cn, tn, h1.fr (fun x z1 z2 => by rw [p_s_n (by omega), p_s_n (by omega)]) (fun x z1 z2 => rfl) rfl⟩ ⟨b, ?_, ?_, fun hb => ?_⟩ ⟨j, by omega, ?_, ?_, fun x hx => h8 x (by omega)⟩ ⟨m, h9, ?_, ?_, h12⟩ (fun a z1 z2 => by rw [p_s_n (by omega), p_s_n (by omega)]) (fun a ha => rfl) h16)
    · unfold fX8_trim
      simp only [gB_o, gB_0, gB_1, gB_2, gB_3, gB_4, gB_5, gB_6, gB_7, gB_8, gB_9, gB_p8, gB_p9, p_lenF pk_60, p_lenF pk_61, p_lenI pk_62, gT_0, gT_p0, Option.bind_some, e_on, h6, up_yes hj (show l < 2 ^ 31 by omega)]
    · unfold fX9_trim
      simp only [gM_o, gM_13, gM_p13, Option.bind_some, e_on, p_s_n (show 96 ≠ 57 by decide), h7, in_yes hj (show l < 2 ^ 31 by omega), if_neg eb_t]
    · rw [p_s_n (by decide), p_s_n (by decide)]; exact h2
    · rw [p_s_ne (by decide), p_s_n (by decide)]; exact h3
    · obtain ⟨lw, cn, tn, h⟩ := h4 hb
      exact ⟨lw, cn, tn, h.fr (fun x z1 z2 => by rw [p_s_n (by omega), p_s_n (by omega)]) (fun x z1 z2 => rfl) rfl⟩
    · rw [p_s_n (by decide), p_s_at]
    · rw [p_s_at]
    · rw [p_s_n (by decide), p_s_n (by decide)]; exact h10
    · rw [p_s_ne (by decide), p_s_n (by decide)]; exact h11
  · refine both_bad (r := -1000000001) hinv ?_ ?_
    · unfold fX8_trim
      simp only [gB_o, gB_0, gB_1, gB_2, gB_3, gB_4, gB_5, gB_6, gB_7, gB_8, gB_9, gB_p8, gB_p9, p_lenF pk_60, p_lenF pk_61, p_lenI pk_62, gT_0, gT_p0, Option.bind_some, e_on, h6, up_no hr]
    · unfold fX9_trim
      simp only [gM_o, gM_13, Option.bind_some, e_on, h7, in_no hr, if_pos eb_f]
-- bytes
def p_byte (v : Int32) (j : Nat) : Int32 := (v >>> nI (24 - 8 * j)) &&& nI 255
theorem bv_byte (x : BitVec 32) (s : Nat) (hs : s ≤ 24) : (x >>> s) &&& 255#32 = (x.sshiftRight s) &&& 255#32 := by
  have h255 : ∀ i, i < 32 → (255#32).getLsbD i = decide (i < 8) := by decide
  apply BitVec.eq_of_getLsbD_eq
  intro i hi
  rw [BitVec.getLsbD_and, BitVec.getLsbD_and, h255 i hi]
  by_cases h : i < 8
  · rw [BitVec.getLsbD_ushiftRight, BitVec.getLsbD_sshiftRight, if_pos (show s + i < 32 by omega), decide_eq_false (show ¬ 32 ≤ i by omega)]
    simp
  · rw [decide_eq_false h, Bool.and_false, Bool.and_false]
theorem byte_eq (v : Int32) : ∀ j, j < 4 → ((v.toUInt32 >>> ((nI (24 - 8 * j)).toUInt32 &&& Int32.toUInt32 31)).toInt32 &&& nI 255) = p_byte v j := by
  intro j hj
  unfold p_byte
  apply Int32.toBitVec_inj.mp
  rw [Int32.toBitVec_and, Int32.toBitVec_and, Int32.toBitVec_shiftRight]
  rcases (show j = 0 ∨ j = 1 ∨ j = 2 ∨ j = 3 by omega) with rfl | rfl | rfl | rfl
  · exact bv_byte v.toBitVec 24 (by decide)
  · exact bv_byte v.toBitVec 16 (by decide)
  · exact bv_byte v.toBitVec 8 (by decide)
  · exact bv_byte v.toBitVec 0 (by decide)
theorem byte_lt (v : Int32) (j : Nat) : ∃ y, y < 256 ∧ p_byte v j = nI y := by
  unfold p_byte
  refine ⟨((v >>> nI (24 - 8 * j)).toBitVec &&& 255#32).toNat, ?_, ?_⟩
  · rw [BitVec.toNat_and]
    exact Nat.lt_of_le_of_lt Nat.and_le_right (by decide)
  · apply Int32.toBitVec_inj.mp
    rw [Int32.toBitVec_and]
    apply BitVec.eq_of_toNat_eq
    show _ = (BitVec.ofNat 32 _).toNat
    rw [BitVec.toNat_ofNat, Nat.mod_eq_of_lt (BitVec.isLt _)]
    rfl
section FEED
variable {K : Nat} {S I : Nat → Nat → Int32} {L : Nat → Nat → Int64} {T : Nat → Nat → Option Nat} {Λ : Nat → p_Lw}
theorem add_go {l : Nat} (hl : l ≤ 92) (v : Int32) : ∀ (d m j : Nat) (B : Nat → Int32), j + d = 4 → (∀ y, B y = if l ≤ y ∧ y < l + j then p_byte v (y - l) else I 58 y) → fX5_addNumber_L3 (d + 1 + m) 57 v (if j = 4 then -8 else nI (24 - 8 * j)) (p_H K (p_s S 57 0 (nI (l + j))) (va_up I 58 B) L T Λ) = some (p_H K (p_s S 57 0 (nI (l + 4))) (va_up I 58 (fun y => if l ≤ y ∧ y < l + 4 then p_byte v (y - l) else I 58 y)) L T Λ)
  | 0, m, j, B, hj, hB => by
    have ej : j = 4 := by omega
    have e : B = fun y => if l ≤ y ∧ y < l + 4 then p_byte v (y - l) else I 58 y := by
      funext y
      rw [hB, ej]
    rw [show 0 + 1 + m = m + 1 by omega, ← e, ej, if_pos rfl]
    show fX5_addNumber_b3 _ _ _ _ _ = _
    unfold fX5_addNumber_b3
    rw [if_pos (by decide)]
  | d + 1, m, j, B, hj, hB => by
    have ih := add_go hl v d m (j + 1) (upd B (l + j) (p_byte v j)) (by omega) (fun y => by
      simp only [upd]
      by_cases e : y = l + j
      · rw [if_pos e, if_pos (by omega), e, show l + j - l = j by omega]
      · rw [if_neg e, hB]
        by_cases e2 : l ≤ y ∧ y < l + j
        · rw [if_pos e2, if_pos (by omega)]
        · rw [if_neg e2, if_neg (by omega)])
    have es : nI (24 - 8 * j) + (-8 : Int32) = if j + 1 = 4 then -8 else nI (24 - 8 * (j + 1)) := by
      rcases (show j = 0 ∨ j = 1 ∨ j = 2 ∨ j = 3 by omega) with rfl | rfl | rfl | rfl <;> decide
    rw [show d + 1 + 1 + m = (d + 1 + m) + 1 by omega, ← ih, if_neg (show ¬ j = 4 by omega)]
    show fX5_addNumber_b3 _ _ _ _ _ = _
    unfold fX5_addNumber_b3 fX5_addNumber_b52
    rw [if_neg (nI_pos (by omega))]
    simp only [gT_0, gT_1, gT_p0, Option.bind_some, e_on, p_s_at, p_s_up, p_lenI pk_58, p_stI pk_58 (show l + j < 96 by omega) (show 96 < 2 ^ 31 by decide), va_up_s, va_up_up, byte_eq v j (show j < 4 by omega), nI_s, es]
    rw [if_neg (nI_pos (by omega)), if_neg (nI_ge (by omega) (by omega)), show l + (j + 1) = l + j + 1 by omega]
theorem q_addNumber {l : Nat} (hl : l ≤ 92) (h0 : S 57 0 = nI l) (v : Int32) : fX5_addNumber 57 v (p_H K S I L T Λ) = some (p_H K (p_s S 57 0 (nI (l + 4))) (va_up I 58 (fun y => if l ≤ y ∧ y < l + 4 then p_byte v (y - l) else I 58 y)) L T Λ) := by
  have g := add_go (S := S) (I := I) (L := L) (T := T) (K := K) (Λ := Λ) hl v 4 195 0 (I 58) (by omega) (fun y => by rw [if_neg (by omega)])
  rw [p_up_id, show nI (l + 0) = nI l from rfl, ← h0, p_s_id] at g
  unfold fX5_addNumber
  rw [gT_o, Option.bind_some]
  exact g
def p_wd (a b c : Int32) (k : Nat) : Int32 := if k < 4 then a else if k < 8 then b else c
theorem feed9_go {l : Nat} (hl : l ≤ 84) (a b c : Int32) (h0 : S 96 13 = nI l) : ∀ (d m k : Nat) (B : Nat → Int32), k + d = 12 → (∀ y, B y = if l ≤ y ∧ y < l + k then p_byte (p_wd a b c (y - l)) ((y - l) % 4) else I 105 y) → fX9_feed_L18 (d + 1 + m) 96 a b c (nI k) (p_H K S (va_up I 105 B) L T Λ) = some (nI (l + 12), p_H K (p_s S 96 13 (nI (l + 12))) (va_up I 105 (fun y => if l ≤ y ∧ y < l + 12 then p_byte (p_wd a b c (y - l)) ((y - l) % 4) else I 105 y)) L T Λ)
  | 0, m, k, B, hk, hB => by
    have ek : k = 12 := by omega
    have e : B = fun y => if l ≤ y ∧ y < l + 12 then p_byte (p_wd a b c (y - l)) ((y - l) % 4) else I 105 y := by
      funext y
      rw [hB, ek]
    rw [show 0 + 1 + m = m + 1 by omega, ← e, ek]
    show fX9_feed_b18 _ _ _ _ _ _ _ = _
    unfold fX9_feed_b18
    rw [if_pos (by decide)]
    simp only [gM_13, gM_p13, Option.bind_some, e_on, p_s_at, h0, nI_add]
  | d + 1, m, k, B, hk, hB => by
    have ih := feed9_go hl a b c h0 d m (k + 1) (upd B (l + k) (p_byte (p_wd a b c k) (k % 4))) (by omega) (fun y => by
      simp only [upd]
      by_cases e : y = l + k
      · rw [if_pos e, if_pos (by omega), e, show l + k - l = k by omega]
      · rw [if_neg e, hB]
        by_cases e2 : l ≤ y ∧ y < l + k
        · rw [if_pos e2, if_pos (by omega)]
        · rw [if_neg e2, if_neg (by omega)])
    have es : ∀ w : Int32, (w >>> ((nI 24 - nI 8 * nI (k % 4)) &&& 31)) &&& nI 255 = p_byte w (k % 4) := fun w => by
      unfold p_byte
      rcases (show k % 4 = 0 ∨ k % 4 = 1 ∨ k % 4 = 2 ∨ k % 4 = 3 by omega) with e | e | e | e <;> rw [e] <;> rfl
    have go : ∀ w : Int32, w = p_wd a b c k → fX9_feed_b47 (fX9_feed_L18 (d + 1 + m)) 96 a b c (nI k) w (p_H K S (va_up I 105 B) L T Λ) = fX9_feed_L18 (d + 1 + m) 96 a b c (nI (k + 1)) (p_H K S (va_up I 105 (upd B (l + k) (p_byte (p_wd a b c k) (k % 4)))) L T Λ) := fun w hw => by
      unfold fX9_feed_b47
      rw [nI_mod (by omega) (by decide), es w, hw]
      simp only [gM_12, gM_13, Option.bind_some, e_on, h0, nI_add, p_stI pk_105 (show l + k < 96 by omega) (show 96 < 2 ^ 31 by decide), va_up_s, va_up_up]
    rw [show d + 1 + 1 + m = (d + 1 + m) + 1 by omega, ← ih]
    show fX9_feed_b18 _ _ _ _ _ _ _ = _
    unfold fX9_feed_b18
    rw [if_neg (nI_ge (by omega) (by omega))]
    by_cases h4 : 4 ≤ k
    · rw [if_pos (nI_le h4 (by omega))]
      by_cases h8 : 8 ≤ k
      · rw [if_pos (nI_le h8 (by omega))]
        exact go c (by unfold p_wd; rw [if_neg (by omega), if_neg (by omega)])
      · rw [if_neg (nI_ge (by omega) (by omega))]
        exact go b (by unfold p_wd; rw [if_neg (by omega), if_pos (by omega)])
    · rw [if_neg (nI_ge (by omega) (by omega))]
      exact go a (by unfold p_wd; rw [if_pos (by omega)])
end FEED
theorem c_feed (a b c : Int32) : p_both (fX8_feed 0 a b c) (fX9_feed 96 a b c) := by
  intro K S I L T Λ hinv
  obtain ⟨⟨lw, cn, tn, h1⟩, ⟨bb, h2, h3, h4⟩, ⟨l, h5, h6, h7, h8⟩, ⟨m, h9, h10, h11, h12⟩, h13, h14, h15, h16⟩ := id hinv
  by_cases hl : l ≤ 84
  · have g1 := q_addNumber (S := S) (I := I) (L := L) (T := T) (K := K) (Λ := Λ) (show l ≤ 92 by omega) h6 a
    have g2 := q_addNumber (S := p_s S 57 0 (nI (l + 4))) (I := va_up I 58 (fun y => if l ≤ y ∧ y < l + 4 then p_byte a (y - l) else I 58 y)) (L := L) (T := T) (K := K) (Λ := Λ) (show l + 4 ≤ 92 by omega) p_s_at b
    rw [p_s_up, va_up_up, va_up_s] at g2
    have g3 := q_addNumber (S := p_s S 57 0 (nI (l + 4 + 4))) (I := va_up I 58 (fun y => if l + 4 ≤ y ∧ y < l + 4 + 4 then p_byte b (y - (l + 4)) else if l ≤ y ∧ y < l + 4 then p_byte a (y - l) else I 58 y)) (L := L) (T := T) (K := K) (Λ := Λ) (show l + 4 + 4 ≤ 92 by omega) p_s_at c
    rw [p_s_up, va_up_up, va_up_s] at g3
    generalize hF : (fun y => if l + 4 + 4 ≤ y ∧ y < l + 4 + 4 + 4 then p_byte c (y - (l + 4 + 4)) else if l + 4 ≤ y ∧ y < l + 4 + 4 then p_byte b (y - (l + 4)) else if l ≤ y ∧ y < l + 4 then p_byte a (y - l) else I 58 y) = F at g3
    have r1 := feed9_go (S := p_s S 57 0 (nI (l + 4 + 4 + 4))) (I := va_up I 58 F) (L := L) (T := T) (K := K) (Λ := Λ) hl a b c (by rw [p_s_n (by decide)]; exact h7) 12 187 0 (va_up I 58 F 105) (by omega) (fun y => by rw [if_neg (by omega)])
    rw [p_up_id, va_up_n (show 105 ≠ 58 by decide)] at r1
    refine both_go (h1 := p_H K (p_s S 57 0 (nI (l + 4 + 4 + 4))) (va_up I 58 F) L T Λ) (L2 := L) (nI (l + 12)) ?_ ?_ (hinv.gen (S' := p_s (p_s S 57 0 (nI (l + 4 + 4 + 4))) 96 13 (nI (l + 12))) (I' := va_up (va_up I 58 F) 105 (fun y => if l ≤ y ∧ y < l + 12 then p_byte (p_wd a b c (y - l)) ((y - l) % 4) else I 105 y)) ⟨lw, cn, tn, h1.fr (fun x z1 z2 => by rw [p_s_n (by omega), p_s_n (by omega)]) (fun x z1 z2 => by rw [va_up_n (by omega), va_up_n (by omega)]) (by rw [va_up_n (by omega), va_up_n (by omega)])⟩ ⟨bb, ?_, ?_, fun hb => ?_⟩ ⟨l + 12, by omega, ?_, ?_, fun x hx => ?_⟩ ⟨m, h9, ?_, ?_, ?_⟩ (fun a z1 z2 => by rw [p_s_n (by omega), p_s_n (by omega)]) (fun a ha => by rw [va_up_n (by omega), va_up_n (by omega)]) h16)
    · unfold fX8_feed
      simp only [gB_o, gB_0, gB_1, gB_2, gB_3, gB_4, gB_5, gB_6, gB_7, gB_8, gB_9, gB_p8, gB_p9, p_lenF pk_60, p_lenF pk_61, p_lenI pk_62, gT_0, Option.bind_some, e_on, h6, g1, g2, g3, p_s_at]
      rw [if_pos (nI_le hl (by decide))]
    · unfold fX9_feed
      simp only [gM_o, gM_13, Option.bind_some, e_on, p_s_n (show 96 ≠ 57 by decide), h7, nI_add]
      rw [if_pos (nI_le (by omega) (by decide))]
      exact r1
    · rw [p_s_n (by decide), p_s_n (by decide)]; exact h2
    · rw [p_s_ne (by decide), p_s_n (by decide)]; exact h3
    · obtain ⟨lw, cn, tn, h⟩ := h4 hb
      exact ⟨lw, cn, tn, h.fr (fun x z1 z2 => by rw [p_s_n (by omega), p_s_n (by omega)]) (fun x z1 z2 => by rw [va_up_n (by omega), va_up_n (by omega)]) (by rw [va_up_n (by omega), va_up_n (by omega)])⟩
    · rw [p_s_n (by decide), p_s_at]
    · rw [p_s_at]
    · rw [va_up_n (by decide), va_up_s, va_up_s, ← hF]
      show (if l + 4 + 4 ≤ x ∧ x < l + 4 + 4 + 4 then p_byte c (x - (l + 4 + 4)) else if l + 4 ≤ x ∧ x < l + 4 + 4 then p_byte b (x - (l + 4)) else if l ≤ x ∧ x < l + 4 then p_byte a (x - l) else I 58 x) = _ ∧ _
      by_cases e : l ≤ x
      · rw [if_pos (show l ≤ x ∧ x < l + 12 by omega)]
        refine ⟨?_, byte_lt _ _⟩
        unfold p_wd
        by_cases e8 : l + 8 ≤ x
        · rw [if_pos (by omega), if_neg (by omega), if_neg (by omega)]
          congr 1
          omega
        · rw [if_neg (by omega)]
          by_cases e4 : l + 4 ≤ x
          · rw [if_pos (by omega), if_neg (by omega), if_pos (by omega)]
            congr 1
            omega
          · rw [if_neg (by omega), if_pos (by omega), if_pos (by omega)]
            congr 1
            omega
      · rw [if_neg (by omega), if_neg (by omega), if_neg (by omega), if_neg (by omega)]
        exact h8 x (by omega)
    · rw [p_s_n (by decide), p_s_n (by decide)]; exact h10
    · rw [p_s_ne (by decide), p_s_n (by decide)]; exact h11
    · rw [va_up_n (by decide), va_up_n (by decide), va_up_n (by decide), va_up_n (by decide)]; exact h12
  · refine both_bad (r := -1000000003) hinv ?_ ?_
    · unfold fX8_feed
      simp only [gB_o, gB_0, gB_1, gB_2, gB_3, gB_4, gB_5, gB_6, gB_7, gB_8, gB_9, gB_p8, gB_p9, p_lenF pk_60, p_lenF pk_61, p_lenI pk_62, gT_0, Option.bind_some, e_on, h6]
      rw [if_neg (nI_ge (by omega) (by omega))]
    · unfold fX9_feed
      simp only [gM_o, gM_13, Option.bind_some, e_on, h7, nI_add]
      rw [if_neg (nI_ge (by omega) (by omega))]
