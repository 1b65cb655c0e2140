theorem key_ltr : ∀ s, s < 3 → ∀ j, j < o_sn s → p_ltr (o_sb s j) = true := by decide +kernel
theorem key_len : ∀ s, s < 3 → 4 ≤ o_sn s ∧ o_sn s ≤ 5 := by decide +kernel
def p_wrd (bt : Nat → Int32) (n f s : Nat) : Prop := (∀ j, j < o_sn s → p_by bt n (f + j) = o_sb s j) ∧ p_ltr (p_by bt n (f + o_sn s)) = false
section KEY
variable {bt : Nat → Int32} {n : Nat}
theorem wd_re {f s : Nat} (hs : s < 3) (hf : f ≤ n) (h : p_wrd bt n f s) : f + o_sn s ≤ n ∧ p_re p_ltr bt n f = f + o_sn s := by
  obtain ⟨h1, h2⟩ := h
  have hl := key_len s hs
  have inb : f + o_sn s ≤ n := by
    have h3 := h1 (o_sn s - 1) (by omega)
    unfold p_by at h3
    by_cases z : f + (o_sn s - 1) < n
    · omega
    · rw [if_neg z] at h3
      have h4 := key_ltr s hs (o_sn s - 1) (by omega)
      rw [← h3] at h4
      exact absurd h4 (by decide)
  refine ⟨inb, ?_⟩
  obtain ⟨r1, r2, r3, r4⟩ := p_re_ok p_ltr (bt := bt) hf
  have r4' := r4 (by decide)
  by_cases a1 : p_re p_ltr bt n f < f + o_sn s
  · have h3 := h1 (p_re p_ltr bt n f - f) (by omega)
    rw [show f + (p_re p_ltr bt n f - f) = p_re p_ltr bt n f by omega] at h3
    rw [h3, key_ltr s hs _ (by omega)] at r4'
    exact absurd r4' (by decide)
  · by_cases a2 : f + o_sn s < p_re p_ltr bt n f
    · rw [r3 (f + o_sn s) (by omega) a2] at h2
      exact absurd h2 (by decide)
    · omega
theorem re_wd {f s : Nat} (hf : f ≤ n) (h : p_re p_ltr bt n f = f + o_sn s) (h1 : ∀ j, j < o_sn s → p_by bt n (f + j) = o_sb s j) : p_wrd bt n f s := by
  refine ⟨h1, ?_⟩
  rw [← h]
  exact (p_re_ok p_ltr (bt := bt) hf).2.2.2 (by decide)
theorem wd_one {f s s' : Nat} (hs : s < 3) (hs' : s' < 3) (h : p_wrd bt n f s) (h' : p_wrd bt n f s') : s = s' := by
  have e1 := h.1 0 (by have := key_len s hs; omega)
  have e2 := h'.1 0 (by have := key_len s' hs'; omega)
  rw [e1] at e2
  rcases (show s = 0 ∨ s = 1 ∨ s = 2 by omega) with rfl | rfl | rfl <;> rcases (show s' = 0 ∨ s' = 1 ∨ s' = 2 by omega) with rfl | rfl | rfl <;> first | rfl | exact absurd e2 (by decide)
section KEY8
variable {K : Nat} {S I : Nat → Nat → Int32} {L : Nat → Nat → Int64} {T : Nat → Nat → Option Nat} {Λ : Nat → p_Lw}
theorem word_go (ht : p_tb bt n) (h0 : S 57 0 = nI n) (hI : ∀ x, x < n → I 58 x = bt x) {f s : Nat} (hs : s < 3) (hf : f ≤ n) (h4 : S 57 4 = nI f) : ∀ (d m j : Nat), j + d = o_sn s → (∀ i, i < j → p_by bt n (f + i) = o_sb s i) → ∃ b : Bool, fX5_isWord_L2 (p_H K S I L T Λ) (d + 1 + m) 57 s (nI j) = some b ∧ (b = true ↔ p_wrd bt n f s)
  | 0, m, j, hj, hp => by
    have hn := ht.1
    have hl := key_len s hs
    have e1 : fX5_isWord_L2 (p_H K S I L T Λ) (0 + 1 + m) 57 s (nI j) = some (!(p_ltr (p_by bt n (f + o_sn s)))) := by
      rw [show 0 + 1 + m = m + 1 by omega]
      show fX5_isWord_b2 _ _ _ _ _ = _
      unfold fX5_isWord_b2
      rw [ix_ln s (by omega), Option.bind_some, if_pos (nI_le (by omega) (by omega)), gT_4, Option.bind_some, Option.bind_some, h4, nI_add, q_byteAt ht h0 hI (by omega), Option.bind_some, q_isLetter, Option.bind_some]
      cases p_ltr (p_by bt n (f + o_sn s))
      · rw [if_pos eb_f]; rfl
      · rw [if_neg eb_t]; rfl
    refine ⟨_, e1, ?_⟩
    cases hl2 : p_ltr (p_by bt n (f + o_sn s))
    · exact ⟨fun _ => ⟨fun i hi => hp i (by omega), hl2⟩, fun _ => rfl⟩
    · exact ⟨fun z => absurd z (by decide), fun z => by rw [z.2] at hl2; exact absurd hl2 (by decide)⟩
  | d + 1, m, j, hj, hp => by
    have hn := ht.1
    have hl := key_len s hs
    have e1 : fX5_isWord_L2 (p_H K S I L T Λ) (d + 1 + 1 + m) 57 s (nI j) = if p_by bt n (f + j) = o_sb s j then fX5_isWord_L2 (p_H K S I L T Λ) (d + 1 + m) 57 s (nI (j + 1)) else some false := by
      rw [show d + 1 + 1 + m = (d + 1 + m) + 1 by omega]
      show fX5_isWord_b2 _ _ _ _ _ = _
      unfold fX5_isWord_b2
      rw [ix_ln s (by omega), Option.bind_some, if_neg (nI_ge (by omega) (by omega)), gT_4, Option.bind_some, h4, nI_add, q_byteAt ht h0 hI (by omega), Option.bind_some, ix_ch s hs j (by omega), Option.bind_some, nI_s]
    by_cases hc : p_by bt n (f + j) = o_sb s j
    · rw [if_pos hc] at e1
      obtain ⟨b, g1, g2⟩ := word_go ht h0 hI hs hf h4 d m (j + 1) (by omega) (fun i hi => by
        by_cases z : i = j
        · rw [z]; exact hc
        · exact hp i (by omega))
      exact ⟨b, e1.trans g1, g2⟩
    · rw [if_neg hc] at e1
      exact ⟨false, e1, fun z => absurd z (by decide), fun z => absurd (z.1 j (by omega)) hc⟩
theorem q_isWord (ht : p_tb bt n) (h0 : S 57 0 = nI n) (hI : ∀ x, x < n → I 58 x = bt x) {f s : Nat} (hs : s < 3) (hf : f ≤ n) (h4 : S 57 4 = nI f) : ∃ b : Bool, fX5_isWord 57 s (p_H K S I L T Λ) = some b ∧ (b = true ↔ p_wrd bt n f s) := by
  have hl := key_len s hs
  obtain ⟨b, g1, g2⟩ := word_go (K := K) (L := L) (T := T) (Λ := Λ) ht h0 hI hs hf h4 (o_sn s) (199 - o_sn s) 0 (by omega) (fun i hi => absurd hi (by omega))
  rw [show o_sn s + 1 + (199 - o_sn s) = 200 by omega] at g1
  refine ⟨b, ?_, g2⟩
  unfold fX5_isWord
  rw [gT_o, Option.bind_some]
  exact g1
theorem key8_go (ht : p_tb bt n) (h0 : S 57 0 = nI n) (hI : ∀ x, x < n → I 58 x = bt x) {f : Nat} (hf : f ≤ n) (h4 : S 57 4 = nI f) : ∀ (d m s : Nat), s + d = 3 → (∀ s', s' < s → ¬ p_wrd bt n f s') → (∃ s', s' < 3 ∧ p_wrd bt n f s' ∧ fX5_readKey_L6 (d + 1 + m) 57 (nI s) (p_H K S I L T Λ) = some (nI s', p_H K (p_s S 57 4 (nI (f + o_sn s'))) I L T Λ)) ∨ ((∀ s', s' < 3 → ¬ p_wrd bt n f s') ∧ fX5_readKey_L6 (d + 1 + m) 57 (nI s) (p_H K S I L T Λ) = some (-1, p_H K S I L T Λ))
  | 0, m, s, hs, hp => by
    refine Or.inr ⟨fun s' h => hp s' (by omega), ?_⟩
    rw [show 0 + 1 + m = m + 1 by omega]
    show fX5_readKey_b6 _ _ _ _ = _
    unfold fX5_readKey_b6
    rw [if_pos (nI_lt (by omega) (by omega))]
  | d + 1, m, s, hs, hp => by
    have hs3 : s < 3 := by omega
    obtain ⟨b, g1, g2⟩ := q_isWord (K := K) (L := L) (T := T) (Λ := Λ) ht h0 hI hs3 hf h4
    have e1 : fX5_readKey_L6 (d + 1 + 1 + m) 57 (nI s) (p_H K S I L T Λ) = fX5_readKey_b32 (fX5_readKey_L6 (d + 1 + m)) 57 (nI s) s (p_H K S I L T Λ) := by
      rw [show d + 1 + 1 + m = (d + 1 + m) + 1 by omega]
      show fX5_readKey_b6 _ _ _ _ = _
      unfold fX5_readKey_b6
      rw [if_neg (nI_nlt (by omega) (by omega))]
      rcases (show s = 0 ∨ s = 1 ∨ s = 2 by omega) with rfl | rfl | rfl
      · rw [if_pos nI_0]
      · rw [if_neg (by decide), if_pos rfl]
      · rw [if_neg (by decide), if_neg (by decide)]
    cases b with
    | false =>
      have e2 : fX5_readKey_L6 (d + 1 + 1 + m) 57 (nI s) (p_H K S I L T Λ) = fX5_readKey_L6 (d + 1 + m) 57 (nI (s + 1)) (p_H K S I L T Λ) := by
        rw [e1]
        unfold fX5_readKey_b32
        rw [g1, Option.bind_some, if_pos eb_f, nI_s]
      rw [e2]
      exact key8_go ht h0 hI hf h4 d m (s + 1) (by omega) (fun s' h z => by
        by_cases y : s' = s
        · rw [y] at z
          exact absurd (g2.mpr z) (by decide)
        · exact hp s' (by omega) z)
    | true =>
      refine Or.inl ⟨s, hs3, g2.mp rfl, ?_⟩
      rw [e1]
      unfold fX5_readKey_b32
      rw [g1, Option.bind_some, if_neg eb_t, gT_4, Option.bind_some, h4, ix_ln s (by omega), Option.bind_some, nI_add, gT_p4, Option.bind_some]
theorem q_readKey (ht : p_tb bt n) (h0 : S 57 0 = nI n) (hI : ∀ x, x < n → I 58 x = bt x) {i : Nat} (hi : i ≤ n) (h4 : S 57 4 = nI i) : (∃ s, s < 3 ∧ p_wrd bt n (p_skp bt n i) s ∧ fX5_readKey 57 (p_H K S I L T Λ) = some (nI s, p_H K (p_s S 57 4 (nI (p_skp bt n i + o_sn s))) I L T Λ)) ∨ ((∀ s, s < 3 → ¬ p_wrd bt n (p_skp bt n i) s) ∧ fX5_readKey 57 (p_H K S I L T Λ) = some (-1, p_H K (p_s S 57 4 (nI (p_skp bt n i))) I L T Λ)) := by
  have g0 := q_skip (S := S) (I := I) (L := L) (T := T) (K := K) (Λ := Λ) ht h0 hI hi h4
  have g1 := key8_go (S := p_s S 57 4 (nI (p_skp bt n i))) (I := I) (L := L) (T := T) (K := K) (Λ := Λ) ht (by rw [p_s_ne (by decide)]; exact h0) hI (p_skp_le hi).2 p_s_at 3 196 0 (by omega) (fun s' h => absurd h (by omega))
  have e1 : fX5_readKey 57 (p_H K S I L T Λ) = fX5_readKey_L6 200 57 (nI 0) (p_H K (p_s S 57 4 (nI (p_skp bt n i))) I L T Λ) := by
    unfold fX5_readKey
    rw [gT_o, Option.bind_some, g0, Option.bind_some]
  rw [e1]
  rcases g1 with ⟨s, h1, h2, h3⟩ | ⟨h1, h2⟩
  · rw [p_s_up] at h3
    exact Or.inl ⟨s, h1, h2, h3⟩
  · exact Or.inr ⟨h1, h2⟩
end KEY8
section KEY9
variable {K : Nat} {S I : Nat → Nat → Int32} {L : Nat → Nat → Int64} {T : Nat → Nat → Option Nat} {Λ : Nat → p_Lw}
theorem key_tab {I : Nat → Nat → Int32} (h : p_key9 I) {s : Nat} (hs : s < 3) : ∃ b, I 107 s = nI b ∧ I 107 (s + 1) = nI (b + o_sn s) ∧ b + o_sn s ≤ 13 ∧ ∀ j, j < o_sn s → I 106 (b + j) = o_sb s j := by
  obtain ⟨⟨t0, t1, t2, t3, t4, t5, t6, t7, t8, t9, t10, t11, t12⟩, k0, k1, k2, k3⟩ := h
  rcases (show s = 0 ∨ s = 1 ∨ s = 2 by omega) with rfl | rfl | rfl
  · refine ⟨0, k0, k1, by decide, fun j hj => ?_⟩
    have hj4 : j < 4 := hj
    rcases (show j = 0 ∨ j = 1 ∨ j = 2 ∨ j = 3 by omega) with rfl | rfl | rfl | rfl
    · exact t0
    · exact t1
    · exact t2
    · exact t3
  · refine ⟨4, k1, k2, by decide, fun j hj => ?_⟩
    have hj4 : j < 5 := hj
    rcases (show j = 0 ∨ j = 1 ∨ j = 2 ∨ j = 3 ∨ j = 4 by omega) with rfl | rfl | rfl | rfl | rfl
    · exact t4
    · exact t5
    · exact t6
    · exact t7
    · exact t8
  · refine ⟨9, k2, k3, by decide, fun j hj => ?_⟩
    have hj4 : j < 4 := hj
    rcases (show j = 0 ∨ j = 1 ∨ j = 2 ∨ j = 3 by omega) with rfl | rfl | rfl | rfl
    · exact t9
    · exact t10
    · exact t11
    · exact t12
theorem key55_go (ht : p_tb bt n) (h0 : S 96 13 = nI n) (hI : ∀ x, x < n → I 105 x = bt x) (hk : p_key9 I) {f s : Nat} (hs : s < 3) (hf : f + o_sn s ≤ n) (h15 : S 96 15 = nI f) {k12 : Nat → Int32 → e_H → Option (Bool × e_H)} : ∀ (d m j : Nat), j + d = o_sn s → (∀ i, i < j → p_by bt n (f + i) = o_sb s i) → ∃ b : Bool, fX9_takesKey_L55 k12 (d + 1 + m) 96 (nI s) (nI (o_sn s)) (nI 1) (nI j) (p_H K S I L T Λ) = fX9_takesKey_b106 k12 96 (nI s) (e_b b) (p_H K S I L T Λ) ∧ (b = true ↔ ∀ i, i < o_sn s → p_by bt n (f + i) = o_sb s i)
  | 0, m, j, hj, hp => by
    have hn := ht.1
    refine ⟨true, ?_, fun _ i hi => hp i (by omega), fun _ => rfl⟩
    rw [show 0 + 1 + m = m + 1 by omega]
    show fX9_takesKey_b55 _ _ _ _ _ _ _ _ = _
    unfold fX9_takesKey_b55
    rw [if_pos (nI_le (by omega) (by omega))]
    rfl
  | d + 1, m, j, hj, hp => by
    have hn := ht.1
    obtain ⟨b, b1, b2, b3, b4⟩ := key_tab hk hs
    have eb : I 105 (f + j) = p_by bt n (f + j) := by
      unfold p_by
      rw [if_pos (by omega)]
      exact hI _ (by omega)
    have e1 : fX9_takesKey_L55 k12 (d + 1 + 1 + m) 96 (nI s) (nI (o_sn s)) (nI 1) (nI j) (p_H K S I L T Λ) = if p_by bt n (f + j) = o_sb s j then fX9_takesKey_L55 k12 (d + 1 + m) 96 (nI s) (nI (o_sn s)) (nI 1) (nI (j + 1)) (p_H K S I L T Λ) else fX9_takesKey_L55 k12 (d + 1 + m) 96 (nI s) (nI (o_sn s)) (nI 0) (nI (j + 1)) (p_H K S I L T Λ) := by
      rw [show d + 1 + 1 + m = (d + 1 + m) + 1 by omega]
      show fX9_takesKey_b55 _ _ _ _ _ _ _ _ = _
      unfold fX9_takesKey_b55 fX9_takesKey_b99
      rw [if_neg (nI_ge (by omega) (by omega)), if_neg (show ¬ nI 1 = 0 by decide)]
      simp only [gM_12, gM_15, gM_20, gM_21, Option.bind_some, e_on, h15, nI_add, nI_s]
      rw [p_ldI pk_105 (show f + j < 96 by omega) (by decide), Option.bind_some, p_ldI pk_107 (show s < 4 by omega) (by decide), Option.bind_some, b1, nI_add, p_ldI pk_106 (show b + j < 13 by omega) (by decide), Option.bind_some, eb, b4 j (by omega)]
    by_cases hc : p_by bt n (f + j) = o_sb s j
    · rw [if_pos hc] at e1
      obtain ⟨b, g1, g2⟩ := key55_go ht h0 hI hk hs hf h15 (k12 := k12) d m (j + 1) (by omega) (fun i hi => by
        by_cases z : i = j
        · rw [z]; exact hc
        · exact hp i (by omega))
      exact ⟨b, e1.trans g1, g2⟩
    · rw [if_neg hc] at e1
      refine ⟨false, e1.trans ?_, fun z => absurd z (by decide), fun z => absurd (z j (by omega)) hc⟩
      rw [show d + 1 + m = (d + m) + 1 by omega]
      show fX9_takesKey_b55 _ _ _ _ _ _ _ _ = _
      unfold fX9_takesKey_b55
      by_cases z : nI (o_sn s) ≤ nI (j + 1)
      · rw [if_pos z]
        rfl
      · rw [if_neg z, if_pos nI_0]
        rfl
end KEY9
end KEY
