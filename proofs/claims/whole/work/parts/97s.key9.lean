section KEY12
variable {bt : Nat → Int32} {n : Nat}
variable {K : Nat} {S I : Nat → Nat → Int32} {L : Nat → Nat → Int64} {T : Nat → Nat → Option Nat} {Λ : Nat → p_Lw}
theorem key12_go (ht : p_tb bt n) (h0 : S 96 13 = nI n) (hI : ∀ x, x < n → I 105 x = bt x) (hk : p_key9 I) {f : Nat} (hf : f ≤ n) (h15 : S 96 15 = nI f) (h14 : S 96 14 = nI (p_re p_ltr bt n f)) : ∀ (d m s : Nat), s + d = 3 → (∀ s', s' < s → ¬ p_wrd bt n f s') → (∃ s', s' < 3 ∧ p_wrd bt n f s' ∧ fX9_takesKey_L12 (d + 1 + m) 96 (nI s) (p_H K S I L T Λ) = (o_put (p_H K S I L T Λ) 96 9 19 (.int (nI s'))).bind fun h1 => (fX9_go 96 h1).bind fun h2 => some (true, h2)) ∨ ((∀ s', s' < 3 → ¬ p_wrd bt n f s') ∧ fX9_takesKey_L12 (d + 1 + m) 96 (nI s) (p_H K S I L T Λ) = some (false, p_H K S I L T Λ))
  | 0, m, s, hs, hp => by
    refine Or.inr ⟨fun s' h => hp s' (by omega), ?_⟩
    rw [show 0 + 1 + m = m + 1 by omega]
    show fX9_takesKey_b12 _ _ _ _ = _
    unfold fX9_takesKey_b12
    rw [if_pos (nI_le (by omega) (by omega))]
  | d + 1, m, s, hs, hp => by
    have hn := ht.1
    have hs3 : s < 3 := by omega
    have hl := key_len s hs3
    obtain ⟨b, b1, b2, b3, b4⟩ := key_tab hk hs3
    obtain ⟨r1, r2, r3, r4⟩ := p_re_ok p_ltr (bt := bt) hf
    have e1 : fX9_takesKey_L12 (d + 1 + 1 + m) 96 (nI s) (p_H K S I L T Λ) = if nI (o_sn s) = nI (p_re p_ltr bt n f - f) then fX9_takesKey_b51 (fX9_takesKey_L12 (d + 1 + m)) 96 (nI s) (nI (o_sn s)) (nI 1) (p_H K S I L T Λ) else fX9_takesKey_b51 (fX9_takesKey_L12 (d + 1 + m)) 96 (nI s) (nI (o_sn s)) (nI 0) (p_H K S I L T Λ) := by
      rw [show d + 1 + 1 + m = (d + 1 + m) + 1 by omega]
      show fX9_takesKey_b12 _ _ _ _ = _
      unfold fX9_takesKey_b12
      rw [if_neg (nI_ge (by omega) (by omega))]
      simp only [gM_14, gM_15, gM_21, Option.bind_some, e_on, h15, h14, nI_s]
      rw [p_ldI pk_107 (show s + 1 < 4 by omega) (by decide), Option.bind_some, p_ldI pk_107 (show s < 4 by omega) (by decide), Option.bind_some, b1, b2, pk_sub (by omega), pk_sub r1, show b + o_sn s - b = o_sn s by omega]
    have nxt : ¬ p_wrd bt n f s → fX9_takesKey_L12 (d + 1 + 1 + m) 96 (nI s) (p_H K S I L T Λ) = fX9_takesKey_L12 (d + 1 + m) 96 (nI (s + 1)) (p_H K S I L T Λ) := fun hno => by
      by_cases hc : p_re p_ltr bt n f = f + o_sn s
      · rw [if_pos (by rw [hc]; congr 1; omega)] at e1
        obtain ⟨c, g1, g2⟩ := key55_go (K := K) (L := L) (T := T) (Λ := Λ) ht h0 hI hk hs3 (by omega) h15 (k12 := fX9_takesKey_L12 (d + 1 + m)) (o_sn s) (199 - o_sn s) 0 (by omega) (fun i hi => absurd hi (by omega))
        rw [show o_sn s + 1 + (199 - o_sn s) = 200 by omega] at g1
        refine e1.trans (g1.trans ?_)
        cases c with
        | true => exact absurd (re_wd hf hc (g2.mp rfl)) hno
        | false =>
          unfold fX9_takesKey_b106
          rw [if_pos eb_f, nI_s]
      · rw [if_neg (fun z => hc (by have := (nI_eq (by omega) (by omega)).mp z; omega))] at e1
        refine e1.trans ?_
        show fX9_takesKey_b55 _ _ _ _ _ _ _ _ = _
        unfold fX9_takesKey_b55 fX9_takesKey_b106
        rw [if_neg (nI_ge (by omega) (by omega)), if_pos nI_0, if_pos nI_0, nI_s]
    by_cases hw : p_wrd bt n f s
    · refine Or.inl ⟨s, hs3, hw, ?_⟩
      obtain ⟨w1, w2⟩ := wd_re hs3 hf hw
      rw [if_pos (by rw [w2]; congr 1; omega)] at e1
      obtain ⟨c, g1, g2⟩ := key55_go (K := K) (L := L) (T := T) (Λ := Λ) ht h0 hI hk hs3 w1 h15 (k12 := fX9_takesKey_L12 (d + 1 + m)) (o_sn s) (199 - o_sn s) 0 (by omega) (fun i hi => absurd hi (by omega))
      rw [show o_sn s + 1 + (199 - o_sn s) = 200 by omega] at g1
      refine e1.trans (g1.trans ?_)
      rw [g2.mpr hw.1]
      unfold fX9_takesKey_b106
      rw [if_neg eb_t]
    · rcases key12_go ht h0 hI hk hf h15 h14 d m (s + 1) (by omega) (fun s' h z => by
        by_cases y : s' = s
        · rw [y] at z; exact hw z
        · exact hp s' (by omega) z) with ⟨s', y1, y2, y3⟩ | ⟨y1, y2⟩
      · exact Or.inl ⟨s', y1, y2, (nxt hw).trans y3⟩
      · exact Or.inr ⟨y1, (nxt hw).trans y2⟩
theorem q9_takesKey (ht : p_tb bt n) (h0 : S 96 13 = nI n) (hI : ∀ x, x < n → I 105 x = bt x) (hk : p_key9 I) {q : Nat} (hq : q ≤ n) {e : Int32} (hT : p_t9 bt n S q e) (he : nI (p_skp bt n q) ≠ e) : (∃ s S2, s < 3 ∧ p_wrd bt n (p_skp bt n q) s ∧ fX9_takesKey 96 (p_H K S I L T Λ) = some (true, p_H K S2 I L T Λ) ∧ p_t9 bt n S2 (p_skp bt n q + o_sn s) (nI (p_skp bt n q + o_sn s)) ∧ S2 96 19 = nI s ∧ p_fk [14, 15, 16, 17, 18, 19] S S2) ∨ ((∀ s, s < 3 → ¬ p_wrd bt n (p_skp bt n q) s) ∧ fX9_takesKey 96 (p_H K S I L T Λ) = some (false, p_H K S I L T Λ)) := by
  have hn := ht.1
  have hle := p_skp_le (bt := bt) hq
  obtain ⟨t1, t2, t3, t4, t5⟩ := hT
  obtain ⟨f, hf⟩ : ∃ f, f = p_skp bt n q := ⟨_, rfl⟩
  rw [← hf] at t1 t2 t3 t4 t5 he hle ⊢
  have h7 : p_tkn bt n f e < 2 ^ 31 := by
    unfold p_tkn
    repeat' split
    all_goals decide
  by_cases hk1 : p_tkn bt n f e = 1
  · obtain ⟨k1, k2, k3⟩ := tkn_12 (Or.inl hk1)
    have hl := k3 hk1
    have et : p_tnx bt n f = p_re p_ltr bt n f := by
      unfold p_tnx
      rw [if_neg (show ¬ n ≤ f by omega), hl, if_pos rfl]
    rw [et] at t2 k2
    have e1 : fX9_takesKey 96 (p_H K S I L T Λ) = fX9_takesKey_L12 200 96 (nI 0) (p_H K S I L T Λ) := by
      unfold fX9_takesKey
      rw [gM_o, Option.bind_some, gM_16, Option.bind_some, t3, hk1, if_pos rfl]
    rcases key12_go (K := K) (L := L) (T := T) (Λ := Λ) ht h0 hI hk hle.2 t1 t2 3 196 0 (by omega) (fun s' h => absurd h (by omega)) with ⟨s, y1, y2, y3⟩ | ⟨y1, y2⟩
    · obtain ⟨w1, w2⟩ := wd_re y1 hle.2 y2
      obtain ⟨S2, m1, m2, m3⟩ := q9_go (K := K) (L := L) (T := T) (Λ := Λ) (I := I) (S := p_s S 96 19 (nI s)) (q := f + o_sn s) (e := nI (f + o_sn s)) ht (by rw [p_s_ne (by decide)]; exact h0) hI w1 (by rw [p_s_ne (by decide), t2, w2]) (by rw [p_s_ne (by decide), t5, k2, w2])
      refine Or.inl ⟨s, S2, y1, y2, ?_, m2, by rw [m3.2 19 (by decide), p_s_at], ((p_fk.rf _ S).put (by decide) _).tr (m3.mono (by decide))⟩
      rw [e1]
      refine y3.trans ?_
      rw [gM_p19, Option.bind_some, m1, Option.bind_some]
    · exact Or.inr ⟨y1, e1.trans y2⟩
  · refine Or.inr ⟨fun s hs hw => hk1 ?_, ?_⟩
    · have h1 := hw.1 0 (by have := key_len s hs; omega)
      have h2 := key_ltr s hs 0 (by have := key_len s hs; omega)
      rw [← h1] at h2
      have hlt : f < n := by
        by_cases z : f < n
        · exact z
        · unfold p_by at h2
          rw [show f + 0 = f from rfl, if_neg z] at h2
          exact absurd h2 (by decide)
      unfold p_tkn
      rw [if_neg (show ¬ n ≤ f by omega), show p_ltr (p_by bt n f) = true from h2, if_pos rfl, if_neg he]
    · unfold fX9_takesKey
      rw [gM_o, Option.bind_some, gM_16, Option.bind_some, t3, if_neg (fun z => hk1 ((nI_eq h7 (by decide)).mp z))]
end KEY12
