theorem p_wr.fr2 {w a : Nat} {S S' I I' : Nat → Nat → Int32} {T T' : Nat → Nat → Option Nat} {K : Nat} {Λ : Nat → p_Lw} {lw : Nat → Nat} {cn tn : Nat} (h : p_wr w a S I T K Λ lw cn tn) (hS : ∀ x, w ≤ x → x < w + 16 → S' x = S x) (hI : ∀ x, w + 4 ≤ x → x < w + 16 → I' x = I x) (hA : I' a = I a) (hT : T' (w + 2) = T (w + 2)) : p_wr w a S' I' T' K Λ lw cn tn := by
  obtain ⟨h1, h2, h3, h4, h5, h6, h7, h8⟩ := h.fr hS hI hA
  refine ⟨h1, h2, h3, h4, h5, ⟨h6.1, fun t ht => ?_⟩, h7, h8⟩
  rw [hT]
  exact h6.2 t ht
theorem p_rt.eq {A A' : Nat → Int32} {Λ : Nat → p_Lw} {lw : Nat → Nat} {n : Nat} (h : p_rt A Λ lw n) (hf : p_lwf Λ lw n) (hn : n ≤ 14) (hA : ∀ k, k < 1471 → A' k = A k) : p_rt A' Λ lw n := fun t ht => by
  obtain ⟨k, h1, h2, h3, h4, h5⟩ := h t ht
  have h6 := (hf t ht).1
  refine ⟨k, h1, h2, ?_, ?_, fun i hi => ?_⟩
  · rw [hA _ (by omega)]; exact h3
  · rw [hA _ (by omega)]; exact h4
  · rw [hA _ (by omega)]; exact h5 i hi
theorem p_wr.cpy {w a u b : Nat} {S S' I I' : Nat → Nat → Int32} {T T' : Nat → Nat → Option Nat} {K : Nat} {Λ : Nat → p_Lw} {lw : Nat → Nat} {cn tn : Nat} (h : p_wr u b S I T K Λ lw cn tn) (h0 : S' w 0 = S u 0) (h1 : S' w 1 = S u 1) (h2 : S' w 2 = S u 2) (hc : ∀ q, q < 6 → S' (w + 4 + 2 * q) 0 = S (u + 4 + 2 * q) 0 ∧ ∀ x, x < 15 → I' (w + 4 + 2 * q + 1) x = I (u + 4 + 2 * q + 1) x) (hT : ∀ t, t < 14 → T' (w + 2) t = T (u + 2) t) (hA : ∀ x, x < 1471 → I' a x = I b x) : p_wr w a S' I' T' K Λ lw cn tn := by
  obtain ⟨⟨g1, g2, g3, g4⟩, g5, g6, g7, g8, g9, g10, g11⟩ := h
  refine ⟨⟨g1, by rw [h0]; exact g2, by rw [hA 1 (by decide)]; exact g3, by rw [h2, hA 0 (by decide)]; exact g4⟩, fun c hcc => ?_, g6, by rw [h1]; exact g7, by rw [hA 2 (by decide)]; exact g8, ⟨g9.1, fun t ht => ?_⟩, g10, g11.eq g10 g6 hA⟩
  · obtain ⟨k1, k2, k3⟩ := g5 c hcc
    rw [(hc c hcc).1, hA _ (by omega)]
    refine ⟨k1, k2, fun x hx => ?_⟩
    rw [(hc c hcc).2 x hx, hA _ (by omega)]
    exact k3 x hx
  · rw [hT t (by omega)]
    exact g9.2 t ht
def p_bc (S I S1 I1 : Nat → Nat → Int32) (w u c : Nat) : Prop := (∀ q, q < c → S1 (w + 4 + 2 * q) 0 = S (u + 4 + 2 * q) 0 ∧ ∀ x, x < 15 → I1 (w + 4 + 2 * q + 1) x = I (u + 4 + 2 * q + 1) x) ∧ (∀ a, (∀ q, q < c → a ≠ w + 4 + 2 * q) → S1 a = S a) ∧ ∀ a, (∀ q, q < c → a ≠ w + 4 + 2 * q + 1) → I1 a = I a
theorem pwu {w u : Nat} (hw : p_isW w) (hu : p_isW u) (h : w ≠ u) : (w = 1 ∧ u = 17) ∨ (w = 17 ∧ u = 1) := by
  rcases hw with rfl | rfl <;> rcases hu with rfl | rfl
  · exact absurd rfl h
  · exact Or.inl ⟨rfl, rfl⟩
  · exact Or.inr ⟨rfl, rfl⟩
  · exact absurd rfl h
section IMAGE
variable {K : Nat} {L : Nat → Nat → Int64} {Λ : Nat → p_Lw}
theorem bc_go {w u : Nat} {T : Nat → Nat → Option Nat} {S I : Nat → Nat → Int32} (hw : p_isW w) (hu : p_isW u) (hwu : w ≠ u) : ∀ (d f c : Nat) (S1 I1 : Nat → Nat → Int32), c + d = 6 → p_bc S I S1 I1 w u c → ∃ S2 I2, p_bc S I S2 I2 w u 6 ∧ fX7_Lecomes_L2 (d + 1 + f) w u (nI c) (p_H K S1 I1 L T Λ) = fX7_becomes_b41 w u (p_H K S2 I2 L T Λ)
  | 0, f, c, S1, I1, hc, h => by
    have e : c = 6 := by omega
    subst e
    refine ⟨S1, I1, h, ?_⟩
    rw [show 0 + 1 + f = f + 1 by omega]
    show fX7_becomes_b2 _ _ _ _ _ = _
    unfold fX7_becomes_b2
    simp only [gW_3 hw, Option.bind_some, e_on, p_lenF (pk_wc hw)]
    rw [if_pos (by decide)]
  | d + 1, f, c, S1, I1, hc, h => by
    have hc6 : c < 6 := by omega
    have hwu2 := pwu hw hu hwu
    obtain ⟨h1, h2, h3⟩ := h
    have eS : S1 (u + 4 + 2 * c) = S (u + 4 + 2 * c) := h2 _ (fun q hq => by omega)
    have eI : I1 (u + 4 + 2 * c + 1) = I (u + 4 + 2 * c + 1) := h3 _ (fun q hq => by omega)
    obtain ⟨S2, I2, k1, k2⟩ := bc_go (T := T) (S := S) (I := I) hw hu hwu d f (c + 1) (p_s S1 (w + 4 + 2 * c) 0 (S1 (u + 4 + 2 * c) 0)) (va_up I1 (w + 4 + 2 * c + 1) (va_cpy (I1 (u + 4 + 2 * c + 1)) (I1 (w + 4 + 2 * c + 1)) 0 0 15)) (by omega) (by
      refine ⟨fun q hq => ?_, fun a ha => ?_, fun a ha => ?_⟩
      · by_cases e : q = c
        · subst e
          rw [p_s_at, va_up_s, eS, eI]
          refine ⟨rfl, fun x hx => ?_⟩
          unfold va_cpy
          rw [if_pos (by omega), show 0 + (x - 0) = x by omega]
        · rw [p_s_n (by omega), va_up_n (by omega)]
          exact h1 q (by omega)
      · rw [p_s_n (ha c (by omega))]
        exact h2 a (fun q hq => ha q (by omega))
      · rw [va_up_n (ha c (by omega))]
        exact h3 a (fun q hq => ha q (by omega)))
    refine ⟨S2, I2, k1, ?_⟩
    rw [show d + 1 + 1 + f = (d + 1 + f) + 1 by omega, ← k2]
    have e1 : (if c < 6 then some (w + 4 + 2 * c) else none) = some (w + 4 + 2 * c) := if_pos hc6
    have e2 : (if c < 6 then some (u + 4 + 2 * c) else none) = some (u + 4 + 2 * c) := if_pos hc6
    show fX7_becomes_b2 _ _ _ _ _ = _
    unfold fX7_becomes_b2
    simp only [gW_3 hw, gW_3 hu, Option.bind_some, p_lenF (pk_wc hw), p_lenF (pk_wc hu), p_ldF (pk_wc hw) hc6 (show 6 < 2 ^ 31 by decide), p_ldF (pk_wc hu) hc6 (show 6 < 2 ^ 31 by decide), e1, e2, e_on]
    rw [if_neg (nI_ge (by omega) (by omega)), if_neg (nI_ge (by omega) (by omega)), q_becomes (pk_cw hw hc6) (pk_cw hu hc6), Option.bind_some, nI_s]
theorem bl_go {w u : Nat} {T : Nat → Nat → Option Nat} {S I : Nat → Nat → Int32} (hw : p_isW w) (hu : p_isW u) (hwu : w ≠ u) (ht : ∀ t, t < 14 → T (u + 2) t = none ∨ ∃ q, q < K ∧ T (u + 2) t = some (122 + 2 * q)) : ∀ (d f t : Nat) (R : Nat → Option Nat), t + d = 14 → (∀ q, q < t → R q = T (u + 2) q) → ∃ R2, (∀ q, q < 14 → R2 q = T (u + 2) q) ∧ fX7_Lecomes_L43 (d + 1 + f) w u (nI t) (p_H K S I L (va_up T (w + 2) R) Λ) = fX7_becomes_b79 w u (p_H K S I L (va_up T (w + 2) R2) Λ)
  | 0, f, t, R, hd, hR => by
    have e : t = 14 := by omega
    subst e
    refine ⟨R, hR, ?_⟩
    rw [show 0 + 1 + f = f + 1 by omega]
    show fX7_becomes_b43 _ _ _ _ _ = _
    unfold fX7_becomes_b43
    simp only [gW_4 hw, Option.bind_some, e_on, p_lenR (pk_wl hw)]
    rw [if_pos (by decide)]
  | d + 1, f, t, R, hd, hR => by
    have ht14 : t < 14 := by omega
    have hwu2 := pwu hw hu hwu
    obtain ⟨R2, k1, k2⟩ := bl_go (S := S) (I := I) hw hu hwu ht d f (t + 1) (va_up R t (T (u + 2) t)) (by omega) (fun q hq => by
      by_cases e : q = t
      · rw [e, va_up_s]
      · rw [va_up_n e]
        exact hR q (by omega))
    refine ⟨R2, k1, ?_⟩
    have eT : va_up T (w + 2) R (u + 2) = T (u + 2) := va_up_n (by omega)
    rw [show d + 1 + 1 + f = (d + 1 + f) + 1 by omega, ← k2]
    show fX7_becomes_b43 _ _ _ _ _ = _
    unfold fX7_becomes_b43
    rcases ht t ht14 with h | ⟨q, hq, h⟩
    · simp only [gW_4 hw, gW_4 hu, Option.bind_some, e_on, p_lenR (pk_wl hw), p_lenR (pk_wl hu), p_ldR (pk_wl hu) ht14 (show 14 < 2 ^ 31 by decide), eT, h, p_stN (pk_wl hw) ht14 (show 14 < 2 ^ 31 by decide), va_up_up, va_up_s, nI_s]
      rw [if_neg (nI_ge (by omega) (by omega)), if_neg (nI_ge (by omega) (by omega))]
    · have hst := p_stQ (S := S) (I := I) (L := L) (T := va_up T (w + 2) R) (Λ := Λ) (K := K) (pk_wl hw) ht14 (by decide) (gX_o (S := S) (I := I) (L := L) (T := va_up T (w + 2) R) (Λ := Λ) hq)
      simp only [gW_4 hw, gW_4 hu, Option.bind_some, e_on, p_lenR (pk_wl hw), p_lenR (pk_wl hu), p_ldR (pk_wl hu) ht14 (show 14 < 2 ^ 31 by decide), eT, h, hst, va_up_up, va_up_s, nI_s]
      rw [if_neg (nI_ge (by omega) (by omega)), if_neg (nI_ge (by omega) (by omega))]
theorem q_worldBecomes {w u : Nat} {T : Nat → Nat → Option Nat} {S I : Nat → Nat → Int32} (hw : p_isW w) (hu : p_isW u) (hwu : w ≠ u) (ht : ∀ t, t < 14 → T (u + 2) t = none ∨ ∃ q, q < K ∧ T (u + 2) t = some (122 + 2 * q)) : ∃ S' I' T', fX7_becomes w u (p_H K S I L T Λ) = some (p_H K S' I' L T' Λ) ∧ S' w 0 = S u 0 ∧ S' w 1 = S u 1 ∧ S' w 2 = S u 2 ∧ (∀ q, q < 6 → S' (w + 4 + 2 * q) 0 = S (u + 4 + 2 * q) 0 ∧ ∀ x, x < 15 → I' (w + 4 + 2 * q + 1) x = I (u + 4 + 2 * q + 1) x) ∧ (∀ t, t < 14 → T' (w + 2) t = T (u + 2) t) ∧ (∀ a, a < w ∨ w + 15 < a → S' a = S a) ∧ (∀ a, a < w ∨ w + 15 < a → I' a = I a) ∧ ∀ a, a ≠ w + 2 → T' a = T a := by
  have hwu2 := pwu hw hu hwu
  obtain ⟨S2, I2, ⟨k1, k2, k3⟩, k4⟩ := bc_go (K := K) (L := L) (Λ := Λ) (T := T) (S := S) (I := I) hw hu hwu 6 193 0 S I (by omega) ⟨fun q hq => absurd hq (Nat.not_lt_zero _), fun _ _ => rfl, fun _ _ => rfl⟩
  obtain ⟨R, l1, l2⟩ := bl_go (K := K) (L := L) (Λ := Λ) (T := T) (S := S2) (I := I2) hw hu hwu ht 14 185 0 (T (w + 2)) (by omega) (fun q hq => absurd hq (Nat.not_lt_zero _))
  rw [p_up_id] at l2
  have eu : S2 u = S u := k2 u (fun q hq => by omega)
  refine ⟨p_s (p_s (p_s S2 w 0 (S u 0)) w 1 (S u 1)) w 2 (S u 2), I2, va_up T (w + 2) R, ?_, ?_, ?_, ?_, fun q hq => ?_, fun t ht => ?_, fun a ha => ?_, fun a ha => ?_, fun a ha => va_up_n ha⟩
  · unfold fX7_becomes
    rw [gW_o hw, Option.bind_some]
    refine k4.trans (l2.trans ?_)
    have e1 : ∀ x, p_s S2 w 0 x u = S u := fun x => by rw [p_s_n (Ne.symm hwu), eu]
    have e2 : ∀ x y, p_s (p_s S2 w 0 x) w 1 y u = S u := fun x y => by rw [p_s_n (Ne.symm hwu), p_s_n (Ne.symm hwu), eu]
    unfold fX7_becomes_b79
    simp only [gW_0 hu, gW_1 hu, gW_2 hu, gW_p0 hw, gW_p1 hw, gW_p2 hw, Option.bind_some, e1, e2, eu]
  · rw [p_s_ne (by decide), p_s_ne (by decide), p_s_at]
  · rw [p_s_ne (by decide), p_s_at]
  · rw [p_s_at]
  · rw [p_s_n (by omega), p_s_n (by omega), p_s_n (by omega)]
    exact k1 q hq
  · rw [va_up_s]
    exact l1 t ht
  · rw [p_s_n (by omega), p_s_n (by omega), p_s_n (by omega)]
    exact k2 a (fun q hq => by omega)
  · exact k3 a (fun q hq => by omega)
end IMAGE
theorem eb_1 : nI 1 = e_b true := rfl
theorem eb_0 {b : Bool} (h : e_b b = 0) : b = false := by
  cases b
  · rfl
  · exact absurd h eb_t
theorem p_isW17 : p_isW 17 := Or.inr rfl
theorem c_keep : p_both (fX8_keep 0) (fX9_keep 96) := by
  intro K S I L T Λ hinv
  obtain ⟨⟨lw, cn, tn, h1⟩, ⟨b, h2, h3, h4⟩, ⟨l, h5, h6, h7, h8⟩, ⟨m, h9, h10, h11, h12⟩, h13, h14, h15, h16⟩ := id hinv
  obtain ⟨S', I', T', g1, g2, g3, g4, g5, g6, g7, g8, g9⟩ := q_worldBecomes (K := K) (L := L) (Λ := Λ) (S := S) (I := I) p_isW17 pk_w1 (by decide) (fun t ht => h16 1 pk_w1 t ht)
  obtain ⟨A, k1, k2⟩ := q9_copyAll (K := K) (T := T') (Λ := Λ) (S := p_s S' 0 9 (nI 1)) (I := I') (L := L) pk_97 pk_98 (by decide)
  have e97 : I' 97 = I 97 := g8 97 (by decide)
  refine both_go (h1 := p_H K (p_s S' 0 9 (nI 1)) I' L T' Λ) (S2 := p_s (p_s S' 0 9 (nI 1)) 96 3 (nI 1)) (I2 := va_up I' 98 A) (L2 := L) (T2 := T') (nI cn) ?_ ?_ (hinv.gen ⟨lw, cn, tn, h1.fr2 (fun x z1 z2 => by rw [p_s_n (by omega), p_s_n (by omega), g7 x (by omega)]) (fun x z1 z2 => by rw [va_up_n (by omega), g8 x (by omega)]) (by rw [va_up_n (by decide), e97]) (g9 3 (by decide))⟩ ⟨true, ?_, ?_, fun _ => ⟨lw, cn, tn, h1.cpy ?_ ?_ ?_ (fun q hq => ?_) g6 (fun x hx => ?_)⟩⟩ ⟨l, h5, ?_, ?_, ?_⟩ ⟨m, h9, ?_, ?_, ?_⟩ (fun a z1 z2 => by rw [p_s_n (by omega), p_s_n (by omega), g7 a (by omega)]) (fun a ha => by rw [va_up_n (by omega), g8 a (by omega)]) (fun w hw t ht => ?_))
  · unfold fX8_keep
    simp only [gB_o, gB_0, gB_1, gB_2, gB_3, gB_4, gB_5, gB_6, gB_7, gB_8, gB_9, gB_p8, gB_p9, p_lenF pk_60, p_lenF pk_61, p_lenI pk_62, Option.bind_some, e_on, g1, gW_0 p_isW17]
    rw [p_s_n (by decide), g2, h1.1.2.1]
  · unfold fX9_keep
    simp only [gM_o, gM_0, gM_1, gM_p3, Option.bind_some, e_on, k2, p_ldI pk_97 (show 1 < 1471 by decide) (show 1471 < 2 ^ 31 by decide)]
    rw [va_up_n (by decide), e97, h1.1.2.2.1]
  · rw [p_s_n (by decide), p_s_at]; exact eb_1
  · rw [p_s_at]; exact eb_1
  · rw [p_s_n (by decide), p_s_n (by decide)]; exact g2
  · rw [p_s_n (by decide), p_s_n (by decide)]; exact g3
  · rw [p_s_n (by decide), p_s_n (by decide)]; exact g4
  · rw [p_s_n (by omega), p_s_n (by omega), va_up_n (by omega)]
    exact g5 q hq
  · rw [va_up_s, k1 x hx, e97]
  · rw [p_s_n (by decide), p_s_n (by decide), g7 57 (by decide)]; exact h6
  · rw [p_s_ne (by decide), p_s_n (by decide), g7 96 (by decide)]; exact h7
  · rw [va_up_n (by decide), va_up_n (by decide), g8 58 (by decide), g8 105 (by decide)]; exact h8
  · rw [p_s_n (by decide), p_s_ne (by decide), g7 0 (by decide)]; exact h10
  · rw [p_s_ne (by decide), p_s_n (by decide), g7 96 (by decide)]; exact h11
  · rw [va_up_n (by decide), va_up_n (by decide), g8 62 (by decide), g8 121 (by decide)]; exact h12
  · rcases hw with rfl | rfl
    · rw [g9 (1 + 2) (by decide)]
      exact h16 1 pk_w1 t ht
    · rw [g6 t ht]
      exact h16 1 pk_w1 t ht
theorem c_back : p_both (fX8_back 0) (fX9_back 96) := by
  intro K S I L T Λ hinv
  obtain ⟨⟨lw, cn, tn, h1⟩, ⟨b, h2, h3, h4⟩, ⟨l, h5, h6, h7, h8⟩, ⟨m, h9, h10, h11, h12⟩, h13, h14, h15, h16⟩ := id hinv
  cases b with
  | false =>
    refine both_bad (r := -1000000002) hinv ?_ ?_
    · unfold fX8_back
      simp only [gB_o, gB_0, gB_1, gB_2, gB_3, gB_4, gB_5, gB_6, gB_7, gB_8, gB_9, gB_p8, gB_p9, p_lenF pk_60, p_lenF pk_61, p_lenI pk_62, Option.bind_some, e_on, h2]
      rw [if_pos eb_f]
    · unfold fX9_back
      simp only [gM_o, gM_3, Option.bind_some, e_on, h3]
      rw [if_pos eb_f]
  | true =>
    obtain ⟨lw', cn', tn', w17⟩ := h4 rfl
    obtain ⟨S', I', T', g1, g2, g3, g4, g5, g6, g7, g8, g9⟩ := q_worldBecomes (K := K) (L := L) (Λ := Λ) (S := S) (I := I) pk_w1 p_isW17 (by decide) (fun t ht => h16 17 p_isW17 t ht)
    obtain ⟨A, k1, k2⟩ := q9_copyAll (K := K) (T := T') (Λ := Λ) (S := S') (I := I') (L := L) pk_98 pk_97 (by decide)
    have e98 : I' 98 = I 98 := g8 98 (by decide)
    refine both_go (h1 := p_H K S' I' L T' Λ) (S2 := S') (I2 := va_up I' 97 A) (L2 := L) (T2 := T') (nI cn') ?_ ?_ (hinv.gen ⟨lw', cn', tn', w17.cpy g2 g3 g4 (fun q hq => ?_) g6 (fun x hx => ?_)⟩ ⟨true, ?_, ?_, fun _ => ⟨lw', cn', tn', w17.fr2 (fun x z1 z2 => g7 x (by omega)) (fun x z1 z2 => by rw [va_up_n (by omega), g8 x (by omega)]) (by rw [va_up_n (by decide), e98]) (g9 19 (by decide))⟩⟩ ⟨l, h5, ?_, ?_, ?_⟩ ⟨m, h9, ?_, ?_, ?_⟩ (fun a z1 z2 => g7 a (by omega)) (fun a ha => by rw [va_up_n (by omega), g8 a (by omega)]) (fun w hw t ht => ?_))
    · unfold fX8_back
      simp only [gB_o, gB_0, gB_1, gB_2, gB_3, gB_4, gB_5, gB_6, gB_7, gB_8, gB_9, gB_p8, gB_p9, p_lenF pk_60, p_lenF pk_61, p_lenI pk_62, Option.bind_some, e_on, h2, if_neg eb_t, g1, gW_0 pk_w1, g2, w17.1.2.1]
    · unfold fX9_back
      simp only [gM_o, gM_0, gM_1, gM_3, Option.bind_some, e_on, g7 96 (by decide), h3, if_neg eb_t, k2, p_ldI pk_97 (show 1 < 1471 by decide) (show 1471 < 2 ^ 31 by decide)]
      rw [va_up_s, k1 1 (by decide), e98, w17.1.2.2.1]
    · rw [va_up_n (by omega)]
      exact g5 q hq
    · rw [va_up_s, k1 x hx, e98]
    · rw [g7 0 (by decide)]; exact h2
    · rw [g7 96 (by decide)]; exact h3
    · rw [g7 57 (by decide)]; exact h6
    · rw [g7 96 (by decide)]; exact h7
    · rw [va_up_n (by decide), va_up_n (by decide), g8 58 (by decide), g8 105 (by decide)]; exact h8
    · rw [g7 0 (by decide)]; exact h10
    · rw [g7 96 (by decide)]; exact h11
    · rw [va_up_n (by decide), va_up_n (by decide), g8 62 (by decide), g8 121 (by decide)]; exact h12
    · rcases hw with rfl | rfl
      · rw [g6 t ht]
        exact h16 17 p_isW17 t ht
      · rw [g9 (17 + 2) (by decide)]
        exact h16 17 p_isW17 t ht
theorem p_tp_eq {t t' : Nat → Nat → Int32} (h : ∀ k l, k + l ≤ 4 → t k l = t' k l) (n : Nat) : p_tp t n = p_tp t' n := by
  have e : p_t2 t = p_t2 t' := by
    funext a b
    unfold p_t2
    split
    · next z => rw [h a b z]
    · rfl
  have e2 : p_shp t = p_shp t' := by
    funext x y k
    unfold p_shp
    rw [e]
  unfold p_tp
  rw [e2]
theorem c_check (c n : Int32) : p_both (fX8_check 0 c n) (fX9_check 96 c n) := by
  intro K S I L T Λ hinv
  obtain ⟨⟨lw, cn, tn, h1⟩, ⟨b, h2, h3, h4⟩, ⟨l, h5, h6, h7, h8⟩, ⟨m, h9, h10, h11, h12⟩, h13, h14, h15, h16⟩ := id hinv
  have base : ∀ (I2 : Nat → Nat → Int32), p_fr (97 :: p_scI) I I2 → (∀ x, x < 1471 → I2 97 x = I 97 x) → p_inv K (p_s (p_s S 0 8 (nI 0)) 96 39 (nI 0)) I2 T Λ := by
    intro I2 fI e97
    have fr1 : ∀ a, a ≠ 97 → a ∉ p_scI → I2 a = I a := fun a ha hb => fI a (by simp only [List.mem_cons, not_or]; exact ⟨ha, hb⟩)
    refine hinv.gen ⟨lw, cn, tn, h1.cpy ?_ ?_ ?_ (fun q hq => ?_) (fun t ht => rfl) e97⟩ ⟨b, ?_, ?_, fun hb => ?_⟩ ⟨l, h5, ?_, ?_, ?_⟩ ⟨0, by decide, ?_, ?_, fun x hx => absurd hx (Nat.not_lt_zero _)⟩ (fun a z1 z2 => by rw [p_s_n (by omega), p_s_n (by omega)]) (fun a ha => fr1 a (by omega) (p_sc_n (by omega))) h16
    · rw [p_s_n (by decide), p_s_n (by decide)]
    · rw [p_s_n (by decide), p_s_n (by decide)]
    · rw [p_s_n (by decide), p_s_n (by decide)]
    · rw [p_s_n (by omega), p_s_n (by omega), fr1 _ (by omega) (p_sc_n (by omega))]
      exact ⟨rfl, fun x hx => rfl⟩
    · rw [p_s_n (by decide), p_s_ne (by decide)]; exact h2
    · rw [p_s_ne (by decide), p_s_n (by decide)]; exact h3
    · obtain ⟨lw, cn, tn, h⟩ := h4 hb
      exact ⟨lw, cn, tn, h.fr (fun x z1 z2 => by rw [p_s_n (by omega), p_s_n (by omega)]) (fun x z1 z2 => fr1 x (by omega) (p_sc_n (by omega))) (fr1 98 (by decide) (by decide))⟩
    · rw [p_s_n (by decide), p_s_n (by decide)]; exact h6
    · rw [p_s_ne (by decide), p_s_n (by decide)]; exact h7
    · rw [fr1 58 (by decide) (by decide), fr1 105 (by decide) (by decide)]; exact h8
    · rw [p_s_n (by decide), p_s_at]
    · rw [p_s_at]
  have e39 : p_s S 0 8 (nI 0) 96 39 = nI m := by rw [p_s_n (by decide)]; exact h11
  have bad : ∀ r : Int32, fX8_check 0 c n (p_H K S I L T Λ) = some (r, p_H K (p_s S 0 8 (nI 0)) I L T Λ) → fX9_check 96 c n (p_H K (p_s S 0 8 (nI 0)) I L T Λ) = some (r, p_H K (p_s (p_s S 0 8 (nI 0)) 96 39 (nI 0)) I L T Λ) → ∃ r h1 K2 S2 I2 L2 T2 Λ2, fX8_check 0 c n (p_H K S I L T Λ) = some (r, h1) ∧ fX9_check 96 c n h1 = some (r, p_H K2 S2 I2 L2 T2 Λ2) ∧ p_inv K2 S2 I2 T2 Λ2 := fun r g8 g9 => both_go r g8 g9 (base I (p_fr.rf _ _) (fun _ _ => rfl))
  by_cases hn : ¬ n < nI 1 ∧ ¬ nI 30 < n
  · obtain ⟨N, hN, rfl⟩ : ∃ N, N ≤ 30 ∧ n = nI N := by
      obtain ⟨j, hj, rfl⟩ := nI_of (x := n) (fun z => hn.1 (Int32.lt_trans z (by decide)))
      refine ⟨j, ?_, rfl⟩
      by_cases e : j ≤ 30
      · exact e
      · exact absurd (nI_lt (show 30 < j by omega) (by omega)) hn.2
    have hin : fX9_in (nI N) (nI 1) (nI 30) = some true := by rw [p_in_b, decide_eq_true hn]
    cases b with
    | false =>
      refine bad (-1000000002) ?_ ?_
      · unfold fX8_check
        simp only [gB_o, gB_0, gB_1, gB_2, gB_3, gB_4, gB_5, gB_6, gB_7, gB_8, gB_9, gB_p8, gB_p9, p_lenF pk_60, p_lenF pk_61, p_lenI pk_62, Option.bind_some, e_on, if_neg hn.1, if_pos (Int32.not_lt.mp hn.2)]
        rw [p_s_ne (by decide), h2, if_pos eb_f]
      · unfold fX9_check
        simp only [gM_o, gM_39, gM_p39, gM_3, Option.bind_some, e_on, hin, if_neg eb_t]
        rw [p_s_ne (by decide), p_s_n (by decide), h3, if_pos eb_f]
    | true =>
      obtain ⟨lw', cn', tn', w17⟩ := h4 rfl
      have hcn := w17.1.1
      have e9 : p_s S 0 8 (nI 0) 0 9 = e_b true := by rw [p_s_ne (by decide)]; exact h2
      have e3 : p_s (p_s S 0 8 (nI 0)) 96 39 (nI 0) 96 3 = e_b true := by rw [p_s_ne (by decide), p_s_n (by decide)]; exact h3
      have es17 : ∀ k, p_s S 0 8 (nI 0) 17 k = S 17 k := fun k => by rw [p_s_n (by decide)]
      rcases cur_or c (n := cn') (by omega) with ⟨k, hk, rfl⟩ | hc
      · have hk6 : k < 6 := by omega
        have v45 : p_isV 45 17 := Or.inr ⟨rfl, rfl⟩
        obtain ⟨c1, ⟨kd, c2, c3⟩, c4⟩ := w17.2.1 k hk6
        obtain ⟨I1, L1, g1, g2, g3, g4, g5⟩ := q_walk (S := p_s S 0 8 (nI 0)) (I := I) (L := L) (T := T) (K := K) (Λ := Λ) v45 w17.2.2.2.2.2.1 (by rw [es17]; exact w17.2.2.2.1) w17.2.2.2.2.2.2.1 (pk_cw p_isW17 hk6) (by omega) (by omega)
        rw [show p_s S 0 8 (nI 0) (17 + 4 + 2 * k) = S (17 + 4 + 2 * k) from p_s_n (by omega)] at g4 g5
        have f1 : p_fr p_scI I I1 := g2.mono (by decide)
        have d97 : I1 97 = I 97 := f1 97 (by decide)
        have d98 : I1 98 = I 98 := f1 98 (by decide)
        have d121 : I1 121 = I 121 := f1 121 (by decide)
        have d62 : I1 62 = I 62 := f1 62 (by decide)
        obtain ⟨A1, a1, a2⟩ := q9_copyAll (K := K) (T := T) (Λ := Λ) (S := p_s (p_s S 0 8 (nI 0)) 96 39 (nI 0)) (I := I1) (L := L1) pk_97 pk_99 (by decide)
        obtain ⟨A2, b1, b2⟩ := q9_copyAll (K := K) (T := T) (Λ := Λ) (S := p_s (p_s S 0 8 (nI 0)) 96 39 (nI 0)) (I := va_up I1 99 A1) (L := L1) pk_98 pk_97 (by decide)
        have b1' : ∀ x, x < 1471 → A2 x = I 98 x := fun x hx => by rw [b1 x hx, va_up_n (by decide), d98]
        have w9 : p_w9 (va_up (va_up I1 99 A1) 97 A2) Λ lw' tn' := by
          refine ⟨w17.2.2.1, ?_, ?_, w17.2.2.2.2.2.2.1⟩
          · rw [va_up_s, b1' 2 (by decide)]; exact w17.2.2.2.2.1
          · rw [va_up_s]
            exact w17.2.2.2.2.2.2.2.eq w17.2.2.2.2.2.2.1 w17.2.2.1 b1'
        obtain ⟨I3, m1, m2, m3⟩ := q9_findTerms (S := p_s (p_s S 0 8 (nI 0)) 96 39 (nI 0)) (L := L1) (T := T) (K := K) (k := kd) w9 hk6 c2 (by rw [va_up_s, b1' _ (by omega)]; exact c3) (fun x hx => by rw [va_up_s, b1' _ (by omega)]; exact (c4 x hx).2) rfl
        have tq : ∀ i j, i + j ≤ 4 → p_tv (S (17 + 4 + 2 * k) 0) (I (17 + 4 + 2 * k + 1)) (p_tg Λ lw' tn') i j = p_tv (nI kd) (fun x => va_up (va_up I1 99 A1) 97 A2 97 (4 + 16 * k + x)) (p_tg Λ lw' tn') i j := fun i j hij => by
          rw [c1, c3]
          refine p_tv_eq (fun x hx => ?_) _ hij
          rw [va_up_s, b1' _ (by omega)]
          exact (c4 x hx).1
        generalize p_tv (nI kd) (fun x => va_up (va_up I1 99 A1) 97 A2 97 (4 + 16 * k + x)) (p_tg Λ lw' tn') = t9 at m1 m3 tq
        obtain ⟨L4, n1, n2⟩ := ck_go (T := T) (K := K) (Λ := Λ) (t := t9) h9 hN 121 78 0 (p_s (p_s S 0 8 (nI 0)) 96 39 (nI 0)) I3 L1 (by omega) (by omega) m3
        obtain ⟨A3, o1, o2⟩ := q9_copyAll (K := K) (T := T) (Λ := Λ) (S := p_s (p_s S 0 8 (nI 0)) 96 39 (nI 0)) (I := I3) (L := L4) pk_99 pk_97 (by decide)
        have i121 : I3 121 = I 121 := by rw [m2 121 (by decide), va_up_n (by decide), va_up_n (by decide), d121]
        have i99 : I3 99 = A1 := by rw [m2 99 (by decide), va_up_n (by decide), va_up_s]
        have hq : p_ctf (I1 (45 + 2)) (I1 62) m (nI N) 121 0 0 = p_ctf (p_ft t9) (I3 121) m (nI N) 121 0 0 := p_ctf_eq (nI N) (fun x hx => by rw [g5 x hx, p_tp_eq tq]; rfl) (fun x hx => by rw [d62, i121]; exact h12 x hx) 121 0 0
        refine both_go (h1 := p_H K (p_s S 0 8 (nI 0)) I1 L1 T Λ) (L2 := L4) (nI (p_ctf (p_ft t9) (I3 121) m (nI N) 121 0 0)) ?_ ?_ (base (va_up I3 97 A3) (fun a ha => ?_) (fun x hx => ?_))
        · have ec := q_curveOf (S := p_s S 0 8 (nI 0)) (I := I) (L := L) (T := T) (K := K) (Λ := Λ) p_isW17 hcn (by rw [es17]; exact w17.1.2.1) hk
          have et := q_compareTold (S := p_s S 0 8 (nI 0)) (I := I1) (L := L1) (T := T) (K := K) (Λ := Λ) v45 h9 (nI N)
          rw [hq] at et
          unfold fX8_check
          simp only [gB_o, gB_0, gB_1, gB_2, gB_3, gB_4, gB_5, gB_6, gB_7, gB_8, gB_9, gB_p8, gB_p9, p_lenF pk_60, p_lenF pk_61, p_lenI pk_62, Option.bind_some, e_on, h10, if_neg hn.1, if_pos (Int32.not_lt.mp hn.2), e9, if_neg eb_t, ec, g1, et]
        · unfold fX9_check
          simp only [gM_o, gM_39, gM_p39, gM_3, gM_0, gM_1, gM_2, Option.bind_some, e_on, hin, if_neg eb_t, e39, e3, p_ldI pk_98 (show 1 < 1471 by decide) (show 1471 < 2 ^ 31 by decide), d98, w17.1.2.2.1, inz_yes hk (show cn' ≤ 96 by omega), a2, b2, m1]
          refine n1.trans ?_
          rw [o2, Option.bind_some]
        · have ha1 : a ≠ 97 := fun z => ha (by rw [z]; decide)
          have ha2 : a ∉ p_scI := fun z => ha (List.mem_cons_of_mem _ z)
          have ha3 : a ≠ 99 := fun z => ha2 (by rw [z]; decide)
          have ha4 : a ∉ [100, 111, 112] := fun z => ha2 (by
            simp only [List.mem_cons, List.not_mem_nil, or_false] at z
            rcases z with rfl | rfl | rfl <;> decide)
          rw [va_up_n ha1, m2 a ha4, va_up_n ha1, va_up_n ha3]
          exact f1 a ha2
        · rw [va_up_s, o1 x hx, i99, a1 x hx, d97]
      · refine bad (-1000000001) ?_ ?_
        · have ec := q_curveOf_no (S := p_s S 0 8 (nI 0)) (I := I) (L := L) (T := T) (K := K) (Λ := Λ) (c := c) p_isW17 hcn (by rw [es17]; exact w17.1.2.1) hc
          unfold fX8_check
          simp only [gB_o, gB_0, gB_1, gB_2, gB_3, gB_4, gB_5, gB_6, gB_7, gB_8, gB_9, gB_p8, gB_p9, p_lenF pk_60, p_lenF pk_61, p_lenI pk_62, Option.bind_some, e_on, if_neg hn.1, if_pos (Int32.not_lt.mp hn.2), e9, if_neg eb_t, ec]
        · unfold fX9_check
          simp only [gM_o, gM_39, gM_p39, gM_3, gM_1, Option.bind_some, e_on, hin, if_neg eb_t, e3, p_ldI pk_98 (show 1 < 1471 by decide) (show 1471 < 2 ^ 31 by decide), w17.1.2.2.1, inz_no (show cn' ≤ 96 by omega) hc, if_pos eb_f]
  · have hin : fX9_in n (nI 1) (nI 30) = some false := by rw [p_in_b, decide_eq_false hn]
    refine bad (-1000000001) ?_ ?_
    · unfold fX8_check
      simp only [gB_o, gB_0, gB_1, gB_2, gB_3, gB_4, gB_5, gB_6, gB_7, gB_8, gB_9, gB_p8, gB_p9, p_lenF pk_60, p_lenF pk_61, p_lenI pk_62, Option.bind_some, e_on]
      by_cases h1 : n < nI 1
      · rw [if_pos h1]
      · rw [if_neg h1, if_neg (fun z => i32_nlt z (Classical.not_not.mp (fun z => hn ⟨h1, z⟩)))]
    · unfold fX9_check
      simp only [gM_o, gM_39, gM_p39, Option.bind_some, e_on, hin, if_pos eb_f]
