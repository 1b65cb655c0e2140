theorem p_wr.lift {w a : Nat} {S I : Nat → Nat → Int32} {T : Nat → Nat → Option Nat} {K : Nat} {Λ : Nat → p_Lw} {lw : Nat → Nat} {cn tn : Nat} (h : p_wr w a S I T K Λ lw cn tn) (p : p_Lw) : p_wr w a S I T (K + 1) (p_Ln Λ K p) lw cn tn := by
  obtain ⟨h1, h2, h3, h4, h5, h6, h7, h8⟩ := h
  have e : ∀ t, t < tn → p_Ln Λ K p (lw t) = Λ (lw t) := fun t ht => if_neg (by have := (h6.2 t ht).2; omega)
  refine ⟨h1, h2, h3, h4, h5, ⟨h6.1, fun t ht => ⟨(h6.2 t ht).1, by have := (h6.2 t ht).2; omega⟩⟩, fun t ht => ?_, fun t ht => ?_⟩
  · rw [e t ht]; exact h7 t ht
  · rw [e t ht]; exact h8 t ht
theorem inv_tx {S S' I I' : Nat → Nat → Int32} {T : Nat → Nat → Option Nat} {K : Nat} {Λ : Nat → p_Lw} (h : p_inv K S I T Λ) (hS : ∀ a, a ≠ 57 → a ≠ 96 → S' a = S a) (h3 : S' 96 3 = S 96 3) (h39 : S' 96 39 = S 96 39) (h0 : S' 57 0 = nI 0) (h13 : S' 96 13 = nI 0) (hI : ∀ b, b ≠ 59 → b ≠ 108 → b ≠ 109 → b ≠ 110 → I' b = I b) : p_inv K S' I' T Λ := by
  obtain ⟨⟨lw, cn, tn, g1⟩, ⟨b, g2, g3, g4⟩, -, ⟨m, g9, g10, g11, g12⟩, -, -, -, g16⟩ := id h
  refine h.gen ⟨lw, cn, tn, g1.fr (fun x z1 z2 => hS x (by omega) (by omega)) (fun x z1 z2 => hI x (by omega) (by omega) (by omega) (by omega)) (hI 97 (by decide) (by decide) (by decide) (by decide))⟩ ⟨b, ?_, ?_, fun hb => ?_⟩ ⟨0, Nat.zero_le _, h0, h13, fun x hx => absurd hx (Nat.not_lt_zero x)⟩ ⟨m, g9, ?_, ?_, fun x hx => ?_⟩ (fun a z1 z2 => hS a (by omega) (by omega)) (fun a ha => hI a (by omega) (by omega) (by omega) (by omega)) g16
  · rw [hS 0 (by decide) (by decide)]; exact g2
  · rw [h3]; exact g3
  · obtain ⟨lw, cn, tn, g⟩ := g4 hb
    exact ⟨lw, cn, tn, g.fr (fun x z1 z2 => hS x (by omega) (by omega)) (fun x z1 z2 => hI x (by omega) (by omega) (by omega) (by omega)) (hI 98 (by decide) (by decide) (by decide) (by decide))⟩
  · rw [hS 0 (by decide) (by decide)]; exact g10
  · rw [h39]; exact g11
  · rw [hI 62 (by decide) (by decide) (by decide) (by decide), hI 121 (by decide) (by decide) (by decide) (by decide)]
    exact g12 x hx
theorem text_new {S I S3 I3 I1 : Nat → Nat → Int32} {T : Nat → Nat → Option Nat} {K : Nat} {Λ : Nat → p_Lw} (h : p_inv K S I T Λ) {lw : Nat → Nat} {cn tn : Nat} (h1 : p_wr 1 97 S I T K Λ lw cn tn) (ht : tn < 14) {ky a : Nat} {C : List Int32} (hky : ky ≤ 2) (hC : C.length < 96) (hsk : p_sk (I1 59) C) (hwf : p_wfl C) (hdp : p_dp C = 1) (hok : ∀ x, x ∈ C → p_okc ky x) {g : Nat → Int32} (hg : p_sk g (C.map p_c9))
    (e1 : ∀ k, k ≠ 1 → S3 1 k = S 1 k) (e11 : S3 1 1 = nI (tn + 1)) (eS : ∀ b, b ≠ 1 → b ≠ 57 → b ≠ 96 → S3 b = S b) (e3 : S3 96 3 = S 96 3) (e39 : S3 96 39 = S 96 39) (e57 : S3 57 0 = nI 0) (e13 : S3 96 13 = nI 0) (eI : ∀ b, b ≠ 59 → b ≠ 97 → b ≠ 108 → b ≠ 109 → b ≠ 110 → I3 b = I b)
    (n2 : I3 97 2 = nI (tn + 1)) (n99 : I3 97 (99 + 2 * tn) = nI (1000 * ky + C.length)) (n100 : I3 97 (100 + 2 * tn) = nI a) (nx : ∀ x, x ≠ 2 → x ≠ 99 + 2 * tn → x ≠ 100 + 2 * tn → (x < 127 + 96 * tn ∨ 127 + 96 * tn + C.length ≤ x) → I3 97 x = I 97 x) (nc : ∀ j, j < C.length → I3 97 (127 + 96 * tn + j) = g j) : p_inv (K + 1) S3 I3 (va_up T 3 (va_up (T 3) tn (some (122 + 2 * K)))) (p_Ln Λ K ((nI ky, nI a), (C.length, va_cpy (I1 59) (fun _ => 0) 0 0 C.length))) := by
  obtain ⟨-, ⟨b, g2, g3, g4⟩, -, ⟨m, g9, g10, g11, g12⟩, -, -, -, g16⟩ := id h
  obtain ⟨⟨w1, w2, w3, w4⟩, w5, w6, w7, w8, w9, w10, w11⟩ := h1
  have skf : p_sk (va_cpy (I1 59) (fun _ => 0) 0 0 C.length) C := fun i hi => by
    rw [cpy_at (by omega)]
    exact hsk i hi
  have wf : ev_wf (va_cpy (I1 59) (fun _ => 0) 0 0 C.length) C.length := by
    obtain ⟨i1, i2⟩ := wfl_ev C skf
    exact ⟨by omega, i2 hwf, by rw [← i1]; exact hdp⟩
  have eold : ∀ t, t < tn → p_Ln Λ K ((nI ky, nI a), (C.length, va_cpy (I1 59) (fun _ => 0) 0 0 C.length)) (lw t) = Λ (lw t) := fun t ht => if_neg (by have := (w9.2 t ht).2; omega)
  have enew : p_Ln Λ K ((nI ky, nI a), (C.length, va_cpy (I1 59) (fun _ => 0) 0 0 C.length)) K = ((nI ky, nI a), (C.length, va_cpy (I1 59) (fun _ => 0) 0 0 C.length)) := if_pos rfl
  refine h.gen ⟨fun t => if t = tn then K else lw t, cn, tn + 1, ⟨w1, ?_, ?_, ?_⟩, fun c hc => ⟨?_, ?_, fun x hx => ?_⟩, by omega, e11, n2, ⟨by omega, fun t htn => ?_⟩, fun t htn => ?_, fun t htn => ?_⟩ ⟨b, ?_, ?_, fun hb => ?_⟩ ⟨0, Nat.zero_le _, e57, e13, fun x hx => absurd hx (Nat.not_lt_zero x)⟩ ⟨m, g9, ?_, ?_, fun x hx => ?_⟩ (fun a z1 z2 => eS a (by omega) (by omega) (by omega)) (fun a ha => eI a (by omega) (by omega) (by omega) (by omega) (by omega)) ?_
  · rw [e1 0 (by decide)]; exact w2
  · rw [nx 1 (by decide) (by omega) (by omega) (by omega)]; exact w3
  · rw [e1 2 (by decide), nx 0 (by decide) (by omega) (by omega) (by omega)]; exact w4
  · rw [eS _ (by omega) (by omega) (by omega), nx (3 + 16 * c) (by omega) (by omega) (by omega) (by omega)]; exact (w5 c hc).1
  · rw [nx (3 + 16 * c) (by omega) (by omega) (by omega) (by omega)]; exact (w5 c hc).2.1
  · rw [eI _ (by omega) (by omega) (by omega) (by omega) (by omega), nx (4 + 16 * c + x) (by omega) (by omega) (by omega) (by omega)]
    exact (w5 c hc).2.2 x hx
  · show va_up T 3 (va_up (T 3) tn (some (122 + 2 * K))) 3 t = _ ∧ _
    rw [va_up_s]
    by_cases e : t = tn
    · rw [e, va_up_s]
      simp only [if_true]
      exact ⟨trivial, by omega⟩
    · rw [va_up_n e]
      simp only [if_neg e]
      have := w9.2 t (by omega)
      exact ⟨this.1, by omega⟩
  · show ev_wf (p_Ln Λ K _ (if t = tn then K else lw t)).2.2 (p_Ln Λ K _ (if t = tn then K else lw t)).2.1
    by_cases e : t = tn
    · rw [if_pos e, enew]
      exact wf
    · rw [if_neg e, eold t (by omega)]
      exact w10 t (by omega)
  · show p_txt (I3 97) (p_Ln Λ K _ (if t = tn then K else lw t)) t
    by_cases e : t = tn
    · rw [if_pos e, enew, e]
      refine ⟨ky, hky, rfl, n99, n100, fun i hi => ?_⟩
      have hi' : i < C.length := hi
      show I3 97 (127 + 96 * tn + i) = p_c9 (va_cpy (I1 59) (fun _ => 0) 0 0 C.length i) ∧ p_okc ky (va_cpy (I1 59) (fun _ => 0) 0 0 C.length i)
      rw [nc i hi', cpy_at hi']
      have k1 := hsk (C.length - 1 - i) (by omega)
      rw [show C.length - 1 - (C.length - 1 - i) = i by omega] at k1
      have k2 := hg (C.length - 1 - i) (by rw [List.length_map]; omega)
      rw [List.length_map, show C.length - 1 - (C.length - 1 - i) = i by omega, List.getElem?_map, k1] at k2
      exact ⟨(Option.some.inj k2).symm, hok _ (List.mem_of_getElem? k1)⟩
    · rw [if_neg e, eold t (by omega)]
      obtain ⟨k, k1, k2, k3, k4, k5⟩ := w11 t (by omega)
      have h96 : (Λ (lw t)).2.1 ≤ 96 := (w10 t (by omega)).1
      refine ⟨k, k1, k2, ?_, ?_, fun i hi => ?_⟩
      · rw [nx _ (by omega) (by omega) (by omega) (by omega)]; exact k3
      · rw [nx _ (by omega) (by omega) (by omega) (by omega)]; exact k4
      · rw [nx _ (by omega) (by omega) (by omega) (by omega)]; exact k5 i hi
  · rw [eS 0 (by decide) (by decide) (by decide)]; exact g2
  · rw [e3]; exact g3
  · obtain ⟨lw', cn', tn', g⟩ := g4 hb
    exact ⟨lw', cn', tn', (g.fr2 (fun x z1 z2 => eS x (by omega) (by omega) (by omega)) (fun x z1 z2 => eI x (by omega) (by omega) (by omega) (by omega) (by omega)) (eI 98 (by decide) (by decide) (by decide) (by decide) (by decide)) (va_up_n (by decide))).lift _⟩
  · rw [eS 0 (by decide) (by decide) (by decide)]; exact g10
  · rw [e39]; exact g11
  · rw [eI 62 (by decide) (by decide) (by decide) (by decide) (by decide), eI 121 (by decide) (by decide) (by decide) (by decide) (by decide)]
    exact g12 x hx
  · intro w hw t ht
    rcases hw with rfl | rfl
    · show va_up T 3 (va_up (T 3) tn (some (122 + 2 * K))) 3 t = none ∨ _
      rw [va_up_s]
      by_cases e : t = tn
      · rw [e, va_up_s]
        exact Or.inr ⟨K, by omega, rfl⟩
      · rw [va_up_n e]
        rcases g16 1 (Or.inl rfl) t ht with z | ⟨q, z1, z2⟩
        · exact Or.inl z
        · exact Or.inr ⟨q, by omega, z2⟩
    · rw [va_up_n (by decide)]
      rcases g16 17 (Or.inr rfl) t ht with z | ⟨q, z1, z2⟩
      · exact Or.inl z
      · exact Or.inr ⟨q, by omega, z2⟩
