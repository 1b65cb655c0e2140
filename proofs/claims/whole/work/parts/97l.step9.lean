section STEPS
variable {bt : Nat → Int32} {n ky : Nat}
theorem by_lt {f y : Nat} (hy : y < 256) (h : p_by bt n f = nI y) : f < n := by
  unfold p_by at h
  by_cases e : f < n
  · exact e
  · rw [if_neg e] at h
    exact absurd h.symm (nI_m1 (by omega))
theorem push_go {K : Nat} {S I : Nat → Nat → Int32} {L : Nat → Nat → Int64} {T : Nat → Nat → Option Nat} {Λ : Nat → p_Lw} {W D : List Int32} {a q : Nat} {e : Int32} {τ : Nat → Bool} (ht : p_tb bt n) (h : p_q9 bt n ky S I W D a τ) (hq : q ≤ n) (h14 : S 96 14 = nI q) (h18 : S 96 18 = e) (w : Int32) (hτ : ∀ i, i ≤ p_cO (w :: W) → I 110 i = e_b (τ i)) : ∃ S2, fX9_go 96 (p_H K (p_s S 96 26 (nI (W.length + 1))) (va_up I 109 (upd (I 109) W.length w)) L T Λ) = some (p_H K S2 (va_up I 109 (upd (I 109) W.length w)) L T Λ) ∧ p_q9 bt n ky S2 (va_up I 109 (upd (I 109) W.length w)) (w :: W) D a τ ∧ p_t9 bt n S2 q e ∧ p_fk p_ks S S2 := by
  obtain ⟨h1, h2, h3, h4, h5, h6, h7, h8, h9⟩ := id h
  have hq9 : p_q9 bt n ky (p_s S 96 26 (nI (W.length + 1))) (va_up I 109 (upd (I 109) W.length w)) (w :: W) D a τ := ⟨by rw [p_s_ne (by decide)]; exact h1, by rw [va_up_n (by decide)]; exact h2, by rw [p_s_ne (by decide)]; exact h3, by rw [p_s_ne (by decide)]; exact h4, by rw [va_up_n (by decide)]; exact h5, by rw [p_s_ne (by decide)]; exact h6, by rw [p_s_at]; rfl, by rw [va_up_s]; exact h8.push w, by rw [va_up_n (by decide)]; exact hτ⟩
  obtain ⟨S2, m1, m2, m3⟩ := q9_go (K := K) (L := L) (T := T) (Λ := Λ) (e := e) ht hq9.1 hq9.2.1 hq (by rw [p_s_ne (by decide)]; exact h14) (by rw [p_s_ne (by decide)]; exact h18)
  exact ⟨S2, m1, hq9.fk m3, m2, ((p_fk.rf _ S).put (by decide) _).tr (m3.mono (by decide))⟩
theorem st_not {q : Nat} {e : Int32} {W D : List Int32} {a : Nat} {τ : Nat → Bool} (ht : p_tb bt n) (hb : p_by bt n (p_skp bt n q) = nI 33) (hN : p_cN W < 8) : p_to bt n ky true ((q, e), (W, D), a, τ) true ((p_skp bt n q + 1, e), (-10 :: W, D), a, τ) := by
  have hn := ht.1
  have hf := by_lt (by decide) hb
  obtain ⟨k1, k2, k3, k4⟩ := tkn_sg (e := e) hf (by rw [hb]; decide) (by rw [hb]; decide)
  by_cases hqn : q ≤ n
  · have hle := p_skp_le (bt := bt) hqn
    refine ⟨1, by show q + 1 ≤ p_skp bt n q + 1; omega, fun K S I L T Λ h => ?_⟩
    obtain ⟨hq9, ⟨t1, t2, t3, t4, t5⟩, -, hlen⟩ := h
    have hlen' : D.length + W.length ≤ q := hlen
    have t2' : S 96 14 = nI (p_tnx bt n (p_skp bt n q)) := t2
    have t3' : S 96 16 = nI (p_tkn bt n (p_skp bt n q) e) := t3
    have t4' : S 96 17 = p_tvl bt n (p_skp bt n q) := t4 hf
    have t5' : S 96 18 = p_ted bt n (p_skp bt n q) e := t5
    rw [k2] at t2'
    rw [k1] at t3'
    rw [k4, hb] at t4'
    rw [k3] at t5'
    obtain ⟨S2, g1, g2, g3, g4⟩ := push_go (K := K) (L := L) (T := T) (Λ := Λ) ht hq9 (show p_skp bt n q + 1 ≤ n by omega) t2' t5' (-10) (by rw [p_cO_n (by decide)]; exact hq9.2.2.2.2.2.2.2.2)
    have g0 := q9_nots (K := K) (L := L) (T := T) (Λ := Λ) (W := -10 :: W) (by simp; omega) g2
    refine ⟨S2, _, ⟨g2, g3, by show p_skp bt n q + 1 ≤ n; omega, by show D.length + (W.length + 1) ≤ p_skp bt n q + 1; omega⟩, g4, (p_fI.rf I).up (Or.inr (Or.inl rfl)) _, fun f => ?_⟩
    show fX9_takesE_b28 _ _ _ _ _ _ = fX9_takesE_L28 f 96 (nI (p_cO (-10 :: W))) (nI (p_cN (-10 :: W))) (e_b true) _
    unfold fX9_takesE_b28 fX9_takesE_b39 fX9_takesE_b172
    rw [if_neg eb_t, if_neg eb_t]
    simp only [gM_16, gM_17, gM_25, gM_26, gM_p26, Option.bind_some, e_on, t3', t4', show S 96 26 = nI W.length from hq9.2.2.2.2.2.2.1, p_stI pk_109 (show W.length < 96 by omega) (show 96 < 2 ^ 31 by decide), nI_s, g1, g0]
    rw [if_pos trivial, if_pos trivial, if_neg (nI_ge hN (by decide)), p_cO_n (by decide)]
  · refine ⟨0, ?_, fun K S I L T Λ h => absurd h.2.2.1 hqn⟩
    exfalso
    unfold p_skp p_re at hf
    rw [show n - q = 0 by omega] at hf
    have : q < n := hf
    omega
theorem st_part {q : Nat} {e : Int32} {W D : List Int32} {a : Nat} {τ : Nat → Bool} (ht : p_tb bt n) (hk : ky ≤ 2) (hq : q ≤ n) {x : Int32} (hx : p_pt bt n ky (p_skp bt n q) e = some x) : p_to bt n ky true ((q, e), (W, D), a, τ) false ((p_tnx bt n (p_skp bt n q), nI (p_tnx bt n (p_skp bt n q))), p_stl 6 W (x :: D), a + 1, τ) := by
  have hn := ht.1
  have hle := p_skp_le (bt := bt) hq
  have h12 : p_tkn bt n (p_skp bt n q) e = 1 ∨ p_tkn bt n (p_skp bt n q) e = 2 := by
    unfold p_pt at hx
    by_cases h2 : p_tkn bt n (p_skp bt n q) e = 2
    · exact Or.inr h2
    · rw [if_neg h2] at hx
      by_cases h1 : p_tkn bt n (p_skp bt n q) e = 1 ∧ p_tnx bt n (p_skp bt n q) = p_skp bt n q + 1 ∧ ¬ p_nm ky (p_by bt n (p_skp bt n q)) < 0
      · exact Or.inl h1.1
      · rw [if_neg h1] at hx
        exact absurd hx (by simp)
  have hf := (tkn_12 h12).1
  have hnx := tnx_le (bt := bt) hle.2
  refine ⟨1, by show q + 1 ≤ p_tnx bt n (p_skp bt n q); have := hnx.2.2 hf; omega, fun K S I L T Λ h => ?_⟩
  obtain ⟨S', I', g1, g2, g3, g4⟩ := q9_part (K := K) (L := L) (T := T) (Λ := Λ) ht hk h hx
  have g1' : fX9_takesPart 96 (p_H K S I L T Λ) = some (true, p_H K S' I' L T Λ) := g1
  obtain ⟨hq9, ⟨t1, t2, t3, t4, t5⟩, -, hlen⟩ := h
  have t3' : S 96 16 = nI (p_tkn bt n (p_skp bt n q) e) := t3
  have hl2 : (p_stl 6 W (x :: D)).1.length ≤ 96 := by
    have := g2.2.2.2
    have z : (p_stl 6 W (x :: D)).2.length + (p_stl 6 W (x :: D)).1.length ≤ p_tnx bt n (p_skp bt n q) := this
    omega
  have g0 := q9_nots (K := K) (L := L) (T := T) (Λ := Λ) hl2 g2.1
  have ecO : p_cO (p_stl 6 W (x :: D)).1 = p_cO W := (stl_ok 6 W (x :: D)).2
  refine ⟨S', I', g2, g3, g4, fun f => ?_⟩
  have n3 : ¬ nI (p_tkn bt n (p_skp bt n q) e) = nI 3 := by
    rcases h12 with z | z <;> rw [z] <;> decide
  show fX9_takesE_b28 _ _ (nI (p_cO W)) _ _ _ = fX9_takesE_L28 f 96 (nI (p_cO (p_stl 6 W (x :: D)).1)) (nI (p_cN (p_stl 6 W (x :: D)).1)) (e_b false) _
  unfold fX9_takesE_b28 fX9_takesE_b39 fX9_takesE_b97 fX9_takesE_b158 fX9_takesE_b172
  rw [if_neg eb_t, if_neg eb_t]
  simp only [gM_16, Option.bind_some, e_on, t3', if_neg n3, g1', if_neg eb_t, g0]
  rw [ecO]
  rfl
theorem st_no {q : Nat} {e : Int32} {W D : List Int32} {a : Nat} {τ : Nat → Bool} (ht : p_tb bt n) (hk : ky ≤ 2) (hq : q ≤ n) (h33 : p_by bt n (p_skp bt n q) = nI 33 → 8 ≤ p_cN W) (h40 : p_by bt n (p_skp bt n q) = nI 40 → 8 ≤ p_cO W) (hcN : p_cN W < 1000) (hcO : p_cO W < 1000) (hx : p_pt bt n ky (p_skp bt n q) e = none) : p_no bt n ky true ((q, e), (W, D), a, τ) (p_skp bt n q) := by
  have hn := ht.1
  have hle := p_skp_le (bt := bt) hq
  refine ⟨0, hq, fun K S I L T Λ h => ?_⟩
  have g1 := q9_part_no (K := K) (L := L) (T := T) (Λ := Λ) hk h hn hx
  obtain ⟨hq9, ⟨t1, t2, t3, t4, t5⟩, -, hlen⟩ := h
  have t3' : S 96 16 = nI (p_tkn bt n (p_skp bt n q) e) := t3
  refine ⟨S, I, t1, p_fk.rf _ _, p_fI.rf _, fun f => ?_⟩
  have h7 : p_tkn bt n (p_skp bt n q) e < 2 ^ 31 := by
    unfold p_tkn
    repeat' split
    all_goals decide
  show fX9_takesE_b28 _ _ (nI (p_cO W)) (nI (p_cN W)) _ _ = _
  have last : fX9_takesE_b158 (fX9_takesE_L28 f) 96 (nI (p_cO W)) (p_H K S I L T Λ) = some (false, p_H K S I L T Λ) := by
    unfold fX9_takesE_b158
    rw [g1, Option.bind_some, if_pos eb_f]
  by_cases hk3 : p_tkn bt n (p_skp bt n q) e = 3
  · have hf : p_skp bt n q < n := by
      unfold p_tkn at hk3
      by_cases z : n ≤ p_skp bt n q
      · rw [if_pos z] at hk3
        exact absurd hk3 (by decide)
      · omega
    have hd : p_dig (p_by bt n (p_skp bt n q)) = false := by
      unfold p_tkn at hk3
      rw [if_neg (by omega)] at hk3
      cases hd : p_dig (p_by bt n (p_skp bt n q))
      · rfl
      · rw [hd] at hk3
        revert hk3
        cases p_ltr (p_by bt n (p_skp bt n q))
        · rw [if_neg (by decide), if_pos rfl]
          intro z
          split at z <;> exact absurd z (by decide)
        · rw [if_pos rfl]
          intro z
          split at z <;> exact absurd z (by decide)
    have t4' : S 96 17 = p_by bt n (p_skp bt n q) := by
      rw [t4 hf]
      show p_tvl bt n (p_skp bt n q) = _
      unfold p_tvl
      rw [hd, if_neg (by decide)]
    have b97 : fX9_takesE_b97 (fX9_takesE_L28 f) 96 (nI (p_cO W)) (e_b true) (p_H K S I L T Λ) = some (false, p_H K S I L T Λ) := by
      unfold fX9_takesE_b97
      rw [gM_16, Option.bind_some, t3', hk3, if_pos rfl, gM_17, Option.bind_some, t4']
      by_cases z : p_by bt n (p_skp bt n q) = nI 40
      · rw [if_pos z, if_pos (nI_le (h40 z) (by omega))]
        exact last
      · rw [if_neg z]
        exact last
    unfold fX9_takesE_b28 fX9_takesE_b39
    rw [if_neg eb_t, if_neg eb_t, gM_16, Option.bind_some, t3', hk3, if_pos rfl, gM_17, Option.bind_some, t4']
    by_cases z : p_by bt n (p_skp bt n q) = nI 33
    · rw [if_pos z, if_pos (nI_le (h33 z) (by omega))]
      exact b97
    · rw [if_neg z]
      exact b97
  · have n3 : ¬ nI (p_tkn bt n (p_skp bt n q) e) = nI 3 := fun z => hk3 ((nI_eq h7 (by decide)).mp z)
    unfold fX9_takesE_b28 fX9_takesE_b39 fX9_takesE_b97
    rw [if_neg eb_t, if_neg eb_t, gM_16, Option.bind_some, t3', if_neg n3, Option.bind_some, if_neg n3]
    exact last
end STEPS
