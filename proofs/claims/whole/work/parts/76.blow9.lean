def p_c2 (c : Nat → Int64) (t : Int64) (k j : Nat) : Int64 := c k * p_C (k % 5) (j % 5) * p_pow t (k % 5 - j % 5)
def p_bs (c : Nat → Int64) (m : Nat) (t : Int64) (j : Nat) : Nat → Int64
  | 0 => 0
  | n + 1 => p_bs c m t j n + if n / 5 + n % 5 = j / 5 + m then (if j % 5 ≤ n % 5 then p_c2 c t n j else 0) else 0
def p_dg1 (g : Nat → Int64) (D n b : Nat) : Int64 := if b ≤ D ∧ 5 * (D - b) + b < n then g (5 * (D - b) + b) else 0
theorem p_dg1_s (g : Nat → Int64) {D n b : Nat} (hb : b < 5) : p_dg1 g D (n + 1) b = p_dg1 g D n b + if n / 5 + n % 5 = D ∧ n % 5 = b then g n else 0 := by
  unfold p_dg1
  by_cases h : n / 5 + n % 5 = D ∧ n % 5 = b
  · rw [if_pos h, if_pos (by omega), if_neg (by omega), show 5 * (D - b) + b = n by omega]
    simp
  · rw [if_neg h]
    by_cases h2 : b ≤ D ∧ 5 * (D - b) + b < n
    · rw [if_pos h2, if_pos (by omega)]
      simp
    · rw [if_neg h2, if_neg (by omega)]
      rfl
def p_sd (g : Nat → Int64) (D : Nat) : Nat → Int64
  | 0 => 0
  | n + 1 => p_sd g D n + if n / 5 + n % 5 = D then g n else 0
theorem p_sd_5 (g : Nat → Int64) (D : Nat) : ∀ n, p_sd g D n = p_dg1 g D n 0 + p_dg1 g D n 1 + p_dg1 g D n 2 + p_dg1 g D n 3 + p_dg1 g D n 4
  | 0 => by simp [p_sd, p_dg1]
  | n + 1 => by
    rw [p_sd, p_sd_5 g D n, p_dg1_s g (by decide), p_dg1_s g (by decide), p_dg1_s g (by decide), p_dg1_s g (by decide), p_dg1_s g (by decide)]
    generalize p_dg1 g D n 0 = a0
    generalize p_dg1 g D n 1 = a1
    generalize p_dg1 g D n 2 = a2
    generalize p_dg1 g D n 3 = a3
    generalize p_dg1 g D n 4 = a4
    by_cases h : n / 5 + n % 5 = D
    · rcases (show n % 5 = 0 ∨ n % 5 = 1 ∨ n % 5 = 2 ∨ n % 5 = 3 ∨ n % 5 = 4 by omega) with e | e | e | e | e <;> simp [h, e] <;> grind
    · simp [h]
theorem p_bs_sd (c : Nat → Int64) (m : Nat) (t : Int64) (j : Nat) : ∀ n, p_bs c m t j n = p_sd (fun k => if j % 5 ≤ k % 5 then p_c2 c t k j else 0) (j / 5 + m) n
  | 0 => rfl
  | n + 1 => by rw [p_bs, p_sd, p_bs_sd c m t j n]
theorem p_bs_blw (c : Nat → Int64) (m : Nat) (t : Int64) {j : Nat} (hj : j < 85) : p_bs c m t j 85 = p_blw c m t j := by
  have h : ∀ b, b < 5 → p_dg1 (fun k => if j % 5 ≤ k % 5 then p_c2 c t k j else 0) (j / 5 + m) 85 b = if j % 5 ≤ b then p_dg c (j / 5 + m) b * p_C b (j % 5) * p_pow t (b - j % 5) else 0 := fun b hb => by
    unfold p_dg1 p_dg p_c2
    by_cases h1 : b ≤ j / 5 + m ∧ 5 * (j / 5 + m - b) + b < 85
    · rw [if_pos h1, if_pos (show b ≤ j / 5 + m ∧ j / 5 + m ≤ b + 16 by omega)]
      dsimp only
      rw [show (5 * (j / 5 + m - b) + b) % 5 = b by omega]
    · rw [if_neg h1, if_neg (show ¬ (b ≤ j / 5 + m ∧ j / 5 + m ≤ b + 16) by omega)]
      split
      · grind
      · rfl
  rw [p_bs_sd, p_sd_5, h 0 (by decide), h 1 (by decide), h 2 (by decide), h 3 (by decide), h 4 (by decide)]
  unfold p_blw
  generalize hf : (fun b => p_dg c (j / 5 + m) b) = f
  have hf' : ∀ b, p_dg c (j / 5 + m) b = f b := fun b => by rw [← hf]
  simp only [hf']
  rcases (show j % 5 = 0 ∨ j % 5 = 1 ∨ j % 5 = 2 ∨ j % 5 = 3 ∨ j % 5 = 4 by omega) with e | e | e | e | e <;> simp [e, p_sf, p_C, p_pow] <;> try grind
section BLOW9
variable {K : Nat} {S I : Nat → Nat → Int32} {L : Nat → Nat → Int64} {T : Nat → Nat → Option Nat} {Λ : Nat → p_Lw}
theorem bl_in {s s' m : Nat} (hs : s < 40) (hs' : s' < 40) (k33 : Nat → Int32 → Int32 → Int32 → Int32 → Int32 → e_H → Option e_H) (t : Int32) (c : Nat → Int64) {k : Nat} (hk : k < 85) (hm : m ≤ k / 5 + k % 5) (h16 : k / 5 + k % 5 - m ≤ 16) : ∀ (d f b : Nat) (G : Nat → Int64), b + d = k % 5 + 1 → (∀ j, j < 85 → G (85 * s' + j) = p_bs c m t.toInt64 j k + if k / 5 + k % 5 = j / 5 + m ∧ j % 5 < b then p_c2 c t.toInt64 k j else 0) → (∀ i, i < 85 * s' ∨ 85 * s' + 85 ≤ i → G i = L 101 i) →
    ∃ G', (∀ j, j < 85 → G' (85 * s' + j) = p_bs c m t.toInt64 j (k + 1)) ∧ (∀ i, i < 85 * s' ∨ 85 * s' + 85 ≤ i → G' i = L 101 i) ∧ fX9_Llows_L84 k33 (d + 1 + f) 96 (nI s) (nI m) t (nI s') (nI k) (c k) (nI (k / 5 + k % 5 - m)) (nI b) (p_H K S I (va_up L 101 G) T Λ) = k33 96 (nI s) (nI m) t (nI s') (nI (k + 1)) (p_H K S I (va_up L 101 G') T Λ)
  | 0, f, b, G, hb, hG, hG2 => by
    refine ⟨G, fun j hj => ?_, hG2, ?_⟩
    · rw [hG j hj, p_bs]
      congr 1
      by_cases e1 : k / 5 + k % 5 = j / 5 + m
      · rw [if_pos e1]
        by_cases e2 : j % 5 ≤ k % 5
        · rw [if_pos e2, if_pos ⟨e1, by omega⟩]
        · rw [if_neg e2, if_neg (by omega)]
      · rw [if_neg e1, if_neg (fun z => e1 z.1)]
    · rw [show 0 + 1 + f = f + 1 by omega]
      show fX9_blows_b84 _ _ _ _ _ _ _ _ _ _ _ _ = _
      unfold fX9_blows_b84 fX9_blows_b145
      rw [nI_mod (by omega) (by decide), if_pos (nI_lt (by omega) (by omega)), nI_s]
  | d + 1, f, b, G, hb, hG, hG2 => by
    obtain ⟨G', g1, g2, g3⟩ := bl_in hs hs' k33 t c hk hm h16 d f (b + 1) (vp_updL G (85 * s' + (5 * (k / 5 + k % 5 - m) + b)) (G (85 * s' + (5 * (k / 5 + k % 5 - m) + b)) + p_c2 c t.toInt64 k (5 * (k / 5 + k % 5 - m) + b))) (by omega) (fun j hj => by
      simp only [vp_updL]
      by_cases e : j = 5 * (k / 5 + k % 5 - m) + b
      · rw [if_pos (by omega), hG _ (by omega), e, if_neg (by omega), if_pos (by omega)]
        simp
      · rw [if_neg (by omega), hG j hj]
        congr 2
        rw [eq_iff_iff]
        omega) (fun i hi => by
      simp only [vp_updL]
      rw [if_neg (by omega)]
      exact hG2 i hi)
    refine ⟨G', g1, g2, ?_⟩
    rw [← g3, show d + 1 + 1 + f = (d + 1 + f) + 1 by omega]
    show fX9_blows_b84 _ _ _ _ _ _ _ _ _ _ _ _ = _
    unfold fX9_blows_b84
    rw [nI_mod (show k < 2 ^ 31 by omega) (show 5 < 2 ^ 31 by decide), if_neg (nI_nlt (by omega) (by omega)), q9_choices (by omega) (by omega), pk_sub (show b ≤ k % 5 by omega), q9_raised _ (by omega)]
    simp only [gM_5, Option.bind_some, e_on, nI_mul, nI_add]
    rw [show 85 * s' + 5 * (k / 5 + k % 5 - m) + b = 85 * s' + (5 * (k / 5 + k % 5 - m) + b) by omega, p_ldL pk_101 (by omega) (by decide), Option.bind_some, p_stL pk_101 (by omega) (by decide), Option.bind_some, va_up_up, va_up_s]
    unfold p_c2
    rw [show (5 * (k / 5 + k % 5 - m) + b) % 5 = b by omega]
theorem bl_out {s s' m : Nat} (hs : s < 40) (hs' : s' < 40) (hne : s ≠ s') (hm : m ≤ 16) (h0 : ∀ k, k < 85 → k / 5 + k % 5 < m → p_s9 L s k = 0) (t : Int32) : ∀ (d f k : Nat) (G : Nat → Int64), k + d = 85 → (∀ j, j < 85 → G (85 * s' + j) = p_bs (p_s9 L s) m t.toInt64 j k) → (∀ i, i < 85 * s' ∨ 85 * s' + 85 ≤ i → G i = L 101 i) →
    ∃ G', (∀ j, j < 85 → G' (85 * s' + j) = p_blw (p_s9 L s) m t.toInt64 j) ∧ (∀ i, i < 85 * s' ∨ 85 * s' + 85 ≤ i → G' i = L 101 i) ∧ fX9_Llows_L33 (d + 1 + f) 96 (nI s) (nI m) t (nI s') (nI k) (p_H K S I (va_up L 101 G) T Λ) = some (p_H K S I (va_up L 101 G') T Λ)
  | 0, f, k, G, hk, hG, hG2 => by
    refine ⟨G, fun j hj => ?_, hG2, ?_⟩
    · rw [hG j hj, show k = 85 by omega, p_bs_blw _ _ _ hj]
    · rw [show 0 + 1 + f = f + 1 by omega]
      show fX9_blows_b33 _ _ _ _ _ _ _ _ = _
      unfold fX9_blows_b33
      rw [if_pos (nI_le (by omega) (by omega))]
  | d + 1, f, k, G, hk, hG, hG2 => by
    have eG : G (85 * s + k) = p_s9 L s k := by
      unfold p_s9
      exact hG2 _ (by omega)
    have skip : (∀ j, j < 85 → p_bs (p_s9 L s) m t.toInt64 j (k + 1) = p_bs (p_s9 L s) m t.toInt64 j k) → ∃ G', (∀ j, j < 85 → G' (85 * s' + j) = p_blw (p_s9 L s) m t.toInt64 j) ∧ (∀ i, i < 85 * s' ∨ 85 * s' + 85 ≤ i → G' i = L 101 i) ∧ fX9_Llows_L33 (d + 1 + f) 96 (nI s) (nI m) t (nI s') (nI (k + 1)) (p_H K S I (va_up L 101 G) T Λ) = some (p_H K S I (va_up L 101 G') T Λ) := fun hz =>
      bl_out hs hs' hne hm h0 t d f (k + 1) G (by omega) (fun j hj => by rw [hG j hj, hz j hj]) hG2
    rw [show d + 1 + 1 + f = (d + 1 + f) + 1 by omega]
    show ∃ G', _ ∧ _ ∧ fX9_blows_b33 _ _ _ _ _ _ _ _ = _
    unfold fX9_blows_b33 fX9_blows_b145
    rw [if_neg (nI_ge (by omega) (by omega)), nI_mod (show k < 2 ^ 31 by omega) (show 5 < 2 ^ 31 by decide), nI_div (show k < 2 ^ 31 by omega) (show 5 < 2 ^ 31 by decide)]
    simp only [gM_5, Option.bind_some, e_on, nI_mul, nI_add, p_ldL pk_101 (show 85 * s + k < 3400 by omega) (by decide), va_up_s, eG]
    by_cases hc : p_s9 L s k = 0
    · rw [if_pos ((lg_cmp_eq _ _).mpr hc)]
      refine skip (fun j hj => ?_)
      rw [p_bs]
      have : p_c2 (p_s9 L s) t.toInt64 k j = 0 := by
        unfold p_c2
        rw [hc]
        grind
      rw [this]
      split
      · split <;> simp
      · simp
    · rw [if_neg (fun z => hc ((lg_cmp_eq _ _).mp z))]
      have hdm : m ≤ k / 5 + k % 5 := by
        rcases Nat.lt_or_ge (k / 5 + k % 5) m with z | z
        · exact absurd (h0 k (by omega) z) hc
        · exact z
      rw [pk_sub hdm]
      by_cases h16 : k / 5 + k % 5 - m ≤ 16
      · rw [if_neg (nI_nlt h16 (by omega))]
        obtain ⟨G1, g1, g2, g3⟩ := bl_in (S := S) (I := I) (T := T) (K := K) (Λ := Λ) hs hs' (fX9_Llows_L33 (d + 1 + f)) t (p_s9 L s) (show k < 85 by omega) hdm h16 (k % 5 + 1) (198 - k % 5) 0 G (by omega) (fun j hj => by
          rw [hG j hj, if_neg (by omega)]
          simp) hG2
        obtain ⟨G2, k1, k2, k3⟩ := bl_out hs hs' hne hm h0 t d f (k + 1) G1 (by omega) g1 g2
        refine ⟨G2, k1, k2, ?_⟩
        rw [← k3, ← g3, show k % 5 + 1 + 1 + (198 - k % 5) = 200 by omega]
      · rw [if_pos (nI_lt (by omega) (by omega))]
        refine skip (fun j hj => ?_)
        rw [p_bs, if_neg (by omega)]
        simp
theorem bl_zero {s s' m : Nat} (hs : s < 40) (hs' : s' < 40) (hne : s ≠ s') (hm : m ≤ 16) (h0 : ∀ k, k < 85 → k / 5 + k % 5 < m → p_s9 L s k = 0) (t : Int32) : ∀ (d f k : Nat) (G : Nat → Int64), k + d = 85 → (∀ j, j < k → G (85 * s' + j) = 0) → (∀ i, i < 85 * s' ∨ 85 * s' + 85 ≤ i → G i = L 101 i) →
    ∃ G', (∀ j, j < 85 → G' (85 * s' + j) = p_blw (p_s9 L s) m t.toInt64 j) ∧ (∀ i, i < 85 * s' ∨ 85 * s' + 85 ≤ i → G' i = L 101 i) ∧ fX9_Llows_L3 (d + 1 + f) 96 (nI s) (nI m) t (nI s') (nI k) (p_H K S I (va_up L 101 G) T Λ) = some (p_H K S I (va_up L 101 G') T Λ)
  | 0, f, k, G, hk, hG, hG2 => by
    obtain ⟨G1, g1, g2, g3⟩ := bl_out (S := S) (I := I) (T := T) (K := K) (Λ := Λ) hs hs' hne hm h0 t 85 114 0 G (by omega) (fun j hj => hG j (by omega)) hG2
    refine ⟨G1, g1, g2, ?_⟩
    rw [show 0 + 1 + f = f + 1 by omega]
    show fX9_blows_b3 _ _ _ _ _ _ _ _ = _
    unfold fX9_blows_b3
    rw [if_pos (nI_le (by omega) (by omega))]
    exact g3
  | d + 1, f, k, G, hk, hG, hG2 => by
    obtain ⟨G1, g1, g2, g3⟩ := bl_zero hs hs' hne hm h0 t d f (k + 1) (vp_updL G (85 * s' + k) 0) (by omega) (fun j hj => by
      simp only [vp_updL]
      by_cases e : j = k
      · rw [if_pos (by omega)]
      · rw [if_neg (by omega)]; exact hG j (by omega)) (fun i hi => by
      simp only [vp_updL]
      rw [if_neg (by omega)]
      exact hG2 i hi)
    refine ⟨G1, g1, g2, ?_⟩
    rw [← g3, show d + 1 + 1 + f = (d + 1 + f) + 1 by omega]
    show fX9_blows_b3 _ _ _ _ _ _ _ _ = _
    unfold fX9_blows_b3
    simp only [gM_5, Option.bind_some, e_on, nI_mul, nI_add, p_stL pk_101 (show 85 * s' + k < 3400 by omega) (by decide), va_up_up, va_up_s]
    rw [if_neg (nI_ge (by omega) (by omega))]
theorem q9_blows {s s' m : Nat} (hs : s < 40) (hs' : s' < 40) (hne : s ≠ s') (hm : m ≤ 16) (h0 : ∀ k, k < 85 → k / 5 + k % 5 < m → p_s9 L s k = 0) (t : Int32) : ∃ G, (∀ j, j < 85 → G (85 * s' + j) = p_blw (p_s9 L s) m t.toInt64 j) ∧ (∀ i, i < 85 * s' ∨ 85 * s' + 85 ≤ i → G i = L 101 i) ∧ fX9_blows 96 (nI s) (nI m) t (nI s') (p_H K S I L T Λ) = some (p_H K S I (va_up L 101 G) T Λ) := by
  unfold fX9_blows
  rw [gM_o, Option.bind_some]
  have := bl_zero (S := S) (I := I) (T := T) (K := K) (Λ := Λ) hs hs' hne hm h0 t 85 114 0 (L 101) (by omega) (fun j hj => by omega) (fun _ _ => rfl)
  rw [p_up_id] at this
  exact this
end BLOW9
