section CHECK9
variable {K : Nat} {T : Nat → Nat → Option Nat} {Λ : Nat → p_Lw}
theorem ck_go {t : Nat → Nat → Int32} {m N : Nat} (hm : m ≤ 60) (hN : N ≤ 30) : ∀ (d f e : Nat) (S I : Nat → Nat → Int32) (L : Nat → Nat → Int64), d ≤ 121 → e + d ≤ 130 → (∀ x, x < 25 → I 100 x = p_t25 t x) →
    ∃ L2, fX9_check_L90 (d + 1 + f) 96 (nI N) (nI m) (nI (2 * e)) (nI (2 * e)) (nI (121 - d)) (p_H K S I L T Λ) = (fX9_copyAll 99 97 (p_H K S I (L2) T Λ)).bind (fun h7 => some (nI (p_ctf (p_ft t) (I 121) m (nI N) d (2 * e) e), h7)) ∧ p_fr [101] L L2
  | 0, f, e, S, I, L, hd, he, ht => by
    refine ⟨L, ?_, p_fr.rf _ _⟩
    rw [show 0 + 1 + f = f + 1 by omega]
    show fX9_check_b90 _ _ _ _ _ _ _ _ = _
    unfold fX9_check_b90 fX9_check_b228
    simp only [gM_2, gM_0, Option.bind_some, e_on]
    rw [if_pos (nI_le (by omega) (by omega)), nI_add]
    congr 1
    funext h7
    rw [p_ctf]
    by_cases h : 2 * e = m
    · rw [if_pos (by rw [h]), if_pos True.intro, if_pos h]
    · rw [if_neg (fun z => h ((nI_eq (by omega) (by omega)).mp z)), if_neg h]
  | d + 1, f, e, S, I, L, hd, he, ht => by
    have e120 : 121 - (d + 1) = 120 - d := by omega
    rw [show d + 1 + 1 + f = (d + 1 + f) + 1 by omega]
    show ∃ L2, fX9_check_b90 _ _ _ _ _ _ _ _ = _ ∧ _
    unfold fX9_check_b90
    rw [if_neg (nI_ge (by omega) (by omega)), nI_mul, p_ctf]
    by_cases h2 : N ≤ e
    · refine ⟨L, ?_, p_fr.rf _ _⟩
      unfold fX9_check_b228
      rw [if_pos (nI_le (by omega) (by omega)), if_pos (nI_le h2 (by omega)), nI_add]
      simp only [gM_2, gM_0, Option.bind_some, e_on]
      congr 1
      funext h7
      by_cases h : 2 * e = m
      · rw [if_pos (by rw [h]), if_pos True.intro, if_pos h]
      · rw [if_neg (fun z => h ((nI_eq (by omega) (by omega)).mp z)), if_neg h]
    · obtain ⟨G, g1, g2, g3⟩ := q9_place (S := S) (L := L) (T := T) (K := K) (Λ := Λ) ht (121 - (d + 1))
      have fL : p_fr [101] L (va_up L 101 G) := (p_fr.rf _ _).up (k := 101) (by simp) _
      have h17 := p_tp_le t (120 - d)
      have stuck : ∀ r, r < 2 * e + 2 → ∃ L2, fX9_check_L90 (d + 1 + f) 96 (nI N) (nI m) (nI (2 * e + 2)) (nI r) (nI (121 - d)) (p_H K S I (va_up L 101 G) T Λ) = (fX9_copyAll 99 97 (p_H K S I (L2) T Λ)).bind (fun h7 => some (nI (1 + r), h7)) ∧ p_fr [101] L L2 := fun r hr => by
        obtain ⟨L2, k1, k2⟩ := ck_stuck (S := S) (I := I) (K := K) (T := T) (Λ := Λ) hm hN d f r (2 * e + 2) (va_up L 101 G) (by omega) hr (by omega) ht
        exact ⟨L2, k1, fL.tr k2⟩
      rw [if_neg (nI_ge (by omega) (by omega)), if_neg (nI_ge (by omega) (by omega)), nI_mod (show 121 - (d + 1) < 2 ^ 31 by omega) (show 11 < 2 ^ 31 by decide), nI_div (show 121 - (d + 1) < 2 ^ 31 by omega) (show 11 < 2 ^ 31 by decide), g1, Option.bind_some, g2, Option.bind_some, p_pl_9, e120]
      unfold fX9_check_b222 fX9_check_b178 fX9_check_b179 fX9_check_b215 fX9_check_b216 fX9_check_b222
      simp only [nI_add, Nat.add_zero, gM_38, Option.bind_some, e_on]
      rw [show 120 - d + 1 = 121 - d by omega]
      by_cases h0 : p_ft t (120 - d) < nI 1
      · rw [if_pos (show p_ft t (120 - d) ≤ 0 from (p_tp_0 h17).mpr h0), if_pos h0]
        obtain ⟨L2, k1, k2⟩ := ck_go (t := t) hm hN d f e S I (va_up L 101 G) (by omega) (by omega) ht
        exact ⟨L2, k1, fL.tr k2⟩
      · rw [if_neg (show ¬ p_ft t (120 - d) ≤ 0 from fun z => h0 ((p_tp_0 h17).mp z)), if_neg h0]
        have ne1 : ¬ nI (2 * e) = nI (2 * e + 1) := fun z => absurd ((nI_eq (by omega) (by omega)).mp z) (by omega)
        simp only [if_true, ne1, if_false]
        by_cases h1 : 2 * e < m
        · rw [if_neg (nI_ge h1 (by omega)), p_ldI pk_121 (by omega) (by decide), Option.bind_some]
          by_cases h3 : I 121 (2 * e) = p_pl (120 - d)
          · rw [if_pos h3, if_neg (show ¬ ¬ (2 * e < m ∧ I 121 (2 * e) = p_pl (120 - d)) from fun z => z ⟨h1, h3⟩)]
            by_cases h4 : 2 * e + 1 < m
            · rw [if_neg (nI_ge h4 (by omega)), p_ldI pk_121 (by omega) (by decide), Option.bind_some]
              by_cases h5 : I 121 (2 * e + 1) = p_ft t (120 - d)
              · rw [if_pos h5, if_neg (show ¬ ¬ (2 * e + 1 < m ∧ I 121 (2 * e + 1) = p_ft t (120 - d)) from fun z => z ⟨h4, h5⟩)]
                obtain ⟨L2, k1, k2⟩ := ck_go (t := t) hm hN d f (e + 1) S I (va_up L 101 G) (by omega) (by omega) ht
                exact ⟨L2, k1, fL.tr k2⟩
              · rw [if_neg h5, if_pos (show ¬ (2 * e + 1 < m ∧ I 121 (2 * e + 1) = p_ft t (120 - d)) from fun z => h5 z.2)]
                exact stuck (2 * e + 1) (by omega)
            · rw [if_pos (nI_le (by omega) (by omega)), if_pos (show ¬ (2 * e + 1 < m ∧ I 121 (2 * e + 1) = p_ft t (120 - d)) from fun z => h4 z.1)]
              exact stuck (2 * e + 1) (by omega)
          · rw [if_neg h3, if_pos (show ¬ (2 * e < m ∧ I 121 (2 * e) = p_pl (120 - d)) from fun z => h3 z.2)]
            exact stuck (2 * e) (by omega)
        · rw [if_pos (nI_le (by omega) (by omega)), if_pos (show ¬ (2 * e < m ∧ I 121 (2 * e) = p_pl (120 - d)) from fun z => h1 z.1)]
          exact stuck (2 * e) (by omega)
theorem cpa_go {a b : Nat} (ha : p_ia 0 1471 a) (hb : p_ia 0 1471 b) (hab : a ≠ b) : ∀ (d f k : Nat) (S I : Nat → Nat → Int32) (L : Nat → Nat → Int64), k + d = 1471 → (∀ x, x < k → I b x = I a x) → ∃ A, (∀ x, x < 1471 → A x = I a x) ∧ fX9_copyAll_L2 (d + 1 + f) a b (nI k) (p_H K S I L T Λ) = some (p_H K S (va_up I b A) L T Λ)
  | 0, f, k, S, I, L, hk, h => by
    refine ⟨I b, fun x hx => h x (by omega), ?_⟩
    rw [p_up_id, show 0 + 1 + f = f + 1 by omega]
    show fX9_copyAll_b2 _ _ _ _ _ = _
    unfold fX9_copyAll_b2
    rw [if_pos (nI_le (by omega) (by omega))]
  | d + 1, f, k, S, I, L, hk, h => by
    obtain ⟨A, g1, g2⟩ := cpa_go ha hb hab d f (k + 1) S (va_up I b (upd (I b) k (I a k))) L (by omega) (fun x hx => by
      rw [va_up_s, va_up_n hab]
      simp only [upd]
      by_cases e : x = k
      · rw [if_pos e, e]
      · rw [if_neg e]; exact h x (by omega))
    rw [va_up_n hab] at g1
    rw [va_up_up] at g2
    refine ⟨A, g1, ?_⟩
    rw [← g2, show d + 1 + 1 + f = (d + 1 + f) + 1 by omega]
    show fX9_copyAll_b2 _ _ _ _ _ = _
    unfold fX9_copyAll_b2
    rw [if_neg (nI_ge (by omega) (by omega)), p_ldI ha (by omega) (by decide), Option.bind_some, p_stI hb (by omega) (by decide), Option.bind_some, nI_s]
theorem q9_copyAll {a b : Nat} (ha : p_ia 0 1471 a) (hb : p_ia 0 1471 b) (hab : a ≠ b) {S I : Nat → Nat → Int32} {L : Nat → Nat → Int64} : ∃ A, (∀ x, x < 1471 → A x = I a x) ∧ fX9_copyAll a b (p_H K S I L T Λ) = some (p_H K S (va_up I b A) L T Λ) :=
  cpa_go ha hb hab 1471 128 0 S I L (by omega) (fun x hx => by omega)
end CHECK9
