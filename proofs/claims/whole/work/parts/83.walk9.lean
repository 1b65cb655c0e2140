def p_io (t : Nat → Nat → Int32) (x : Nat) : Int32 := if p_ft t x < nI 1 then nI 0 else nI 1
section WALK9C
variable {K : Nat} {T : Nat → Nat → Option Nat} {Λ : Nat → p_Lw}
theorem both92_go {t1 t2 : Nat → Nat → Int32} : ∀ (d f k : Nat) (S I : Nat → Nat → Int32) (L : Nat → Nat → Int64), k + d = 121 → (∀ x, x < 25 → I 100 x = p_t25 t2 x) → (∀ x, x < 121 → I 104 x = p_io t1 x) →
    ∃ L2, fX9_Loth_L91 (d + 1 + f) 96 (nI (p_cb (p_ft t2) (p_ft t1) k)) (nI k) (p_H K S I L T Λ) = some (nI (p_cb (p_ft t2) (p_ft t1) 121), (p_H K S I (L2) T Λ)) ∧ p_fr [101] L L2
  | 0, f, k, S, I, L, hk, ht, ho => by
    refine ⟨L, ?_, p_fr.rf _ _⟩
    rw [show 0 + 1 + f = f + 1 by omega]
    show fX9_both_b91 _ _ _ _ _ = _
    unfold fX9_both_b91
    rw [if_pos (nI_le (by omega) (by omega)), show k = 121 by omega]
  | d + 1, f, k, S, I, L, hk, ht, ho => by
    obtain ⟨G, g1, g2, g3⟩ := q9_place (S := S) (L := L) (T := T) (K := K) (Λ := Λ) ht k
    have h17 := p_tp_le t2 k
    have fL : p_fr [101] L (va_up L 101 G) := (p_fr.rf _ _).up (k := 101) (by simp) _
    obtain ⟨L2, k1, k2⟩ := both92_go (t1 := t1) (t2 := t2) d f (k + 1) S I (va_up L 101 G) (by omega) ht ho
    rw [p_cb] at k1
    rw [show d + 1 + 1 + f = (d + 1 + f) + 1 by omega]
    refine ⟨L2, ?_, fL.tr k2⟩
    show fX9_both_b91 _ _ _ _ _ = _
    unfold fX9_both_b91 fX9_both_b140 fX9_both_b141
    rw [if_neg (nI_ge (by omega) (by decide)), nI_mod (show k < 2 ^ 31 by omega) (show 11 < 2 ^ 31 by decide), nI_div (show k < 2 ^ 31 by omega) (show 11 < 2 ^ 31 by decide), g1, Option.bind_some]
    simp only [gM_11, Option.bind_some, e_on, p_ldI pk_104 (show k < 121 by omega) (by decide), ho k (show k < 121 by omega), g2]
    rw [nI_s, nI_s, nI_add, Nat.add_zero]
    unfold p_io
    by_cases h1 : p_ft t1 k < nI 1
    · rw [if_pos (Or.inr h1)] at k1
      rw [if_pos (show (if p_ft t1 k < nI 1 then nI 0 else nI 1) = 0 by rw [if_pos h1]; rfl)]
      exact k1
    · rw [if_neg (show ¬ (if p_ft t1 k < nI 1 then nI 0 else nI 1) = 0 by rw [if_neg h1]; decide)]
      by_cases h2 : p_ft t2 k < nI 1
      · rw [if_pos (Or.inl h2)] at k1
        rw [if_pos (show p_ft t2 k ≤ 0 from (p_tp_0 h17).mpr h2)]
        exact k1
      · rw [if_neg (fun z => z.elim h2 h1)] at k1
        rw [if_neg (show ¬ p_ft t2 k ≤ 0 from fun z => h2 ((p_tp_0 h17).mp z))]
        exact k1
theorem both91_go {t1 : Nat → Nat → Int32} (l2 : Int32) : ∀ (d f k : Nat) (S I : Nat → Nat → Int32) (L : Nat → Nat → Int64), k + d = 121 → (∀ x, x < 25 → I 100 x = p_t25 t1 x) → (∀ x, x < k → I 104 x = p_io t1 x) →
    ∃ I2 L2, fX9_Loth_L28 (d + 1 + f) 96 l2 (nI k) (p_H K S I L T Λ) = (fX9_findTerms 96 l2 (p_H K S (I2) (L2) T Λ)).bind (fun p1 => fX9_Loth_L91 200 96 (nI 0) (nI 0) p1.2) ∧ p_fr [104] I I2 ∧ p_fr [101] L L2 ∧ ∀ x, x < 121 → I2 104 x = p_io t1 x
  | 0, f, k, S, I, L, hk, ht, ho => by
    refine ⟨I, L, ?_, p_fr.rf _ _, p_fr.rf _ _, fun x hx => ho x (by omega)⟩
    rw [show 0 + 1 + f = f + 1 by omega]
    show fX9_both_b28 _ _ _ _ _ = _
    unfold fX9_both_b28
    rw [if_pos (nI_le (by omega) (by omega))]
  | d + 1, f, k, S, I, L, hk, ht, ho => by
    obtain ⟨G, g1, g2, g3⟩ := q9_place (S := S) (L := L) (T := T) (K := K) (Λ := Λ) ht k
    have h17 := p_tp_le t1 k
    have fL : p_fr [101] L (va_up L 101 G) := (p_fr.rf _ _).up (k := 101) (by simp) _
    obtain ⟨I2, L2, k1, k2, k3, k4⟩ := both91_go (t1 := t1) l2 d f (k + 1) S (va_up I 104 (upd (I 104) k (p_io t1 k))) (va_up L 101 G) (by omega) (by rw [va_up_n (by decide)]; exact ht) (fun x hx => by
      rw [va_up_s]
      simp only [upd]
      by_cases e : x = k
      · rw [if_pos e, e]
      · rw [if_neg e]; exact ho x (by omega))
    refine ⟨I2, L2, ?_, ((p_fr.rf _ _).up (k := 104) (by simp) _).tr k2, fL.tr k3, k4⟩
    rw [← k1, show d + 1 + 1 + f = (d + 1 + f) + 1 by omega]
    show fX9_both_b28 _ _ _ _ _ = _
    unfold fX9_both_b28 fX9_both_b72x1
    rw [if_neg (nI_ge (by omega) (by decide)), nI_mod (show k < 2 ^ 31 by omega) (show 11 < 2 ^ 31 by decide), nI_div (show k < 2 ^ 31 by omega) (show 11 < 2 ^ 31 by decide), g1, Option.bind_some]
    simp only [gM_11, Option.bind_some, e_on, g2, p_stI pk_104 (show k < 121 by omega) (by decide), nI_s]
    unfold p_io
    by_cases h1 : p_ft t1 k < nI 1
    · rw [if_pos (show p_ft t1 k ≤ 0 from (p_tp_0 h17).mpr h1), if_pos h1]
      rfl
    · rw [if_neg (show ¬ p_ft t1 k ≤ 0 from fun z => h1 ((p_tp_0 h17).mp z)), if_neg h1]
      rfl
theorem ck_stuck {t : Nat → Nat → Int32} {m N : Nat} (hm : m ≤ 60) (hN : N ≤ 30) : ∀ (d f r du : Nat) (S I : Nat → Nat → Int32) (L : Nat → Nat → Int64), d ≤ 121 → r < du → du + 2 * d ≤ 400 → (∀ x, x < 25 → I 100 x = p_t25 t x) →
    ∃ L2, fX9_check_L90 (d + 1 + f) 96 (nI N) (nI m) (nI du) (nI r) (nI (121 - d)) (p_H K S I L T Λ) = (fX9_copyAll 99 97 (p_H K S I (L2) T Λ)).bind (fun h7 => some (nI (1 + r), h7)) ∧ p_fr [101] L L2
  | 0, f, r, du, S, I, L, hd, hr, hdu, ht => by
    refine ⟨L, ?_, p_fr.rf _ _⟩
    rw [show 0 + 1 + f = f + 1 by omega]
    show fX9_check_b90 _ _ _ _ _ _ _ _ = _
    unfold fX9_check_b90 fX9_check_b228
    simp only [gM_2, gM_0, Option.bind_some, e_on]
    rw [if_pos (nI_le (by omega) (by omega)), nI_add]
    congr 1
    funext h7
    split
    · rw [if_neg (fun z => absurd ((nI_eq (by omega) (by omega)).mp z) (by omega))]
    · rfl
  | d + 1, f, r, du, S, I, L, hd, hr, hdu, ht => by
    rw [show d + 1 + 1 + f = (d + 1 + f) + 1 by omega]
    show ∃ L2, fX9_check_b90 _ _ _ _ _ _ _ _ = _ ∧ _
    unfold fX9_check_b90 fX9_check_b228 fX9_check_b222 fX9_check_b178 fX9_check_b179 fX9_check_b215 fX9_check_b216 fX9_check_b222
    rw [if_neg (nI_ge (by omega) (by omega)), nI_mul]
    by_cases h2 : 2 * N ≤ du
    · refine ⟨L, ?_, p_fr.rf _ _⟩
      rw [if_pos (nI_le h2 (by omega)), nI_add]
      simp only [gM_2, gM_0, Option.bind_some, e_on]
      congr 1
      funext h7
      split
      · rw [if_neg (fun z => absurd ((nI_eq (by omega) (by omega)).mp z) (by omega))]
      · rfl
    · obtain ⟨G, g1, g2, g3⟩ := q9_place (S := S) (L := L) (T := T) (K := K) (Λ := Λ) ht (121 - (d + 1))
      have fL : p_fr [101] L (va_up L 101 G) := (p_fr.rf _ _).up (k := 101) (by simp) _
      rw [if_neg (nI_ge (by omega) (by omega)), nI_mod (show 121 - (d + 1) < 2 ^ 31 by omega) (show 11 < 2 ^ 31 by decide), nI_div (show 121 - (d + 1) < 2 ^ 31 by omega) (show 11 < 2 ^ 31 by decide), g1, Option.bind_some, g2, Option.bind_some]
      simp only [nI_add, Nat.add_zero]
      rw [show 121 - (d + 1) + 1 = 121 - d by omega, if_neg (fun z => absurd ((nI_eq (a := r) (b := du) (by omega) (by omega)).mp z) (by omega)), if_neg (fun z => absurd ((nI_eq (a := r) (b := du + 1) (by omega) (by omega)).mp z) (by omega))]
      by_cases h0 : p_ft t (121 - (d + 1)) ≤ 0
      · rw [if_pos h0]
        obtain ⟨L2, k1, k2⟩ := ck_stuck (t := t) hm hN d f r du S I (va_up L 101 G) (by omega) hr (by omega) ht
        exact ⟨L2, k1, fL.tr k2⟩
      · rw [if_neg h0]
        obtain ⟨L2, k1, k2⟩ := ck_stuck (t := t) hm hN d f r (du + 2) S I (va_up L 101 G) (by omega) (by omega) (by omega) ht
        exact ⟨L2, k1, fL.tr k2⟩
end WALK9C
