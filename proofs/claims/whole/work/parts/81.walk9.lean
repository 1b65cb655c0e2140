def p_ft (t : Nat → Nat → Int32) (k : Nat) : Int32 := nI (p_tp t k)
theorem p_tp_0 {m : Nat} (h : m ≤ 17) : (nI m ≤ 0) ↔ nI m < nI 1 := by
  constructor
  · intro z
    have : m = 0 := by
      rcases Nat.eq_zero_or_pos m with e | e
      · exact e
      · exact absurd z (nI_nle e (by omega))
    rw [this]; decide
  · intro z
    have : m = 0 := by
      rcases Nat.eq_zero_or_pos m with e | e
      · exact e
      · exact absurd z (nI_nlt e (by omega))
    rw [this]; decide
section WALK9
variable {K : Nat} {T : Nat → Nat → Option Nat} {Λ : Nat → p_Lw}
theorem q9_place {t : Nat → Nat → Int32} {S I : Nat → Nat → Int32} {L : Nat → Nat → Int64} (ht : ∀ x, x < 25 → I 100 x = p_t25 t x) (k : Nat) : ∃ G, fX9_findShape 96 (nI (k / 11) - nI 5) (nI (k % 11) - nI 5) (p_H K S I L T Λ) = some (p_H K S I (va_up L 101 G) T Λ) ∧ (∀ S I : Nat → Nat → Int32, fX9_timesOf 96 (nI 0) (p_H K S I (va_up L 101 G) T Λ) = some (p_ft t k)) ∧ ∀ j, j < 85 → p_s9 (va_up L 101 G) 0 j = p_shp t (p_px k) (p_py k) j := by
  obtain ⟨G, g1, g2, g3⟩ := q9_findShape (S := S) (L := L) (T := T) (K := K) (Λ := Λ) ht (nI (k / 11) - nI 5) (nI (k % 11) - nI 5)
  have h5 : ∀ j, j < 85 → p_s9 (va_up L 101 G) 0 j = p_shp t (p_px k) (p_py k) j := fun j hj => by
    unfold p_s9
    rw [va_up_s, show 85 * 0 + j = j by omega]
    exact g1 j hj
  refine ⟨G, g3, fun S I => ?_, h5⟩
  have hsu : p_su (fun k => (va_up L 101 G) 101 (85 * 0 + k)) := fun j hj hl => (h5 j hj).trans (p_shp_sup t _ _ (by omega))
  rw [q9_times (by decide) hsu]
  exact congrArg (fun z => some (nI z)) (p_tm_eq h5)
theorem all9_go {t : Nat → Nat → Int32} {wh : Nat} (hwh : wh < 2) (l4 : Int32) : ∀ (d f k : Nat) (S I : Nat → Nat → Int32) (L : Nat → Nat → Int64), k + d = 121 → (∀ x, x < 25 → I 100 x = p_t25 t x) →
    ∃ I2 L2, fX9_all_L39 (d + 1 + f) 96 (nI wh) l4 (nI (p_cw (p_ft t) (nI (wh + 1)) k)) (nI k) (p_H K S I L T Λ) = some (nI (p_cw (p_ft t) (nI (wh + 1)) 121), (p_H K S (I2) (L2) T Λ)) ∧ p_fr [111, 112] I I2 ∧ p_fr [101] L L2
  | 0, f, k, S, I, L, hk, ht => by
    refine ⟨I, L, ?_, p_fr.rf _ _, p_fr.rf _ _⟩
    rw [show 0 + 1 + f = f + 1 by omega]
    show fX9_all_b39 _ _ _ _ _ _ _ = _
    unfold fX9_all_b39
    rw [if_pos (nI_le (by omega) (by omega)), show k = 121 by omega]
  | d + 1, f, k, S, I, L, hk, ht => by
    obtain ⟨G, g1, g2, g3⟩ := q9_place (S := S) (L := L) (T := T) (K := K) (Λ := Λ) ht k
    have h17 := p_tp_le t k
    rw [show d + 1 + 1 + f = (d + 1 + f) + 1 by omega]
    show ∃ I2 L2, fX9_all_b39 _ _ _ _ _ _ _ = _ ∧ _
    unfold fX9_all_b39 fX9_all_b147 fX9_all_b162
    rw [if_neg (nI_ge (by omega) (by decide)), nI_mod (show k < 2 ^ 31 by omega) (show 11 < 2 ^ 31 by decide), nI_div (show k < 2 ^ 31 by omega) (show 11 < 2 ^ 31 by decide)]
    simp only [gM_29, Option.bind_some, e_on, g1, g2, p_stI pk_112 (show 0 < 4 by decide) (by decide), p_stI pk_112 (show 1 < 4 by decide) (by decide), p_stI pk_112 (show 2 < 4 by decide) (by decide)]
    rw [va_up_up, va_up_s, va_up_up, va_up_s, if_neg (nI_ge (by omega) (by decide)), nI_add, nI_add, nI_s, Nat.add_zero]
    generalize upd (upd (upd (I 112) 0 (nI (k / 11) - nI 5)) 1 (nI (k % 11) - nI 5)) 2 (p_ft t k) = A
    obtain ⟨I2, L2, k1, k2, k3⟩ := all9_go (t := t) hwh l4 d f (k + 1) S (va_up I 112 A) (va_up L 101 G) (by omega) (by rw [va_up_n (by decide)]; exact ht)
    refine ⟨I2, L2, ?_, ((p_fr.rf _ _).up (k := 112) (by simp) _).tr k2, ((p_fr.rf _ _).up (k := 101) (by simp) _).tr k3⟩
    rw [p_cw] at k1
    unfold p_ft at k1 ⊢
    by_cases h1 : p_tp t k < wh + 1
    · rw [if_pos (nI_lt h1 (by omega))] at k1
      rw [if_pos (nI_le (by omega) (by omega))]
      by_cases h0 : nI (p_tp t k) ≤ 0
      · rw [if_pos h0]; exact k1
      · rw [if_neg h0]; exact k1
    · rw [if_neg (nI_nlt (by omega) (by omega))] at k1
      rw [if_neg (nI_ge (by omega) (by omega)), if_neg (nI_nle (by omega) (by omega))]
      exact k1
theorem all92_go {t : Nat → Nat → Int32} {n : Nat} {lw : Nat → Nat} : ∀ (d f k : Nat) (S I : Nat → Nat → Int32) (L : Nat → Nat → Int64), k + d = 121 → p_w9 I Λ lw n → (∀ x, x < 25 → I 100 x = p_t25 t x) →
    ∃ I2 L2, fX9_all_L39 (d + 1 + f) 96 (nI 2) (p_last (p_keys Λ lw) (nI 2) n) (p_ms (p_mg Λ lw n) (p_ft t) k) (nI k) (p_H K S I L T Λ) = some (p_ms (p_mg Λ lw n) (p_ft t) 121, (p_H K S (I2) (L2) T Λ)) ∧ p_fr [111, 112] I I2 ∧ p_fr [101] L L2
  | 0, f, k, S, I, L, hk, hw, ht => by
    refine ⟨I, L, ?_, p_fr.rf _ _, p_fr.rf _ _⟩
    rw [show 0 + 1 + f = f + 1 by omega]
    show fX9_all_b39 _ _ _ _ _ _ _ = _
    unfold fX9_all_b39
    rw [if_pos (nI_le (by omega) (by omega)), show k = 121 by omega]
  | d + 1, f, k, S, I, L, hk, hw, ht => by
    obtain ⟨G, g1, g2, g3⟩ := q9_place (S := S) (L := L) (T := T) (K := K) (Λ := Λ) ht k
    have h17 := p_tp_le t k
    rw [show d + 1 + 1 + f = (d + 1 + f) + 1 by omega]
    show ∃ I2 L2, fX9_all_b39 _ _ _ _ _ _ _ = _ ∧ _
    unfold fX9_all_b39 fX9_all_b147 fX9_all_b162
    rw [if_neg (nI_ge (by omega) (by decide)), nI_mod (show k < 2 ^ 31 by omega) (show 11 < 2 ^ 31 by decide), nI_div (show k < 2 ^ 31 by omega) (show 11 < 2 ^ 31 by decide)]
    simp only [gM_29, Option.bind_some, e_on, g1, g2, p_stI pk_112 (show 0 < 4 by decide) (by decide), p_stI pk_112 (show 1 < 4 by decide) (by decide), p_stI pk_112 (show 2 < 4 by decide) (by decide)]
    rw [va_up_up, va_up_s, va_up_up, va_up_s, if_pos (nI_le (Nat.le_refl 2) (by decide)), nI_s]
    generalize hA : upd (upd (upd (I 112) 0 (nI (k / 11) - nI 5)) 1 (nI (k % 11) - nI 5)) 2 (p_ft t k) = A
    have es : p_ms (p_mg Λ lw n) (p_ft t) (k + 1) = if p_ft t k < nI 1 then p_ms (p_mg Λ lw n) (p_ft t) k else p_ms (p_mg Λ lw n) (p_ft t) k + p_held (p_mg Λ lw n (nI (k / 11) - nI 5) (nI (k % 11) - nI 5) (p_ft t k)) := rfl
    have h9 := hw.fr (I' := va_up I 112 A) (va_up_n (by decide))
    have f112 : p_fr [111, 112] I (va_up I 112 A) := (p_fr.rf _ _).up (k := 112) (by simp) _
    have fL : p_fr [101] L (va_up L 101 G) := (p_fr.rf _ _).up (k := 101) (by simp) _
    have ih := fun (I' : Nat → Nat → Int32) (hf : p_fr [111, 112] I I') => all92_go (t := t) (n := n) (lw := lw) d f (k + 1) S I' (va_up L 101 G) (by omega) (hw.fr (hf 97 (by decide))) (by rw [hf 100 (by decide)]; exact ht)
    generalize p_ms (p_mg Λ lw n) (p_ft t) 121 = tot at *
    simp only [es] at ih
    have fin : ∀ (I' : Nat → Nat → Int32) (own : Int32), p_fr [111, 112] I I' → (¬ p_ft t k < nI 1 → own = p_held (p_mg Λ lw n (nI (k / 11) - nI 5) (nI (k % 11) - nI 5) (p_ft t k))) → ∃ I2 L2, (if p_ft t k ≤ 0 then fX9_all_L39 (d + 1 + f) 96 (nI 2) (p_last (p_keys Λ lw) (nI 2) n) (p_ms (p_mg Λ lw n) (p_ft t) k + nI 0) (nI (k + 1)) (p_H K S (I') (va_up L 101 G) T Λ) else fX9_all_L39 (d + 1 + f) 96 (nI 2) (p_last (p_keys Λ lw) (nI 2) n) (p_ms (p_mg Λ lw n) (p_ft t) k + own) (nI (k + 1)) (p_H K S (I') (va_up L 101 G) T Λ)) = some (tot, (p_H K S (I2) (L2) T Λ)) ∧ p_fr [111, 112] I I2 ∧ p_fr [101] L L2 := by
      intro I' own hf ho
      obtain ⟨I2, L2, k1, k2, k3⟩ := ih I' hf
      refine ⟨I2, L2, ?_, hf.tr k2, fL.tr k3⟩
      by_cases h0 : p_ft t k < nI 1
      · rw [if_pos h0] at k1
        rw [if_pos (show p_ft t k ≤ 0 from (p_tp_0 h17).mpr h0), nI_0, Int32.add_zero]
        exact k1
      · rw [if_neg h0] at k1
        rw [if_neg (show ¬ p_ft t k ≤ 0 from fun z => h0 ((p_tp_0 h17).mp z)), ho h0]
        exact k1
    rcases q9_lg (S := S) (L := va_up L 101 G) (T := T) (K := K) h9 (show 2 ≤ 2 by decide) with ⟨h1, h2⟩ | ⟨tt, h1, h2, h3, h4⟩
    · rw [h1, if_neg (by decide)]
      rw [h1] at fin
      refine fin _ _ f112 (fun h0 => ?_)
      unfold p_mg p_lg
      rw [h1, if_pos rfl]
      unfold p_ft
      refine (p_held_id ⟨?_, ?_⟩).symm <;> rw [nI_toInt (by omega)] <;> omega
    · rw [h2, if_pos (nI_pos' (by have := hw.1; omega))]
      rw [h2] at fin
      obtain ⟨st', hg⟩ := q9_works (S := S) (I := va_up I 112 A) (L := va_up L 101 G) (T := T) (K := K) (Λ := Λ) (show tt < 14 by have := hw.1; omega) (h9.2.2.1 tt h1) (h9.2.2.2 tt h1)
      rw [hg, Option.bind_some, q9_within, Option.bind_some, va_up_s]
      refine fin _ _ (f112.up (k := 111) (by simp) st') (fun h0 => ?_)
      unfold p_mg p_lg
      rw [h2, if_neg (nI_m1 (by have := hw.1; omega)), nI_clamp (by have := hw.1; omega), ← hA]
      rfl
end WALK9
