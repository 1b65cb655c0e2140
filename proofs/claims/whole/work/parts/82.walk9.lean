section WALK9B
variable {K : Nat} {T : Nat → Nat → Option Nat} {Λ : Nat → p_Lw}
theorem m1_add (a : Nat) : (nI a - nI 1) + nI 1 = nI a := by
  generalize nI a = x
  generalize nI 1 = y
  grind
theorem p_pl_9 (k : Nat) : nI 100 * nI (k / 11) + nI (k % 11) = p_pl k := by
  unfold p_pl
  rw [nI_mul, nI_add, Nat.mul_comm]
theorem on9_go {t : Nat → Nat → Int32} {w : Nat} (hw : w < 2 ^ 31) : ∀ (d f a : Nat) (S I : Nat → Nat → Int32) (L : Nat → Nat → Int64), d ≤ 121 → a + d ≤ 200 → a ≤ w → (∀ x, x < 25 → I 100 x = p_t25 t x) →
    ∃ L2, fX9_on_L27 (d + 1 + f) 96 (nI w) (nI a - nI 1) (nI (121 - d)) (p_H K S I L T Λ) = some (p_pof (p_ft t) (nI w) d a, (p_H K S I (L2) T Λ)) ∧ p_fr [101] L L2
  | 0, f, a, S, I, L, hd, ha, haw, ht => by
    refine ⟨L, ?_, p_fr.rf _ _⟩
    rw [show 0 + 1 + f = f + 1 by omega]
    show fX9_on_b27 _ _ _ _ _ _ = _
    unfold fX9_on_b27
    rw [if_pos (nI_le (by omega) (by omega))]
    rfl
  | d + 1, f, a, S, I, L, hd, ha, haw, ht => by
    obtain ⟨G, g1, g2, g3⟩ := q9_place (S := S) (L := L) (T := T) (K := K) (Λ := Λ) ht (121 - (d + 1))
    have h17 := p_tp_le t (121 - (d + 1))
    have fL : p_fr [101] L (va_up L 101 G) := (p_fr.rf _ _).up (k := 101) (by simp) _
    have e120 : 121 - (d + 1) = 120 - d := by omega
    rw [show d + 1 + 1 + f = (d + 1 + f) + 1 by omega]
    show ∃ L2, fX9_on_b27 _ _ _ _ _ _ = _ ∧ _
    unfold fX9_on_b27 fX9_on_b67
    rw [if_neg (nI_ge (by omega) (by decide)), nI_mod (show 121 - (d + 1) < 2 ^ 31 by omega) (show 11 < 2 ^ 31 by decide), nI_div (show 121 - (d + 1) < 2 ^ 31 by omega) (show 11 < 2 ^ 31 by decide), g1, Option.bind_some, g2, Option.bind_some, nI_s, m1_add, nI_0, Int32.add_zero, p_pl_9, p_pof, e120, show 120 - d + 1 = 121 - d by omega]
    rw [e120] at h17
    by_cases h0 : p_ft t (120 - d) < nI 1
    · rw [if_pos (show p_ft t (120 - d) ≤ 0 from (p_tp_0 h17).mpr h0), if_pos h0, if_neg (fun z => by
        by_cases e : a = 0
        · rw [e, show nI 0 - nI 1 = (-1 : Int32) by decide] at z
          exact nI_m1 hw z.symm
        · rw [pk_sub (show 1 ≤ a by omega)] at z
          have := (nI_eq (by omega) (by omega)).mp z
          omega)]
      obtain ⟨L2, k1, k2⟩ := on9_go (t := t) hw d f a S I (va_up L 101 G) (by omega) (by omega) haw ht
      exact ⟨L2, k1, fL.tr k2⟩
    · rw [if_neg (show ¬ p_ft t (120 - d) ≤ 0 from fun z => h0 ((p_tp_0 h17).mp z)), if_neg h0]
      by_cases h1 : nI a = nI w
      · rw [if_pos h1, if_pos h1]
        exact ⟨_, rfl, fL⟩
      · rw [if_neg h1, if_neg h1]
        have h2 : a ≠ w := fun z => h1 (by rw [z])
        obtain ⟨L2, k1, k2⟩ := on9_go (t := t) hw d f (a + 1) S I (va_up L 101 G) (by omega) (by omega) (by omega) ht
        rw [show nI (a + 1) - nI 1 = nI a from nI_pred a] at k1
        exact ⟨L2, k1, fL.tr k2⟩
theorem i32_sub3 (x y z : Int32) : x - y - z = x - (y + z) := by grind
theorem genus9_go {t : Nat → Nat → Int32} {n : Nat} {lw : Nat → Nat} (hbd : ∀ k l, k + l ≤ 4 → -198 ≤ (t k l).toInt ∧ (t k l).toInt ≤ 198) (x : Int32) : ∀ (d f k : Nat) (S I : Nat → Nat → Int32) (L : Nat → Nat → Int64), k + d = 121 → p_w9 I Λ lw n → (∀ x, x < 25 → I 100 x = p_t25 t x) →
    ∃ S2 I2 L2, fX9_genus_L43 (d + 1 + f) 96 (x - nI (p_kb (p_slp Λ lw n) t k)) (nI k) (p_H K S I L T Λ) = some (x - nI (p_kb (p_slp Λ lw n) t 121), (p_H K (S2) (I2) (L2) T Λ)) ∧ p_f3 S S2 ∧ p_fr [103, 111, 112] I I2 ∧ p_fr [101] L L2
  | 0, f, k, S, I, L, hk, hw, ht => by
    refine ⟨S, I, L, ?_, p_f3.rf _, p_fr.rf _ _, p_fr.rf _ _⟩
    rw [show 0 + 1 + f = f + 1 by omega]
    show fX9_genus_b43 _ _ _ _ _ = _
    unfold fX9_genus_b43
    rw [if_pos (nI_le (by omega) (by omega)), show k = 121 by omega]
  | d + 1, f, k, S, I, L, hk, hw, ht => by
    obtain ⟨G, g1, g2, g3⟩ := q9_place (S := S) (L := L) (T := T) (K := K) (Λ := Λ) ht k
    have h17 := p_tp_le t k
    have fL : p_fr [101] L (va_up L 101 G) := (p_fr.rf _ _).up (k := 101) (by simp) _
    have ks := p_kb_s (p_slp Λ lw n) t k
    rw [show d + 1 + 1 + f = (d + 1 + f) + 1 by omega]
    show ∃ S2 I2 L2, fX9_genus_b43 _ _ _ _ _ = _ ∧ _
    unfold fX9_genus_b43 fX9_genus_b91
    rw [if_neg (nI_ge (by omega) (by decide)), nI_mod (show k < 2 ^ 31 by omega) (show 11 < 2 ^ 31 by decide), nI_div (show k < 2 ^ 31 by omega) (show 11 < 2 ^ 31 by decide), g1, Option.bind_some, g2, Option.bind_some, nI_s]
    unfold p_ft
    by_cases h2 : 2 ≤ p_tp t k
    · rw [if_pos h2] at ks
      rw [if_neg (nI_ge (by omega) (by omega))]
      obtain ⟨S1, I1, L1, r1, r2, r3, r4, r5, r6, r7⟩ := q9_findTree (K := K) (T := T) (S := S) (I := I) (L := va_up L 101 G) (D := 3) (by omega) (by omega) hw (fun j hj hl => (g3 j hj).trans (p_shp_sup t _ _ hl)) (fun j hj => by rw [g3 j hj]; exact p_ic_shp (p_ib_px (by omega)) (p_ib_py (by omega)) hbd j hj)
      rw [p_tB_eq (p_slp_q Λ lw n) g3] at r3
      obtain ⟨S2, I2, L2, k1, k2, k3, k4⟩ := genus9_go (t := t) hbd x d f (k + 1) S1 I1 L1 (by omega) (hw.fr (r6 97 (by decide))) (by rw [r6 100 (by decide)]; exact ht)
      refine ⟨S2, I2, L2, ?_, r5.tr k2, r6.tr k3, (fL.tr r7).tr k4⟩
      rw [r1, Option.bind_some, gM_8, Option.bind_some, r3, i32_sub3, nI_add, ← ks]
      exact k1
    · have ks2 : p_kb (p_slp Λ lw n) t k = p_kb (p_slp Λ lw n) t (k + 1) := by rw [ks, if_neg h2]; rfl
      rw [if_pos (nI_le (by omega) (by decide)), ks2]
      obtain ⟨S2, I2, L2, k1, k2, k3, k4⟩ := genus9_go (t := t) hbd x d f (k + 1) S I (va_up L 101 G) (by omega) hw ht
      exact ⟨S2, I2, L2, k1, k2, k3, fL.tr k4⟩
end WALK9B
