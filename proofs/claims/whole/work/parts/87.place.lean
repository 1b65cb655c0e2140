-- a place as it is told
theorem pl_or (p : Int32) : (∃ k, k < 2 ^ 31 ∧ p = nI k ∧ k / 100 ≤ 10 ∧ k % 100 ≤ 10) ∨ (p < 0 ∨ (0 ≤ p ∧ ∃ k, k < 2 ^ 31 ∧ p = nI k ∧ ¬ (k / 100 ≤ 10 ∧ k % 100 ≤ 10))) := by
  by_cases h : p < 0
  · exact Or.inr (Or.inl h)
  · obtain ⟨j, hj, rfl⟩ := nI_of h
    by_cases h2 : j / 100 ≤ 10 ∧ j % 100 ≤ 10
    · exact Or.inl ⟨j, hj, rfl, h2.1, h2.2⟩
    · exact Or.inr (Or.inr ⟨nI_pos' hj, j, hj, rfl, h2⟩)
def p_qx (k : Nat) : Int64 := (nI (k / 100) - nI 5).toInt64
def p_qy (k : Nat) : Int64 := (nI (k % 100) - nI 5).toInt64
section PLACE
variable {K : Nat} {S I : Nat → Nat → Int32} {L : Nat → Nat → Int64} {T : Nat → Nat → Option Nat} {Λ : Nat → p_Lw}
theorem q9_isCurve {cn : Nat} (h1 : I 97 1 = nI cn) (hcn : cn ≤ 6) (c : Int32) : fX9_isCurve 96 c (p_H K S I L T Λ) = some (decide (∃ k, k < cn ∧ c = nI k)) := by
  unfold fX9_isCurve fX9_in
  simp only [gM_o, gM_0, gM_1, gM_2, gM_3, gM_4, gM_5, gM_6, gM_7, gM_8, gM_9, gM_10, gM_11, gM_12, gM_13, gM_14, gM_15, gM_16, gM_17, gM_18, gM_19, gM_20, gM_21, gM_22, gM_23, gM_24, gM_25, gM_26, gM_27, gM_28, gM_29, gM_30, gM_31, gM_32, gM_33, gM_34, gM_35, gM_36, gM_37, gM_38, gM_39, gM_p3, gM_p7, gM_p8, gM_p9, gM_p13, gM_p14, gM_p15, gM_p16, gM_p17, gM_p18, gM_p19, gM_p23, gM_p24, gM_p26, gM_p39, Option.bind_some, e_on, p_ldI pk_97 (show 1 < 1471 by decide) (by decide), h1]
  rcases cur_or c (n := cn) (by omega) with ⟨k, hk, rfl⟩ | hno
  · rw [if_neg (nI_nlt (by omega) (by omega)), pk_sub (show 1 ≤ cn by omega), if_neg (nI_nlt (by omega) (by omega)), decide_eq_true ⟨k, hk, rfl⟩]
    rfl
  · have hf : ¬ ∃ k, k < cn ∧ c = nI k := fun ⟨k, hk, e⟩ => by
      rw [e] at hno
      rcases hno with z | z
      · exact nI_pos (by omega) z
      · exact nI_ge hk (by omega) z
    rw [decide_eq_false hf]
    by_cases h0 : c < nI 0
    · rw [if_pos h0]; rfl
    · rw [if_neg h0]
      obtain ⟨j, hj, rfl⟩ := nI_of h0
      rw [if_pos]
      · rfl
      · rcases hno with z | z
        · exact absurd z (nI_pos hj)
        · have hz : cn ≤ j := (nI_leI (by omega) hj).mp z
          rcases Nat.eq_zero_or_pos cn with e | e
          · rw [e]
            exact Int32.lt_of_lt_of_le (show nI 0 - nI 1 < 0 by decide) (nI_pos' hj)
          · rw [pk_sub e]
            exact nI_lt (by omega) hj
theorem q9_isPlace (p : Int32) : fX9_isPlace p = some (decide (∃ k, k < 2 ^ 31 ∧ p = nI k ∧ k / 100 ≤ 10 ∧ k % 100 ≤ 10)) := by
  unfold fX9_isPlace
  rcases pl_or p with ⟨k, hk, rfl, h1, h2⟩ | hno
  · rw [decide_eq_true ⟨k, hk, rfl, h1, h2⟩, if_neg (nI_pos hk), nI_mod hk (by decide), nI_div hk (by decide), if_neg (nI_nlt h1 (by omega)), if_neg (nI_nlt h2 (by omega))]
  · rcases hno with h0 | ⟨-, k, hk, rfl, h3⟩
    · rw [if_pos h0, decide_eq_false (fun ⟨k, hk, e, _⟩ => nI_pos hk (by rw [← e]; exact h0))]
    · rw [decide_eq_false (fun ⟨j, hj, e, h4⟩ => h3 (by rw [(nI_eq hk hj).mp e]; exact h4)), if_neg (nI_pos hk), nI_mod hk (by decide), nI_div hk (by decide)]
      by_cases h4 : 10 < k / 100
      · rw [if_pos (nI_lt h4 (by omega))]
      · rw [if_neg (nI_nlt (by omega) (by omega)), if_pos (nI_lt (by omega) (by omega))]
theorem q_shapeAt_no {lw : Nat → Nat} {cn tn : Nat} (h : p_wr 1 97 S I T K Λ lw cn tn) {c p : Int32} (hno : (¬ ∃ k, k < cn ∧ c = nI k) ∨ ¬ ∃ k, k < 2 ^ 31 ∧ p = nI k ∧ k / 100 ≤ 10 ∧ k % 100 ≤ 10) : fX8_shapeAt 0 c p (p_H K S I L T Λ) = some (none, (p_H K S I L T Λ)) := by
  have hcn := h.1.1
  unfold fX8_shapeAt
  simp only [gB_o, gB_0, gB_1, gB_2, gB_3, gB_4, gB_5, gB_6, gB_7, gB_8, gB_9, gB_p8, gB_p9, p_lenF pk_60, p_lenF pk_61, p_lenI pk_62, Option.bind_some, e_on]
  rcases cur_or c (n := cn) (by omega) with ⟨k, hk, rfl⟩ | hc
  · rw [q_curveOf (Or.inl rfl) h.1.1 h.1.2.1 hk, Option.bind_some]
    simp only [e_on]
    have hp := hno.resolve_left (fun z => z ⟨k, hk, rfl⟩)
    rcases pl_or p with hp2 | hp2
    · exact absurd hp2 hp
    · rcases hp2 with h0 | ⟨-, j, hj, rfl, h3⟩
      · rw [if_pos h0]
      · rw [if_neg (nI_pos hj), nI_mod hj (by decide), nI_div hj (by decide)]
        by_cases h4 : 11 ≤ j / 100
        · rw [if_pos (nI_le h4 (by omega))]
        · rw [if_neg (nI_ge (by omega) (by omega)), if_neg (nI_nlt (by omega) (by omega))]
  · rw [q_curveOf_no (Or.inl rfl) h.1.1 h.1.2.1 hc, Option.bind_some]
theorem q_shapeAt {lw : Nat → Nat} {cn tn c p : Nat} (h : p_wr 1 97 S I T K Λ lw cn tn) (hc : c < cn) (hp : p < 2 ^ 31) (h1 : p / 100 ≤ 10) (h2 : p % 100 ≤ 10) : ∃ I2 f, (∀ k, k < 85 → f k = p_shp (p_tt2 S I Λ lw tn c) (p_qx p) (p_qy p) k) ∧ fX8_shapeAt 0 (nI c) (nI p) (p_H K S I L T Λ) = some (some 39, (p_H K S (I2) (va_up L 40 f) T Λ)) ∧ p_fr [4, 34] I I2 := by
  have hcn := h.1.1
  have hl := h.2.2.2.2.2.1
  have hf := h.2.2.2.2.2.2.1
  have hv : p_isV 33 1 := Or.inl ⟨rfl, rfl⟩
  obtain ⟨I2, g1, g2, g3⟩ := q_look (S := S) (I := I) (L := L) (T := T) (K := K) (Λ := Λ) hv hl h.2.2.2.1 hf (pk_cw (w := 1) (Or.inl rfl) (show c < 6 by omega)) (by omega) (by omega)
  obtain ⟨f, k1, k2⟩ := q_stand (S := S) (I := I2) (L := L) (T := T) (K := K) (Λ := Λ) hv g3 (nI (p / 100) - nI 5) (nI (p % 100) - nI 5)
  refine ⟨I2, f, ?_, ?_, g2⟩
  · intro k hk
    rw [k1 k hk]
    unfold p_tt2
    rfl
  · unfold fX8_shapeAt
    simp only [gB_o, gB_0, gB_1, gB_2, gB_3, gB_4, gB_5, gB_6, gB_7, gB_8, gB_9, gB_p8, gB_p9, p_lenF pk_60, p_lenF pk_61, p_lenI pk_62, Option.bind_some, e_on, q_curveOf (Or.inl rfl) h.1.1 h.1.2.1 hc, nI_mod hp (show 100 < 2 ^ 31 by decide), nI_mod' hp (show 100 < 2 ^ 31 by decide), nI_div hp (show 100 < 2 ^ 31 by decide), g1, k2]
    rw [if_neg (nI_pos hp), if_neg (nI_ge (by omega) (by omega)), if_pos (nI_lt (by omega) (by omega))]
theorem q9_findPlace {lw : Nat → Nat} {cn tn c p : Nat} (h : p_wr 1 97 S I T K Λ lw cn tn) (hc : c < cn) (hp : p < 2 ^ 31) : ∃ I2 G, (∀ j, j < 85 → p_s9 (va_up L 101 G) 0 j = p_shp (p_tt2 S I Λ lw tn c) (p_qx p) (p_qy p) j) ∧ fX9_findPlace 96 (nI c) (nI p) (p_H K S I L T Λ) = some (p_H K S (I2) (va_up L 101 G) T Λ) ∧ p_fr [100, 111, 112] I I2 := by
  have hcn := h.1.1
  obtain ⟨I2, g1, g2, g3⟩ := k_terms9 (L := L) h (show c < 6 by omega)
  obtain ⟨G, k1, k2, k3⟩ := q9_findShape (S := S) (I := I2) (L := L) (T := T) (K := K) (Λ := Λ) g3 (nI (p / 100) - nI 5) (nI (p % 100) - nI 5)
  refine ⟨I2, G, fun j hj => ?_, ?_, g2⟩
  · unfold p_s9
    rw [va_up_s, show 85 * 0 + j = j by omega]
    exact k1 j hj
  · unfold fX9_findPlace
    rw [gM_o, Option.bind_some, g1, Option.bind_some, nI_mod hp (by decide), nI_div hp (by decide), k3, Option.bind_some]
end PLACE
