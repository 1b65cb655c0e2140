theorem q9_within (x : Int32) : fX9_within x (-99) (nI 99) = some (p_held x) := by
  unfold fX9_within p_held
  have h99 : (nI 99).toInt = 99 := by decide
  have hm : (-99 : Int32).toInt = -99 := by decide
  by_cases h1 : (-99 : Int32) ≤ x
  · rw [if_pos h1]
    rw [Int32.le_iff_toInt_le] at h1
    by_cases h2 : x ≤ nI 99
    · rw [if_pos h2]
      rw [Int32.le_iff_toInt_le] at h2
      by_cases h3 : x < nI 99
      · simp only [if_pos h3]
        by_cases h4 : -99 < x
        · rw [if_pos h4]
        · rw [if_neg h4]
          rw [Int32.lt_iff_toInt_lt] at h4
          congr 1
          exact Int32.toInt_inj.mp (by omega)
      · simp only [if_neg h3]
        rw [if_pos (by decide)]
        rw [Int32.lt_iff_toInt_lt] at h3
        congr 1
        exact Int32.toInt_inj.mp (by omega)
    · rw [if_neg h2]
      have h3 : ¬ x < nI 99 := fun z => h2 (Int32.le_of_lt z)
      simp only [if_neg h3]
      rw [if_pos (by decide)]
  · rw [if_neg h1]
    have h5 := i32_lt h1
    have h3 : x < nI 99 := Int32.lt_trans h5 (by decide)
    simp only [if_pos h3]
    rw [if_neg (fun z => h1 (Int32.le_of_lt z))]
def p_bd (x : Int32) : Prop := -99 ≤ x.toInt ∧ x.toInt ≤ 99
theorem p_held_id {x : Int32} (h : p_bd x) : p_held x = x := by
  have h1 := q9_within x
  unfold fX9_within at h1
  rw [if_pos (by rw [Int32.le_iff_toInt_le]; exact h.1), if_pos (by rw [Int32.le_iff_toInt_le]; exact h.2)] at h1
  exact (Option.some.inj h1).symm
theorem p_held_bd (x : Int32) : p_bd (p_held x) := by
  have h1 := q9_within x
  unfold fX9_within at h1
  by_cases h2 : (-99 : Int32) ≤ x
  · rw [if_pos h2] at h1
    by_cases h3 : x ≤ nI 99
    · rw [if_pos h3] at h1
      rw [← Option.some.inj h1]
      rw [Int32.le_iff_toInt_le] at h2 h3
      exact ⟨h2, h3⟩
    · rw [if_neg h3] at h1
      rw [← Option.some.inj h1]
      exact ⟨by decide, by decide⟩
  · rw [if_neg h2] at h1
    rw [← Option.some.inj h1]
    exact ⟨by decide, by decide⟩
theorem q9_spot {c i j : Nat} (hi : i ≤ 4) : fX9_spot (nI c) (nI i) (nI j) = some (nI (4 + 16 * c + p_ixn i j)) := by
  unfold fX9_spot
  simp only [nI_mul, nI_add]
  rcases (show i = 0 ∨ i = 1 ∨ i = 2 ∨ i = 3 ∨ i = 4 by omega) with rfl | rfl | rfl | rfl | rfl
  · rw [if_pos (by decide)]; congr 2; simp [p_ixn]; omega
  · rw [if_neg (by decide), if_pos rfl]; congr 2; simp [p_ixn]; omega
  · rw [if_neg (by decide), if_neg (by decide), if_pos rfl]; congr 2; simp [p_ixn]; omega
  · rw [if_neg (by decide), if_neg (by decide), if_neg (by decide), if_pos rfl]; congr 2; simp [p_ixn]; omega
  · rw [if_neg (by decide), if_neg (by decide), if_neg (by decide), if_neg (by decide)]; congr 2; simp [p_ixn]; omega
theorem nI_m1 {n : Nat} (h : n < 2 ^ 31) : ¬ nI n = (-1 : Int32) := fun z => nI_pos h (by rw [z]; decide)
-- what the reference's world holds
def p_w9 (I : Nat → Nat → Int32) (Λ : Nat → p_Lw) (lw : Nat → Nat) (n : Nat) : Prop := n ≤ 14 ∧ I 97 2 = nI n ∧ p_rt (I 97) Λ lw n ∧ p_lwf Λ lw n
theorem p_w9.fr {I I' : Nat → Nat → Int32} {Λ : Nat → p_Lw} {lw : Nat → Nat} {n : Nat} (h : p_w9 I Λ lw n) (e : I' 97 = I 97) : p_w9 I' Λ lw n := by
  unfold p_w9 at h ⊢
  rw [e]
  exact h
section TERM9
variable {K : Nat} {S I : Nat → Nat → Int32} {L : Nat → Nat → Int64} {T : Nat → Nat → Option Nat} {Λ : Nat → p_Lw}
theorem q9_lg {n : Nat} {lw : Nat → Nat} (h : p_w9 I Λ lw n) {key : Nat} (hk : key ≤ 2) : (p_last (p_keys Λ lw) (nI key) n = -1 ∧ fX9_counts 96 (nI key) (p_H K S I L T Λ) = some (-1)) ∨ ∃ t, t < n ∧ p_last (p_keys Λ lw) (nI key) n = nI t ∧ fX9_counts 96 (nI key) (p_H K S I L T Λ) = some (nI t) ∧ (Λ (lw t)).1.1 = nI key := by
  have hc := q9_counts (S := S) (L := L) (T := T) (K := K) h.1 h.2.1 h.2.2.1 h.2.2.2 hk
  rcases p_last_or (p_keys Λ lw) (nI key) n with e | ⟨t, h1, h2, h3⟩
  · exact Or.inl ⟨e, by rw [hc, e]⟩
  · exact Or.inr ⟨t, h1, h2, by rw [hc, h2], h3⟩
theorem q9_plain {n c i j : Nat} {lw : Nat → Nat} (h : p_w9 I Λ lw n) (hc : c < 6) (hij : i + j ≤ 4) (hb : p_bd (I 97 (4 + 16 * c + p_ixn i j))) : ∃ I2, fX9_plain 96 (nI c) (nI i) (nI j) (p_H K S I L T Λ) = some (p_held (p_tg Λ lw n (nI i) (nI j) (I 97 (4 + 16 * c + p_ixn i j))), (p_H K S (I2) L T Λ)) ∧ p_fr [111, 112] I I2 := by
  have hx := p_ixn_lt hij
  unfold fX9_plain
  simp only [gM_o, gM_0, gM_1, gM_2, gM_3, gM_4, gM_5, gM_6, gM_7, gM_8, gM_9, gM_10, gM_11, gM_12, gM_13, gM_14, gM_15, gM_16, gM_17, gM_18, gM_19, gM_20, gM_21, gM_22, gM_23, gM_24, gM_25, gM_26, gM_27, gM_28, gM_29, gM_30, gM_31, gM_32, gM_33, gM_34, gM_35, gM_36, gM_37, gM_38, gM_39, gM_p3, gM_p7, gM_p8, gM_p9, gM_p13, gM_p14, gM_p15, gM_p16, gM_p17, gM_p18, gM_p19, gM_p23, gM_p24, gM_p26, gM_p39, Option.bind_some, e_on, q9_spot (show i ≤ 4 by omega), p_ldI pk_97 (show 4 + 16 * c + p_ixn i j < 1471 by omega) (by decide), p_stI pk_112 (show 0 < 4 by decide) (by decide), p_stI pk_112 (show 1 < 4 by decide) (by decide), p_stI pk_112 (show 2 < 4 by decide) (by decide)]
  rw [va_up_up, va_up_s, va_up_up, va_up_s]
  generalize hA : upd (upd (upd (I 112) 0 (nI i)) 1 (nI j)) 2 (I 97 (4 + 16 * c + p_ixn i j)) = A
  have f112 : p_fr [111, 112] I (va_up I 112 A) := (p_fr.rf _ _).up (by simp) _
  rcases q9_lg (S := S) (L := L) (T := T) (K := K) h (show 0 ≤ 2 by decide) with ⟨h1, h2⟩ | ⟨t, h1, h2, h3, h4⟩
  · rw [h2, Option.bind_some, if_neg (by decide)]
    refine ⟨_, ?_, f112⟩
    unfold p_tg p_lg
    rw [h1, if_pos rfl, p_held_id hb]
  · rw [h3, Option.bind_some, if_pos (nI_pos' (by have := h.1; omega))]
    have h9 := h.fr (I' := va_up I 112 A) (va_up_n (by decide))
    obtain ⟨st', hg⟩ := q9_works (S := S) (I := va_up I 112 A) (L := L) (T := T) (K := K) (Λ := Λ) (show t < 14 by have := h.1; omega) (h9.2.2.1 t h1) (h9.2.2.2 t h1)
    refine ⟨_, ?_, f112.up (k := 111) (by simp) st'⟩
    rw [hg, Option.bind_some, q9_within, Option.bind_some, va_up_s]
    unfold p_tg p_lg
    rw [h2, if_neg (nI_m1 (by have := h.1; omega)), nI_clamp (by have := h.1; omega), ← hA]
    rfl
theorem q9_kindOf {c : Nat} (hc : c < 6) : fX9_kindOf 96 (nI c) (p_H K S I L T Λ) = some (I 97 (3 + 16 * c)) := by
  unfold fX9_kindOf
  simp only [gM_o, gM_0, gM_1, gM_2, gM_3, gM_4, gM_5, gM_6, gM_7, gM_8, gM_9, gM_10, gM_11, gM_12, gM_13, gM_14, gM_15, gM_16, gM_17, gM_18, gM_19, gM_20, gM_21, gM_22, gM_23, gM_24, gM_25, gM_26, gM_27, gM_28, gM_29, gM_30, gM_31, gM_32, gM_33, gM_34, gM_35, gM_36, gM_37, gM_38, gM_39, gM_p3, gM_p7, gM_p8, gM_p9, gM_p13, gM_p14, gM_p15, gM_p16, gM_p17, gM_p18, gM_p19, gM_p23, gM_p24, gM_p26, gM_p39, Option.bind_some, e_on, nI_mul, nI_add, p_ldI pk_97 (show 3 + 16 * c < 1471 by omega) (by decide)]
theorem i32_neg1 (x : Int32) : (-1 : Int32) * x = -x := by grind
theorem i32_neg2 (x : Int32) : (-2 : Int32) * x = 2 * -x := by grind
theorem i32_one (x : Int32) : nI 1 * x = x := by rw [show nI 1 = (1 : Int32) from rfl]; grind
theorem i32_zero (x : Int32) : nI 0 * x = nI 0 := by rw [show nI 0 = (0 : Int32) from rfl]; grind
theorem q9_termOf {n c i j k : Nat} {lw : Nat → Nat} (h : p_w9 I Λ lw n) (hc : c < 6) (hk : k ≤ 5) (hkd : I 97 (3 + 16 * c) = nI k) (hij : i + j ≤ 4) (hb : ∀ x, x < 15 → p_bd (I 97 (4 + 16 * c + x))) : ∃ I2, fX9_termOf 96 (nI c) (nI i) (nI j) (p_H K S I L T Λ) = some (p_tv (nI k) (fun x => I 97 (4 + 16 * c + x)) (p_tg Λ lw n) i j, (p_H K S (I2) L T Λ)) ∧ p_fr [111, 112] I I2 := by
  obtain ⟨I1, g1, g2⟩ := q9_plain (S := S) (L := L) (T := T) (K := K) h hc hij (hb _ (p_ixn_lt hij))
  obtain ⟨I2, k1, k2⟩ := q9_plain (S := S) (L := L) (T := T) (K := K) h hc (show j + i ≤ 4 by omega) (hb _ (p_ixn_lt (by omega)))
  have hp : nI i - nI i / nI 2 * nI 2 = nI (i % 2) := nI_mod (by omega) (by decide)
  unfold fX9_termOf p_tv
  simp only [gM_o, gM_0, gM_1, gM_2, gM_3, gM_4, gM_5, gM_6, gM_7, gM_8, gM_9, gM_10, gM_11, gM_12, gM_13, gM_14, gM_15, gM_16, gM_17, gM_18, gM_19, gM_20, gM_21, gM_22, gM_23, gM_24, gM_25, gM_26, gM_27, gM_28, gM_29, gM_30, gM_31, gM_32, gM_33, gM_34, gM_35, gM_36, gM_37, gM_38, gM_39, gM_p3, gM_p7, gM_p8, gM_p9, gM_p13, gM_p14, gM_p15, gM_p16, gM_p17, gM_p18, gM_p19, gM_p23, gM_p24, gM_p26, gM_p39, Option.bind_some, e_on, q9_kindOf hc, hkd, g1, k1, hp]
  rcases (show k = 0 ∨ k = 1 ∨ k = 2 ∨ k = 3 ∨ k = 4 ∨ k = 5 by omega) with rfl | rfl | rfl | rfl | rfl | rfl
  · simp only [show ¬ nI 0 = nI 1 by decide, show ¬ nI 0 = nI 2 by decide, show ¬ nI 0 = nI 3 by decide, show ¬ nI 0 = nI 4 by decide, show ¬ nI 0 = nI 5 by decide, if_false, show p_under (nI 0) (nI 1) = false by decide, p_fac, i32_one]
    exact ⟨I1, rfl, g2⟩
  · simp only [if_true, show p_under (nI 1) (nI 1) = true by decide, p_fac, show ¬ nI 1 = nI 2 by decide, show ¬ nI 1 = nI 3 by decide, show ¬ nI 1 = nI 4 by decide, show ¬ nI 1 = nI 5 by decide, if_false, i32_one]
    exact ⟨I2, rfl, k2⟩
  · simp only [show ¬ nI 2 = nI 1 by decide, if_false, if_true, show p_under (nI 2) (nI 1) = false by decide, Bool.false_eq_true, p_fac, hp]
    rcases (show i % 2 = 0 ∨ i % 2 = 1 by omega) with e | e
    · rw [e, if_neg (by decide), if_pos (by decide)]
      simp only [i32_one]
      exact ⟨I1, rfl, g2⟩
    · rw [e, if_pos rfl, if_neg (by decide)]
      simp only [i32_neg1]
      exact ⟨I1, rfl, g2⟩
  · simp only [show ¬ nI 3 = nI 1 by decide, show ¬ nI 3 = nI 2 by decide, if_false, if_true, show p_under (nI 3) (nI 1) = true by decide, p_fac, i32_neg1]
    exact ⟨I2, rfl, k2⟩
  · simp only [show ¬ nI 4 = nI 1 by decide, show ¬ nI 4 = nI 2 by decide, show ¬ nI 4 = nI 3 by decide, if_false, if_true, show p_under (nI 4) (nI 1) = false by decide, Bool.false_eq_true, p_fac, hp]
    rcases (show i % 2 = 0 ∨ i % 2 = 1 by omega) with e | e
    · rw [e, if_neg (by decide), if_pos (by decide)]
      exact ⟨I1, rfl, g2⟩
    · rw [e, if_pos rfl, if_neg (by decide)]
      simp only [i32_neg2]
      exact ⟨I1, rfl, g2⟩
  · simp only [show ¬ nI 5 = nI 1 by decide, show ¬ nI 5 = nI 2 by decide, show ¬ nI 5 = nI 3 by decide, show ¬ nI 5 = nI 4 by decide, if_false, if_true, show p_under (nI 5) (nI 1) = false by decide, Bool.false_eq_true, p_fac]
    by_cases e : nI j = 0
    · simp only [e, if_true, i32_one]
      exact ⟨I1, rfl, g2⟩
    · simp only [e, if_false, i32_zero]
      exact ⟨I, rfl, p_fr.rf _ _⟩
end TERM9
