theorem law_go {L : Nat} (xs : Nat → Int32) (hL : L ≤ 3072) : ∀ (f i : Nat) (K : Nat) (S I : Nat → Nat → Int32) (M : Nat → Nat → Int64) (T : Nat → Nat → Option Nat) (Λ : Nat → p_Lw), L ≤ 6 * i + 6 * f + 5 → 6 * i ≤ 3078 → p_inv K S I T Λ → fL_law_L18 L xs (f + 1) 0 96 (nI (6 * i)) (p_H K S I M T Λ) = some true
  | f, i, K, S, I, M, T, Λ, hf, hi, hinv => by
    show fL_law_b18 L xs (fL_law_L18 L xs f) 0 96 (nI (6 * i)) (p_H K S I M T Λ) = some true
    have hend : ((Int32.ofNat L) - nI 6 < nI (6 * i)) ↔ L < 6 * i + 6 := by
      rw [Int32.lt_iff_toInt_lt, show Int32.ofNat L = nI L from rfl, pk_sub_toInt (by omega) (by decide), nI_toInt (by omega)]
      omega
    by_cases h : L < 6 * i + 6
    · unfold fL_law_b18
      rw [if_pos (hend.mpr h)]
    · have h6 : 6 * i + 6 ≤ L := by omega
      match f, hf with
      | 0, hf => omega
      | f + 1, hf =>
        have ih : ∀ (K : Nat) (S I : Nat → Nat → Int32) (M : Nat → Nat → Int64) (T : Nat → Nat → Option Nat) (Λ : Nat → p_Lw), p_inv K S I T Λ → fL_law_L18 L xs (f + 1) 0 96 (nI (6 * (i + 1))) (p_H K S I M T Λ) = some true := fun K S I M T Λ hi2 => law_go xs hL f (i + 1) K S I M T Λ (by omega) (by omega) hi2
        unfold fL_law_b18
        rw [if_neg (fun z => h (hend.mp z)), if_neg (nI_in (show 6 * i < L by omega) (by omega))]
        by_cases q0 : (xs (nI (6 * i)).toNatClampNeg &&& nI 63) = nI 0
        · rw [if_pos q0]
          exact st_curve xs _ h6 hL ih hinv
        rw [if_neg q0]
        by_cases q1 : (xs (nI (6 * i)).toNatClampNeg &&& nI 63) = nI 1
        · rw [if_pos q1]
          exact st_put xs _ h6 hL ih hinv
        rw [if_neg q1]
        by_cases q2 : (xs (nI (6 * i)).toNatClampNeg &&& nI 63) = nI 2
        · rw [if_pos q2]
          exact st_term xs _ h6 hL ih hinv
        rw [if_neg q2]
        by_cases q3 : (xs (nI (6 * i)).toNatClampNeg &&& nI 63) = nI 3
        · rw [if_pos q3]
          exact st_told xs _ h6 hL ih hinv
        rw [if_neg q3]
        by_cases q4 : (xs (nI (6 * i)).toNatClampNeg &&& nI 63) = nI 4
        · rw [if_pos q4]
          exact st_as xs _ h6 hL ih hinv
        rw [if_neg q4]
        by_cases q5 : (xs (nI (6 * i)).toNatClampNeg &&& nI 63) = nI 5
        · rw [if_pos q5]
          exact st_turns xs _ h6 hL ih hinv
        rw [if_neg q5]
        by_cases q6 : (xs (nI (6 * i)).toNatClampNeg &&& nI 63) = nI 6
        · rw [if_pos q6]
          exact st_mix xs _ h6 hL ih hinv
        rw [if_neg q6]
        by_cases q7 : (xs (nI (6 * i)).toNatClampNeg &&& nI 63) = nI 7
        · rw [if_pos q7]
          exact st_deal xs _ h6 hL ih hinv
        rw [if_neg q7]
        by_cases q8 : (xs (nI (6 * i)).toNatClampNeg &&& nI 63) = nI 8
        · rw [if_pos q8]
          exact st_seed xs _ h6 hL ih hinv
        rw [if_neg q8]
        by_cases q9 : (xs (nI (6 * i)).toNatClampNeg &&& nI 63) = nI 9
        · rw [if_pos q9]
          exact st_value xs _ h6 hL ih hinv
        rw [if_neg q9]
        by_cases q10 : (xs (nI (6 * i)).toNatClampNeg &&& nI 63) = nI 10
        · rw [if_pos q10]
          exact st_times xs _ h6 hL ih hinv
        rw [if_neg q10]
        by_cases q11 : (xs (nI (6 * i)).toNatClampNeg &&& nI 63) = nI 11
        · rw [if_pos q11]
          exact st_shape xs _ h6 hL ih hinv
        rw [if_neg q11]
        by_cases q12 : (xs (nI (6 * i)).toNatClampNeg &&& nI 63) = nI 12
        · rw [if_pos q12]
          exact st_lowest xs _ h6 hL ih hinv
        rw [if_neg q12]
        by_cases q13 : (xs (nI (6 * i)).toNatClampNeg &&& nI 63) = nI 13
        · rw [if_pos q13]
          exact st_slopes xs _ h6 hL ih hinv
        rw [if_neg q13]
        by_cases q14 : (xs (nI (6 * i)).toNatClampNeg &&& nI 63) = nI 14
        · rw [if_pos q14]
          exact st_often xs _ h6 hL ih hinv
        rw [if_neg q14]
        by_cases q15 : (xs (nI (6 * i)).toNatClampNeg &&& nI 63) = nI 15
        · rw [if_pos q15]
          exact st_blown xs _ h6 hL ih hinv
        rw [if_neg q15]
        by_cases q16 : (xs (nI (6 * i)).toNatClampNeg &&& nI 63) = nI 16
        · rw [if_pos q16]
          exact st_tree xs _ h6 hL ih hinv
        rw [if_neg q16]
        by_cases q17 : (xs (nI (6 * i)).toNatClampNeg &&& nI 63) = nI 17
        · rw [if_pos q17]
          exact st_corner xs _ h6 hL ih hinv
        rw [if_neg q17]
        by_cases q18 : (xs (nI (6 * i)).toNatClampNeg &&& nI 63) = nI 18
        · rw [if_pos q18]
          exact st_power xs _ h6 hL ih hinv
        rw [if_neg q18]
        by_cases q19 : (xs (nI (6 * i)).toNatClampNeg &&& nI 63) = nI 19
        · rw [if_pos q19]
          exact st_line xs _ h6 hL ih hinv
        rw [if_neg q19]
        by_cases q20 : (xs (nI (6 * i)).toNatClampNeg &&& nI 63) = nI 20
        · rw [if_pos q20]
          exact st_all xs _ h6 hL ih hinv
        rw [if_neg q20]
        by_cases q21 : (xs (nI (6 * i)).toNatClampNeg &&& nI 63) = nI 21
        · rw [if_pos q21]
          exact st_on xs _ h6 hL ih hinv
        rw [if_neg q21]
        by_cases q22 : (xs (nI (6 * i)).toNatClampNeg &&& nI 63) = nI 22
        · rw [if_pos q22]
          exact st_genus xs _ h6 hL ih hinv
        rw [if_neg q22]
        by_cases q23 : (xs (nI (6 * i)).toNatClampNeg &&& nI 63) = nI 23
        · rw [if_pos q23]
          exact st_both xs _ h6 hL ih hinv
        rw [if_neg q23]
        by_cases q24 : (xs (nI (6 * i)).toNatClampNeg &&& nI 63) = nI 24
        · rw [if_pos q24]
          exact st_feed xs _ h6 hL ih hinv
        rw [if_neg q24]
        by_cases q25 : (xs (nI (6 * i)).toNatClampNeg &&& nI 63) = nI 25
        · rw [if_pos q25]
          exact st_trim xs _ h6 hL ih hinv
        rw [if_neg q25]
        by_cases q26 : (xs (nI (6 * i)).toNatClampNeg &&& nI 63) = nI 26
        · rw [if_pos q26]
          exact st_text xs _ h6 hL ih hinv
        rw [if_neg q26]
        by_cases q27 : (xs (nI (6 * i)).toNatClampNeg &&& nI 63) = nI 27
        · rw [if_pos q27]
          exact st_textTold xs _ h6 hL ih hinv
        rw [if_neg q27]
        by_cases q28 : (xs (nI (6 * i)).toNatClampNeg &&& nI 63) = nI 28
        · rw [if_pos q28]
          exact st_why xs _ h6 hL ih hinv
        rw [if_neg q28]
        by_cases q29 : (xs (nI (6 * i)).toNatClampNeg &&& nI 63) = nI 29
        · rw [if_pos q29]
          exact st_sheet xs _ h6 hL ih hinv
        rw [if_neg q29]
        by_cases q30 : (xs (nI (6 * i)).toNatClampNeg &&& nI 63) = nI 30
        · rw [if_pos q30]
          exact st_mark xs _ h6 hL ih hinv
        rw [if_neg q30]
        by_cases q31 : (xs (nI (6 * i)).toNatClampNeg &&& nI 63) = nI 31
        · rw [if_pos q31]
          exact st_pour xs _ h6 hL ih hinv
        rw [if_neg q31]
        by_cases q32 : (xs (nI (6 * i)).toNatClampNeg &&& nI 63) = nI 32
        · rw [if_pos q32]
          exact st_copy xs _ h6 hL ih hinv
        rw [if_neg q32]
        by_cases q33 : (xs (nI (6 * i)).toNatClampNeg &&& nI 63) = nI 33
        · rw [if_pos q33]
          exact st_lay xs _ h6 hL ih hinv
        rw [if_neg q33]
        by_cases q34 : (xs (nI (6 * i)).toNatClampNeg &&& nI 63) = nI 34
        · rw [if_pos q34]
          exact st_ask xs _ h6 hL ih hinv
        rw [if_neg q34]
        by_cases q35 : (xs (nI (6 * i)).toNatClampNeg &&& nI 63) = nI 35
        · rw [if_pos q35]
          exact st_item xs _ h6 hL ih hinv
        rw [if_neg q35]
        by_cases q36 : (xs (nI (6 * i)).toNatClampNeg &&& nI 63) = nI 36
        · rw [if_pos q36]
          exact st_rest xs _ h6 hL ih hinv
        rw [if_neg q36]
        by_cases q37 : (xs (nI (6 * i)).toNatClampNeg &&& nI 63) = nI 37
        · rw [if_pos q37]
          exact st_tell xs _ h6 hL ih hinv
        rw [if_neg q37]
        by_cases q38 : (xs (nI (6 * i)).toNatClampNeg &&& nI 63) = nI 38
        · rw [if_pos q38]
          exact st_check xs _ h6 hL ih hinv
        rw [if_neg q38]
        by_cases q39 : (xs (nI (6 * i)).toNatClampNeg &&& nI 63) = nI 39
        · rw [if_pos q39]
          exact st_keep xs _ h6 hL ih hinv
        rw [if_neg q39]
        by_cases q40 : (xs (nI (6 * i)).toNatClampNeg &&& nI 63) = nI 40
        · rw [if_pos q40]
          exact st_back xs _ h6 hL ih hinv
        rw [if_neg q40]
        by_cases q41 : (xs (nI (6 * i)).toNatClampNeg &&& nI 63) = nI 41
        · rw [if_pos q41]
          exact st_count xs _ h6 hL ih hinv
        rw [if_neg q41]
        unfold fL_law_b1685
        rw [nI_add]
        exact ih _ _ _ _ _ _ hinv
theorem p_G8l : p_G8.length = 96 := by
  unfold p_G8
  rw [List.length_append, List.length_append, List.length_append, p_rz_len, p_lz_len]
  show p_X5.length + 1 + (3 + _) = _
  rw [p_X5l]
def p_F8 : List Value := [.null, .null, .null, .null, .null, .null, .null, .null, .int 0, .int 0]
def p_F9 : List Value := [.null, .null, .null, .int 0, .null, .null, .null, .int 0, .int 0, .int 0, .null, .null, .null, .int 0, .int 0, .int 0, .int 0, .int 0, .int 0, .int 0, .null, .null, .null, .int 0, .int 0, .null, .int 0, .null, .null, .null, .null, .null, .null, .null, .null, .null, .null, .null, .null, .int 0]
theorem k_x8 : fX8_init (o_newO [] 8 p_F8).1 (o_newO [] 8 p_F8).2 = some p_G8 := i_x8
theorem k_x9 : fX9_init (o_newO p_G8 9 p_F9).1 (o_newO p_G8 9 p_F9).2 = some (p_H 0 p_S0 p_I0 p_L0 p_T0 p_Λ0) := by
  have h : fX9_init (o_newO p_G8 9 p_F9).1 (o_newO p_G8 9 p_F9).2 = some (p_G8 ++ p_M0 p_G8.length) := i_x9 p_G8
  rw [h, p_G8l, first_eq]
theorem k_o8 : (o_newO [] 8 p_F8).1 = 0 := rfl
theorem k_o9 : (o_newO p_G8 9 p_F9).1 = 96 := p_G8l
theorem law_eq (L : Nat) (xs : Nat → Int32) : fL_law L xs [] = (some (o_newO [] 8 p_F8)).bind fun p1 => (fX8_init p1.1 p1.2).bind fun h2 => (some (o_newO h2 9 p_F9)).bind fun p3 => (fX9_init p3.1 p3.2).bind fun h4 => fL_law_L18 L xs 600 p1.1 p3.1 (nI 0) h4 := by
  unfold fL_law p_F8 p_F9
  rfl
