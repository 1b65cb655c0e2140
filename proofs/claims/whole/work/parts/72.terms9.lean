def p_pow (v : Int64) : Nat → Int64
  | 0 => 1
  | n + 1 => p_pow v n * v
def p_vs (t : Nat → Nat → Int32) (x y : Int64) : Nat → Int64
  | 0 => 0
  | n + 1 => p_vs t x y n + (p_t25 t n).toInt64 * p_pow x (n / 5) * p_pow y (n % 5)
theorem p_vs_vl (t : Nat → Nat → Int32) (x y : Int64) : p_vs t x y 25 = p_vl t x y := by
  have z : (0 : Int32).toInt64 = 0 := rfl
  simp [p_vl, p_hs, p_vs, p_t25, p_pow, z]
  grind
theorem p_cnt_s (f : Nat → Int32) (n : Nat) : p_cnt f (n + 1) = p_cnt f n + if f n = 0 then 0 else 1 := by
  rw [p_cnt]
theorem p_cnt_25 {f : Nat → Int32} {t : Nat → Nat → Int32} (h : ∀ k l, k + l ≤ 4 → f (p_ixn k l) = t k l) : p_cnt f 15 = p_cnt (p_t25 t) 25 := by
  have h00 := h 0 0 (by decide)
  have h01 := h 0 1 (by decide)
  have h02 := h 0 2 (by decide)
  have h03 := h 0 3 (by decide)
  have h04 := h 0 4 (by decide)
  have h10 := h 1 0 (by decide)
  have h11 := h 1 1 (by decide)
  have h12 := h 1 2 (by decide)
  have h13 := h 1 3 (by decide)
  have h20 := h 2 0 (by decide)
  have h21 := h 2 1 (by decide)
  have h22 := h 2 2 (by decide)
  have h30 := h 3 0 (by decide)
  have h31 := h 3 1 (by decide)
  have h40 := h 4 0 (by decide)
  simp [p_ixn] at *
  simp only [p_cnt_s, p_t25]
  simp [p_cnt, *]
section TERMS9
variable {K : Nat} {S I : Nat → Nat → Int32} {L : Nat → Nat → Int64} {T : Nat → Nat → Option Nat} {Λ : Nat → p_Lw}
theorem q9_ft_in {n c k : Nat} {lw : Nat → Nat} (h : p_w9 I Λ lw n) (hc : c < 6) (hk : k ≤ 5) (hkd : I 97 (3 + 16 * c) = nI k) (hb : ∀ x, x < 15 → p_bd (I 97 (4 + 16 * c + x))) (k4 : Nat → Int32 → Int32 → Int32 → e_H → Option (Int32 × e_H)) {t : Nat → Nat → Int32} (ht : t = p_tv (nI k) (fun x => I 97 (4 + 16 * c + x)) (p_tg Λ lw n)) {i : Nat} (hi : i ≤ 4) : ∀ (d m j : Nat) (I1 : Nat → Nat → Int32), j + d = 5 → p_fr [100, 111, 112] I I1 → (∀ x, x < 5 * i + j → I1 100 x = p_t25 t x) →
    ∃ I2, fX9_findTerms_L12 k4 (d + 1 + m) 96 (nI c) (nI (p_cnt (p_t25 t) (5 * i + j))) (nI i) (nI j) (p_H K S (I1) L T Λ) = k4 96 (nI c) (nI (p_cnt (p_t25 t) (5 * (i + 1)))) (nI (i + 1)) (p_H K S (I2) L T Λ) ∧ p_fr [100, 111, 112] I I2 ∧ ∀ x, x < 5 * (i + 1) → I2 100 x = p_t25 t x
  | 0, m, j, I1, hj, hfr, hd => by
    refine ⟨I1, ?_, hfr, fun x hx => hd x (by omega)⟩
    rw [show 0 + 1 + m = m + 1 by omega]
    show fX9_findTerms_b12 _ _ _ _ _ _ _ _ = _
    unfold fX9_findTerms_b12
    rw [if_pos (nI_le (by omega) (by omega)), nI_s, show 5 * i + j = 5 * (i + 1) by omega]
  | d + 1, m, j, I1, hj, hfr, hd => by
    have e97 : I1 97 = I 97 := hfr 97 (by decide)
    have key : ∀ (I2 : Nat → Nat → Int32), p_fr [111, 112] I1 I2 → ∃ I3, fX9_findTerms_b48x1 k4 (fX9_findTerms_L12 k4 (d + 1 + m)) 96 (nI c) (nI (p_cnt (p_t25 t) (5 * i + j))) (nI i) (nI j) (p_t25 t (5 * i + j)) (nI (5 * i + j)) 100 (p_H K S (I2) L T Λ) = k4 96 (nI c) (nI (p_cnt (p_t25 t) (5 * (i + 1)))) (nI (i + 1)) (p_H K S (I3) L T Λ) ∧ p_fr [100, 111, 112] I I3 ∧ ∀ x, x < 5 * (i + 1) → I3 100 x = p_t25 t x := by
      intro I2 hf2
      have e100 : I2 100 = I1 100 := hf2 100 (by decide)
      obtain ⟨I3, g1, g2, g3⟩ := q9_ft_in h hc hk hkd hb k4 ht hi d m (j + 1) (va_up I2 100 (upd (I2 100) (5 * i + j) (p_t25 t (5 * i + j)))) (by omega) ((hfr.tr (hf2.mono (by simp))).up (k := 100) (by simp) _) (fun x hx => by
        rw [va_up_s]
        simp only [upd]
        by_cases e : x = 5 * i + j
        · rw [if_pos e, e]
        · rw [if_neg e, e100]; exact hd x (by omega))
      refine ⟨I3, ?_, g2, g3⟩
      rw [← g1]
      unfold fX9_findTerms_b48x1 fX9_findTerms_b69
      rw [p_stI pk_100 (by omega) (by decide), Option.bind_some]
      simp only [gM_o, gM_0, gM_1, gM_2, gM_3, gM_4, gM_5, gM_6, gM_7, gM_8, gM_9, gM_10, gM_11, gM_12, gM_13, gM_14, gM_15, gM_16, gM_17, gM_18, gM_19, gM_20, gM_21, gM_22, gM_23, gM_24, gM_25, gM_26, gM_27, gM_28, gM_29, gM_30, gM_31, gM_32, gM_33, gM_34, gM_35, gM_36, gM_37, gM_38, gM_39, gM_p3, gM_p7, gM_p8, gM_p9, gM_p13, gM_p14, gM_p15, gM_p16, gM_p17, gM_p18, gM_p19, gM_p23, gM_p24, gM_p26, gM_p39, Option.bind_some, e_on, nI_mul, nI_add, p_ldI pk_100 (show 5 * i + j < 25 by omega) (by decide), va_up_s]
      rw [show upd (I2 100) (5 * i + j) (p_t25 t (5 * i + j)) (5 * i + j) = p_t25 t (5 * i + j) by simp [upd], show 5 * i + (j + 1) = (5 * i + j) + 1 by omega, p_cnt_s]
      by_cases h0 : p_t25 t (5 * i + j) = 0
      · rw [if_pos h0, if_pos h0]
      · rw [if_neg h0, if_neg h0]
    rw [show d + 1 + 1 + m = (d + 1 + m) + 1 by omega]
    show ∃ I2, fX9_findTerms_b12 _ _ _ _ _ _ _ _ = _ ∧ _
    unfold fX9_findTerms_b12
    simp only [gM_o, gM_0, gM_1, gM_2, gM_3, gM_4, gM_5, gM_6, gM_7, gM_8, gM_9, gM_10, gM_11, gM_12, gM_13, gM_14, gM_15, gM_16, gM_17, gM_18, gM_19, gM_20, gM_21, gM_22, gM_23, gM_24, gM_25, gM_26, gM_27, gM_28, gM_29, gM_30, gM_31, gM_32, gM_33, gM_34, gM_35, gM_36, gM_37, gM_38, gM_39, gM_p3, gM_p7, gM_p8, gM_p9, gM_p13, gM_p14, gM_p15, gM_p16, gM_p17, gM_p18, gM_p19, gM_p23, gM_p24, gM_p26, gM_p39, Option.bind_some, e_on, nI_mul, nI_add]
    rw [if_neg (nI_ge (by omega) (by omega))]
    have e25 : p_t25 t (5 * i + j) = if i + j ≤ 4 then t i j else 0 := by
      unfold p_t25
      rw [show (5 * i + j) / 5 = i by omega, show (5 * i + j) % 5 = j by omega]
    by_cases hij : i + j ≤ 4
    · rw [if_pos (nI_le hij (by decide))]
      rw [if_pos hij] at e25
      obtain ⟨I2, g1, g2⟩ := q9_termOf (S := S) (I := I1) (L := L) (T := T) (K := K) (h.fr e97) hc hk (by rw [e97]; exact hkd) hij (by rw [e97]; exact hb)
      rw [e97, ← ht, ← e25] at g1
      simp only [g1, Option.bind_some]
      exact key I2 g2
    · rw [if_neg (nI_ge (by omega) (by omega))]
      rw [if_neg hij] at e25
      have := key I1 (p_fr.rf _ _)
      rw [e25] at this
      exact this
theorem q9_ft_out {n c k : Nat} {lw : Nat → Nat} (h : p_w9 I Λ lw n) (hc : c < 6) (hk : k ≤ 5) (hkd : I 97 (3 + 16 * c) = nI k) (hb : ∀ x, x < 15 → p_bd (I 97 (4 + 16 * c + x))) {t : Nat → Nat → Int32} (ht : t = p_tv (nI k) (fun x => I 97 (4 + 16 * c + x)) (p_tg Λ lw n)) : ∀ (d m i : Nat) (I1 : Nat → Nat → Int32), i + d = 5 → p_fr [100, 111, 112] I I1 → (∀ x, x < 5 * i → I1 100 x = p_t25 t x) →
    ∃ I2, fX9_findTerms_L4 (d + 1 + m) 96 (nI c) (nI (p_cnt (p_t25 t) (5 * i))) (nI i) (p_H K S (I1) L T Λ) = some (nI (p_cnt (p_t25 t) 25), (p_H K S (I2) L T Λ)) ∧ p_fr [100, 111, 112] I I2 ∧ ∀ x, x < 25 → I2 100 x = p_t25 t x
  | 0, m, i, I1, hi, hfr, hd => by
    refine ⟨I1, ?_, hfr, fun x hx => hd x (by omega)⟩
    rw [show 0 + 1 + m = m + 1 by omega]
    show fX9_findTerms_b4 _ _ _ _ _ _ = _
    unfold fX9_findTerms_b4
    rw [if_pos (nI_le (by omega) (by omega)), show 5 * i = 25 by omega]
  | d + 1, m, i, I1, hi, hfr, hd => by
    rw [show d + 1 + 1 + m = (d + 1 + m) + 1 by omega]
    obtain ⟨I2, g1, g2, g3⟩ := q9_ft_in (S := S) (L := L) (T := T) (K := K) h hc hk hkd hb (fX9_findTerms_L4 (d + 1 + m)) ht (show i ≤ 4 by omega) 5 194 0 I1 (by omega) hfr hd
    obtain ⟨I3, k1, k2, k3⟩ := q9_ft_out h hc hk hkd hb ht d m (i + 1) I2 (by omega) g2 g3
    refine ⟨I3, ?_, k2, k3⟩
    show fX9_findTerms_b4 _ _ _ _ _ _ = _
    unfold fX9_findTerms_b4
    rw [if_neg (nI_ge (by omega) (by omega)), ← k1, ← g1]
    rfl
theorem q9_findTerms {n c k : Nat} {lw : Nat → Nat} (h : p_w9 I Λ lw n) (hc : c < 6) (hk : k ≤ 5) (hkd : I 97 (3 + 16 * c) = nI k) (hb : ∀ x, x < 15 → p_bd (I 97 (4 + 16 * c + x))) {t : Nat → Nat → Int32} (ht : t = p_tv (nI k) (fun x => I 97 (4 + 16 * c + x)) (p_tg Λ lw n)) :
    ∃ I2, fX9_findTerms 96 (nI c) (p_H K S I L T Λ) = some (nI (p_cnt (p_t25 t) 25), (p_H K S (I2) L T Λ)) ∧ p_fr [100, 111, 112] I I2 ∧ ∀ x, x < 25 → I2 100 x = p_t25 t x := by
  unfold fX9_findTerms
  rw [gM_o, Option.bind_some]
  exact q9_ft_out (S := S) (L := L) (T := T) (K := K) h hc hk hkd hb ht 5 194 0 I (by omega) (p_fr.rf _ _) (fun x hx => by omega)
theorem q9_dg_go {t : Nat → Nat → Int32} (ht : ∀ x, x < 25 → I 100 x = p_t25 t x) : ∀ (d m k : Nat), k + d = 25 → fX9_degreeNow_L4 (p_H K S I L T Λ) (d + 1 + m) 96 (p_deg t k) (nI k) = some (p_deg t 25)
  | 0, m, k, hk => by
    rw [show 0 + 1 + m = m + 1 by omega]
    show fX9_degreeNow_b4 _ _ _ _ _ = _
    unfold fX9_degreeNow_b4
    rw [if_pos (nI_le (by omega) (by omega)), show k = 25 by omega]
  | d + 1, m, k, hk => by
    rw [show d + 1 + 1 + m = (d + 1 + m) + 1 by omega]
    have ih := q9_dg_go ht d m (k + 1) (by omega)
    show fX9_degreeNow_b4 _ _ _ _ _ = _
    unfold fX9_degreeNow_b4 fX9_degreeNow_b40 fX9_degreeNow_b41
    simp only [gM_o, gM_0, gM_1, gM_2, gM_3, gM_4, gM_5, gM_6, gM_7, gM_8, gM_9, gM_10, gM_11, gM_12, gM_13, gM_14, gM_15, gM_16, gM_17, gM_18, gM_19, gM_20, gM_21, gM_22, gM_23, gM_24, gM_25, gM_26, gM_27, gM_28, gM_29, gM_30, gM_31, gM_32, gM_33, gM_34, gM_35, gM_36, gM_37, gM_38, gM_39, gM_p3, gM_p7, gM_p8, gM_p9, gM_p13, gM_p14, gM_p15, gM_p16, gM_p17, gM_p18, gM_p19, gM_p23, gM_p24, gM_p26, gM_p39, Option.bind_some, e_on, p_ldI pk_100 (show k < 25 by omega) (by decide), ht k (show k < 25 by omega), nI_mod' (show k < 2 ^ 31 by omega) (show 5 < 2 ^ 31 by decide), nI_div (show k < 2 ^ 31 by omega) (show 5 < 2 ^ 31 by decide), nI_add]
    rw [if_neg (nI_ge (by omega) (by omega))]
    rw [p_deg] at ih
    by_cases h0 : p_t25 t k = 0
    · rw [if_pos h0] at ih ⊢; exact ih
    · rw [if_neg h0] at ih ⊢
      by_cases h1 : p_deg t k < nI (k / 5 + k % 5)
      · rw [if_pos h1] at ih
        rw [if_neg (Int32.not_le.mpr h1)]; exact ih
      · rw [if_neg h1] at ih
        rw [if_pos (Int32.not_lt.mp h1)]; exact ih
theorem q9_degree {t : Nat → Nat → Int32} (ht : ∀ x, x < 25 → I 100 x = p_t25 t x) : fX9_degreeNow 96 (p_H K S I L T Λ) = some (p_deg t 25) := by
  unfold fX9_degreeNow
  rw [gM_o, Option.bind_some]
  exact q9_dg_go ht 25 174 0 (by omega)
theorem q9_many_go {c : Nat} (hc : c < 6) : ∀ (d m k : Nat), k + d = 15 → fX9_manyOf_L4 (p_H K S I L T Λ) (d + 1 + m) 96 (nI c) (nI (p_cnt (fun x => I 97 (4 + 16 * c + x)) k)) (nI (k + 1)) = some (nI (p_cnt (fun x => I 97 (4 + 16 * c + x)) 15))
  | 0, m, k, hk => by
    rw [show 0 + 1 + m = m + 1 by omega]
    show fX9_manyOf_b4 _ _ _ _ _ _ = _
    unfold fX9_manyOf_b4
    rw [if_pos (nI_le (by omega) (by omega)), show k = 15 by omega]
  | d + 1, m, k, hk => by
    rw [show d + 1 + 1 + m = (d + 1 + m) + 1 by omega]
    have ih := q9_many_go hc d m (k + 1) (by omega)
    show fX9_manyOf_b4 _ _ _ _ _ _ = _
    unfold fX9_manyOf_b4 fX9_manyOf_b32
    rw [p_cnt_s] at ih
    simp only [gM_o, gM_0, gM_1, gM_2, gM_3, gM_4, gM_5, gM_6, gM_7, gM_8, gM_9, gM_10, gM_11, gM_12, gM_13, gM_14, gM_15, gM_16, gM_17, gM_18, gM_19, gM_20, gM_21, gM_22, gM_23, gM_24, gM_25, gM_26, gM_27, gM_28, gM_29, gM_30, gM_31, gM_32, gM_33, gM_34, gM_35, gM_36, gM_37, gM_38, gM_39, gM_p3, gM_p7, gM_p8, gM_p9, gM_p13, gM_p14, gM_p15, gM_p16, gM_p17, gM_p18, gM_p19, gM_p23, gM_p24, gM_p26, gM_p39, Option.bind_some, e_on, nI_mul, nI_add, show 3 + 16 * c + (k + 1) = 4 + 16 * c + k by omega, p_ldI pk_97 (show 4 + 16 * c + k < 1471 by omega) (by decide)]
    rw [if_neg (nI_ge (by omega) (by omega))]
    by_cases h0 : I 97 (4 + 16 * c + k) = 0
    · rw [if_pos h0] at ih ⊢; exact ih
    · rw [if_neg h0] at ih ⊢; exact ih
theorem q9_many {c : Nat} (hc : c < 6) : fX9_manyOf 96 (nI c) (p_H K S I L T Λ) = some (nI (p_cnt (fun x => I 97 (4 + 16 * c + x)) 15)) := by
  unfold fX9_manyOf
  rw [gM_o, Option.bind_some]
  exact q9_many_go hc 15 184 0 (by omega)
theorem q9_worth {c : Nat} (hc : c < 6) : fX9_worthOf 96 (nI c) (p_H K S I L T Λ) = some (p_worth (I 97 (3 + 16 * c)) (fun x => I 97 (4 + 16 * c + x))) := by
  unfold fX9_worthOf p_worth
  simp only [gM_o, gM_0, gM_1, gM_2, gM_3, gM_4, gM_5, gM_6, gM_7, gM_8, gM_9, gM_10, gM_11, gM_12, gM_13, gM_14, gM_15, gM_16, gM_17, gM_18, gM_19, gM_20, gM_21, gM_22, gM_23, gM_24, gM_25, gM_26, gM_27, gM_28, gM_29, gM_30, gM_31, gM_32, gM_33, gM_34, gM_35, gM_36, gM_37, gM_38, gM_39, gM_p3, gM_p7, gM_p8, gM_p9, gM_p13, gM_p14, gM_p15, gM_p16, gM_p17, gM_p18, gM_p19, gM_p23, gM_p24, gM_p26, gM_p39, Option.bind_some, e_on, q9_many hc, q9_kindOf hc, q9_spot (show 1 ≤ 4 by decide), q9_spot (show 0 ≤ 4 by decide), p_ldI pk_97 (show 4 + 16 * c + p_ixn 1 0 < 1471 by simp [p_ixn]; omega) (by decide), p_ldI pk_97 (show 4 + 16 * c + p_ixn 0 0 < 1471 by simp [p_ixn]; omega) (by decide)]
  simp only [show p_ixn 1 0 = 5 by decide, show p_ixn 0 0 = 0 by decide]
  repeat' split
  all_goals first | rfl | contradiction
theorem raised_go (v : Int64) {n : Nat} (hn : n < 150) : ∀ (d m k : Nat), k + d = n → fX9_raised_L5 (d + 1 + m) v (nI n) (p_pow v k) (nI k) = some (p_pow v n)
  | 0, m, k, hk => by
    rw [show 0 + 1 + m = m + 1 by omega]
    show fX9_raised_b5 _ _ _ _ _ = _
    unfold fX9_raised_b5
    rw [if_pos (nI_le (by omega) (by omega)), show k = n by omega]
  | d + 1, m, k, hk => by
    rw [show d + 1 + 1 + m = (d + 1 + m) + 1 by omega]
    have ih := raised_go v hn d m (k + 1) (by omega)
    show fX9_raised_b5 _ _ _ _ _ = _
    unfold fX9_raised_b5
    rw [if_neg (nI_ge (by omega) (by omega)), nI_s]
    exact ih
theorem q9_raised (v : Int64) {n : Nat} (hn : n < 150) : fX9_raised v (nI n) = some (p_pow v n) := by
  have := raised_go v hn n (199 - n) 0 (by omega)
  rw [show n + 1 + (199 - n) = 200 by omega] at this
  exact this
theorem value9_go {t : Nat → Nat → Int32} (ht : ∀ x, x < 25 → I 100 x = p_t25 t x) (x y : Int32) : ∀ (d m k : Nat), k + d = 25 → fX9_value_L47 (d + 1 + m) 96 x y (p_vs t x.toInt64 y.toInt64 k) (nI k) (p_H K S I L T Λ) = some (p_vl t x.toInt64 y.toInt64, (p_H K S I L T Λ))
  | 0, m, k, hk => by
    rw [show 0 + 1 + m = m + 1 by omega]
    show fX9_value_b47 _ _ _ _ _ _ _ = _
    unfold fX9_value_b47
    rw [if_pos (nI_le (by omega) (by omega)), show k = 25 by omega, p_vs_vl]
  | d + 1, m, k, hk => by
    rw [show d + 1 + 1 + m = (d + 1 + m) + 1 by omega]
    have ih := value9_go ht x y d m (k + 1) (by omega)
    show fX9_value_b47 _ _ _ _ _ _ _ = _
    unfold fX9_value_b47
    simp only [gM_o, gM_0, gM_1, gM_2, gM_3, gM_4, gM_5, gM_6, gM_7, gM_8, gM_9, gM_10, gM_11, gM_12, gM_13, gM_14, gM_15, gM_16, gM_17, gM_18, gM_19, gM_20, gM_21, gM_22, gM_23, gM_24, gM_25, gM_26, gM_27, gM_28, gM_29, gM_30, gM_31, gM_32, gM_33, gM_34, gM_35, gM_36, gM_37, gM_38, gM_39, gM_p3, gM_p7, gM_p8, gM_p9, gM_p13, gM_p14, gM_p15, gM_p16, gM_p17, gM_p18, gM_p19, gM_p23, gM_p24, gM_p26, gM_p39, Option.bind_some, e_on, p_ldI pk_100 (show k < 25 by omega) (by decide), ht k (show k < 25 by omega), nI_mod' (show k < 2 ^ 31 by omega) (show 5 < 2 ^ 31 by decide), nI_div (show k < 2 ^ 31 by omega) (show 5 < 2 ^ 31 by decide), q9_raised _ (show k / 5 < 150 by omega), q9_raised _ (show k % 5 < 150 by omega)]
    rw [if_neg (nI_ge (by omega) (by omega)), nI_s]
    exact ih
end TERMS9
