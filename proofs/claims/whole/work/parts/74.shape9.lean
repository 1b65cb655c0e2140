theorem nI_mod2 {a b : Nat} (ha : a < 2 ^ 31) (hb : b < 2 ^ 31) : nI a - nI (a / b * b) = nI (a % b) := by
  rw [← nI_mul, nI_mod' ha hb]
def p_dn (k a b j : Nat) : Bool := decide ((j / 5 < a ∨ (j / 5 = a ∧ j % 5 < b)) ∧ j / 5 ≤ k / 5 ∧ j % 5 ≤ k % 5)
-- the least degree among the first cells
def p_md (c : Nat → Int64) : Nat → Int32
  | 0 => -1
  | n + 1 => if c n = 0 then p_md c n else if p_md c n < 0 then nI (n / 5 + n % 5) else if p_md c n ≤ nI (n / 5 + n % 5) then p_md c n else nI (n / 5 + n % 5)
theorem p_md_or (c : Nat → Int64) : ∀ n, n ≤ 85 → (p_md c n = -1 ∧ ∀ k, k < n → c k = 0) ∨ ∃ m, m ≤ 40 ∧ p_md c n = nI m ∧ (∃ k, k < n ∧ k / 5 + k % 5 = m ∧ c k ≠ 0) ∧ ∀ k, k < n → c k ≠ 0 → m ≤ k / 5 + k % 5
  | 0, _ => Or.inl ⟨rfl, fun k hk => by omega⟩
  | n + 1, hn => by
    unfold p_md
    by_cases h0 : c n = 0
    · rw [if_pos h0]
      rcases p_md_or c n (by omega) with ⟨h1, h2⟩ | ⟨m, h1, h2, ⟨k, h3, h4, h5⟩, h6⟩
      · refine Or.inl ⟨h1, fun k hk => ?_⟩
        by_cases e : k = n
        · rw [e]; exact h0
        · exact h2 k (by omega)
      · refine Or.inr ⟨m, h1, h2, ⟨k, by omega, h4, h5⟩, fun k hk hc => ?_⟩
        by_cases e : k = n
        · rw [e] at hc; exact absurd h0 hc
        · exact h6 k (by omega) hc
    · rw [if_neg h0]
      rcases p_md_or c n (by omega) with ⟨h1, h2⟩ | ⟨m, h1, h2, ⟨k, h3, h4, h5⟩, h6⟩
      · rw [h1, if_pos (by decide)]
        refine Or.inr ⟨n / 5 + n % 5, by omega, rfl, ⟨n, by omega, rfl, h0⟩, fun k hk hc => ?_⟩
        by_cases e : k = n
        · rw [e]; exact Nat.le_refl _
        · exact absurd (h2 k (by omega)) hc
      · rw [h2, if_neg (nI_pos (by omega))]
        by_cases e2 : m ≤ n / 5 + n % 5
        · rw [if_pos (nI_le e2 (by omega))]
          refine Or.inr ⟨m, h1, rfl, ⟨k, by omega, h4, h5⟩, fun k hk hc => ?_⟩
          by_cases e : k = n
          · rw [e]; exact e2
          · exact h6 k (by omega) hc
        · rw [if_neg (nI_ge (by omega) (by omega))]
          refine Or.inr ⟨n / 5 + n % 5, by omega, rfl, ⟨n, by omega, rfl, h0⟩, fun k hk hc => ?_⟩
          by_cases e : k = n
          · rw [e]; exact Nat.le_refl _
          · exact Nat.le_trans (by omega) (h6 k (by omega) hc)
-- no number lies beyond degree 16
def p_su (c : Nat → Int64) : Prop := ∀ k, k < 85 → 16 < k / 5 + k % 5 → c k = 0
theorem p_md_tm {c : Nat → Int64} (h : p_su c) : (p_md c 85 = -1 ∧ p_tm c = 17) ∨ p_md c 85 = nI (p_tm c) := by
  rcases p_md_or c 85 (by omega) with ⟨h1, h2⟩ | ⟨m, h1, h2, ⟨k, h3, h4, h5⟩, h6⟩
  · exact Or.inl ⟨h1, (p_tm_un (m := 17) (by omega) (fun k hk _ => h2 k hk) (fun z => by omega)).symm⟩
  · right
    have h16 : m ≤ 16 := by
      rcases Nat.lt_or_ge 16 m with z | z
      · exact absurd (h k h3 (by omega)) h5
      · exact z
    rw [h2, ← p_tm_un (m := m) (by omega) (fun k hk hl => by
      by_cases e : c k = 0
      · exact e
      · exact absurd (h6 k hk e) (by omega)) (fun _ => ⟨k, h3, h4, h5⟩)]
section SHAPE9
variable {K : Nat} {S I : Nat → Nat → Int32} {L : Nat → Nat → Int64} {T : Nat → Nat → Option Nat} {Λ : Nat → p_Lw}
theorem fs_in {t : Nat → Nat → Int32} (ht : ∀ x, x < 25 → I 100 x = p_t25 t x) (k23 : Nat → Int32 → Int32 → Int32 → e_H → Option e_H) (k41 : Nat → Int32 → Int32 → Int32 → Int32 → e_H → Option e_H) (x y : Int32) {k a : Nat} (hk : k < 25) (ha : a ≤ k / 5) : ∀ (d m b : Nat) (G : Nat → Int64), b + d = k % 5 + 1 → (∀ j, j < 85 → G j = p_fs t x.toInt64 y.toInt64 j k + if p_dn k a b j then p_ct t x.toInt64 y.toInt64 k j else 0) → (∀ j, 85 ≤ j → G j = L 101 j) →
    ∃ G', (∀ j, j < 85 → G' j = p_fs t x.toInt64 y.toInt64 j k + if p_dn k (a + 1) 0 j then p_ct t x.toInt64 y.toInt64 k j else 0) ∧ (∀ j, 85 ≤ j → G' j = L 101 j) ∧ fX9_findShape_L52 k23 k41 (d + 1 + m) 96 x y (nI k) (nI a) (nI b) (p_H K S I (va_up L 101 G) T Λ) = k41 96 x y (nI k) (nI (a + 1)) (p_H K S I (va_up L 101 G') T Λ)
  | 0, m, b, G, hb, hG, hG2 => by
    refine ⟨G, fun j hj => ?_, hG2, ?_⟩
    · rw [hG j hj]
      congr 2
      unfold p_dn
      rw [eq_iff_iff]
      simp only [decide_eq_true_eq]
      omega
    · rw [show 0 + 1 + m = m + 1 by omega]
      show fX9_findShape_b52 _ _ _ _ _ _ _ _ _ _ = _
      unfold fX9_findShape_b52
      rw [nI_mod (by omega) (by decide), if_pos (nI_lt (by omega) (by omega)), nI_s]
  | d + 1, m, b, G, hb, hG, hG2 => by
    obtain ⟨G', g1, g2, g3⟩ := fs_in ht k23 k41 x y hk ha d m (b + 1) (vp_updL G (5 * a + b) (G (5 * a + b) + p_ct t x.toInt64 y.toInt64 k (5 * a + b))) (by omega) (fun j hj => by
      simp only [vp_updL]
      by_cases e : j = 5 * a + b
      · rw [if_pos e, hG _ (by omega), e]
        have e1 : p_dn k a b (5 * a + b) = false := by unfold p_dn; simp; omega
        have e2 : p_dn k a (b + 1) (5 * a + b) = true := by unfold p_dn; simp; omega
        rw [e1, e2]
        simp
      · rw [if_neg e, hG j hj]
        congr 2
        unfold p_dn
        rw [eq_iff_iff]
        simp only [decide_eq_true_eq]
        omega) (fun j hj => by
      simp only [vp_updL]
      rw [if_neg (by omega)]
      exact hG2 j hj)
    refine ⟨G', g1, g2, ?_⟩
    rw [← g3, show d + 1 + 1 + m = (d + 1 + m) + 1 by omega]
    show fX9_findShape_b52 _ _ _ _ _ _ _ _ _ _ = _
    unfold fX9_findShape_b52
    rw [nI_mod (show k < 2 ^ 31 by omega) (show 5 < 2 ^ 31 by decide), nI_div (show k < 2 ^ 31 by omega) (show 5 < 2 ^ 31 by decide), if_neg (nI_nlt (by omega) (by omega)), q9_choices (by omega) ha, q9_choices (by omega) (by omega), Option.bind_some, Option.bind_some, pk_sub ha, pk_sub (show b ≤ k % 5 by omega), q9_raised _ (by omega), q9_raised _ (by omega)]
    simp only [gM_o, gM_0, gM_1, gM_2, gM_3, gM_4, gM_5, gM_6, gM_7, gM_8, gM_9, gM_10, gM_11, gM_12, gM_13, gM_14, gM_15, gM_16, gM_17, gM_18, gM_19, gM_20, gM_21, gM_22, gM_23, gM_24, gM_25, gM_26, gM_27, gM_28, gM_29, gM_30, gM_31, gM_32, gM_33, gM_34, gM_35, gM_36, gM_37, gM_38, gM_39, gM_p3, gM_p7, gM_p8, gM_p9, gM_p13, gM_p14, gM_p15, gM_p16, gM_p17, gM_p18, gM_p19, gM_p23, gM_p24, gM_p26, gM_p39, Option.bind_some, e_on, nI_mul, nI_add, p_ldL pk_101 (show 5 * a + b < 3400 by omega) (by decide), p_ldI pk_100 hk (by decide), ht k hk, p_stL pk_101 (show 5 * a + b < 3400 by omega) (by decide), va_up_up, va_up_s]
    unfold p_ct
    rw [show (5 * a + b) / 5 = a by omega, show (5 * a + b) % 5 = b by omega]
theorem fs_mid {t : Nat → Nat → Int32} (ht : ∀ x, x < 25 → I 100 x = p_t25 t x) (k23 : Nat → Int32 → Int32 → Int32 → e_H → Option e_H) (x y : Int32) {k : Nat} (hk : k < 25) : ∀ (d m a : Nat) (G : Nat → Int64), a + d = k / 5 + 1 → (∀ j, j < 85 → G j = p_fs t x.toInt64 y.toInt64 j k + if p_dn k a 0 j then p_ct t x.toInt64 y.toInt64 k j else 0) → (∀ j, 85 ≤ j → G j = L 101 j) →
    ∃ G', (∀ j, j < 85 → G' j = p_fs t x.toInt64 y.toInt64 j (k + 1)) ∧ (∀ j, 85 ≤ j → G' j = L 101 j) ∧ fX9_findShape_L41 k23 (d + 1 + m) 96 x y (nI k) (nI a) (p_H K S I (va_up L 101 G) T Λ) = k23 96 x y (nI (k + 1)) (p_H K S I (va_up L 101 G') T Λ)
  | 0, m, a, G, hb, hG, hG2 => by
    refine ⟨G, fun j hj => ?_, hG2, ?_⟩
    · rw [hG j hj, p_fs]
      congr 2
      unfold p_dn
      rw [eq_iff_iff]
      simp only [decide_eq_true_eq]
      omega
    · rw [show 0 + 1 + m = m + 1 by omega]
      show fX9_findShape_b41 _ _ _ _ _ _ _ _ = _
      unfold fX9_findShape_b41 fX9_findShape_b140
      rw [nI_div (by omega) (by decide), if_pos (nI_lt (by omega) (by omega)), nI_s]
  | d + 1, m, a, G, hb, hG, hG2 => by
    obtain ⟨G1, g1, g2, g3⟩ := fs_in (S := S) (T := T) (K := K) (Λ := Λ) ht k23 (fX9_findShape_L41 k23 (d + 1 + m)) x y hk (show a ≤ k / 5 by omega) (k % 5 + 1) (198 - k % 5) 0 G (by omega) hG hG2
    obtain ⟨G2, k1, k2, k3⟩ := fs_mid ht k23 x y hk d m (a + 1) G1 (by omega) g1 g2
    refine ⟨G2, k1, k2, ?_⟩
    rw [← k3, ← g3, show d + 1 + 1 + m = (d + 1 + m) + 1 by omega, show k % 5 + 1 + 1 + (198 - k % 5) = 200 by omega]
    show fX9_findShape_b41 _ _ _ _ _ _ _ _ = _
    unfold fX9_findShape_b41
    rw [nI_div (by omega) (by decide), if_neg (nI_nlt (by omega) (by omega))]
theorem fs_out {t : Nat → Nat → Int32} (ht : ∀ x, x < 25 → I 100 x = p_t25 t x) (x y : Int32) : ∀ (d m k : Nat) (G : Nat → Int64), k + d = 25 → (∀ j, j < 85 → G j = p_fs t x.toInt64 y.toInt64 j k) → (∀ j, 85 ≤ j → G j = L 101 j) →
    ∃ G', (∀ j, j < 85 → G' j = p_shp t x.toInt64 y.toInt64 j) ∧ (∀ j, 85 ≤ j → G' j = L 101 j) ∧ fX9_findShape_L23 (d + 1 + m) 96 x y (nI k) (p_H K S I (va_up L 101 G) T Λ) = some (p_H K S I (va_up L 101 G') T Λ)
  | 0, m, k, G, hk, hG, hG2 => by
    refine ⟨G, fun j hj => ?_, hG2, ?_⟩
    · rw [hG j hj, show k = 25 by omega]
      by_cases e : j < 25
      · exact p_fs_shp t _ _ e
      · rw [p_fs_hi t _ _ (by omega) 25 (by omega)]
        unfold p_shp
        rw [if_neg e]
    · rw [show 0 + 1 + m = m + 1 by omega]
      show fX9_findShape_b23 _ _ _ _ _ _ = _
      unfold fX9_findShape_b23
      rw [if_pos (nI_le (by omega) (by omega))]
  | d + 1, m, k, G, hk, hG, hG2 => by
    rw [show d + 1 + 1 + m = (d + 1 + m) + 1 by omega]
    show ∃ G', _ ∧ _ ∧ fX9_findShape_b23 _ _ _ _ _ _ = _
    unfold fX9_findShape_b23 fX9_findShape_b140
    simp only [gM_o, gM_0, gM_1, gM_2, gM_3, gM_4, gM_5, gM_6, gM_7, gM_8, gM_9, gM_10, gM_11, gM_12, gM_13, gM_14, gM_15, gM_16, gM_17, gM_18, gM_19, gM_20, gM_21, gM_22, gM_23, gM_24, gM_25, gM_26, gM_27, gM_28, gM_29, gM_30, gM_31, gM_32, gM_33, gM_34, gM_35, gM_36, gM_37, gM_38, gM_39, gM_p3, gM_p7, gM_p8, gM_p9, gM_p13, gM_p14, gM_p15, gM_p16, gM_p17, gM_p18, gM_p19, gM_p23, gM_p24, gM_p26, gM_p39, Option.bind_some, e_on, p_ldI pk_100 (show k < 25 by omega) (by decide), ht k (show k < 25 by omega)]
    rw [if_neg (nI_ge (by omega) (by omega))]
    by_cases h0 : p_t25 t k = 0
    · rw [if_pos h0, nI_s]
      refine fs_out ht x y d m (k + 1) G (by omega) (fun j hj => ?_) hG2
      rw [hG j hj, p_fs]
      have : p_ct t x.toInt64 y.toInt64 k j = 0 := by
        unfold p_ct
        rw [h0, show (0 : Int32).toInt64 = 0 from rfl]
        grind
      rw [this]
      split <;> simp
    · rw [if_neg h0]
      obtain ⟨G1, g1, g2, g3⟩ := fs_mid (S := S) (T := T) (K := K) (Λ := Λ) ht (fX9_findShape_L23 (d + 1 + m)) x y (show k < 25 by omega) (k / 5 + 1) (198 - k / 5) 0 G (by omega) (fun j hj => by
        rw [hG j hj]
        have : p_dn k 0 0 j = false := by unfold p_dn; simp
        rw [this]
        simp) hG2
      obtain ⟨G2, k1, k2, k3⟩ := fs_out ht x y d m (k + 1) G1 (by omega) g1 g2
      refine ⟨G2, k1, k2, ?_⟩
      rw [← k3, ← g3, show k / 5 + 1 + 1 + (198 - k / 5) = 200 by omega]
theorem fs_zero {t : Nat → Nat → Int32} (ht : ∀ x, x < 25 → I 100 x = p_t25 t x) (x y : Int32) : ∀ (d m k : Nat) (G : Nat → Int64), k + d = 85 → (∀ j, j < k → G j = 0) → (∀ j, 85 ≤ j → G j = L 101 j) →
    ∃ G', (∀ j, j < 85 → G' j = p_shp t x.toInt64 y.toInt64 j) ∧ (∀ j, 85 ≤ j → G' j = L 101 j) ∧ fX9_findShape_L2 (d + 1 + m) 96 x y (nI k) (p_H K S I (va_up L 101 G) T Λ) = some (p_H K S I (va_up L 101 G') T Λ)
  | 0, m, k, G, hk, hG, hG2 => by
    obtain ⟨G1, g1, g2, g3⟩ := fs_out (S := S) (T := T) (K := K) (Λ := Λ) ht x y 25 174 0 G (by omega) (fun j hj => hG j (by omega)) hG2
    refine ⟨G1, g1, g2, ?_⟩
    rw [show 0 + 1 + m = m + 1 by omega]
    show fX9_findShape_b2 _ _ _ _ _ _ = _
    unfold fX9_findShape_b2
    rw [if_pos (nI_le (by omega) (by omega))]
    exact g3
  | d + 1, m, k, G, hk, hG, hG2 => by
    obtain ⟨G1, g1, g2, g3⟩ := fs_zero ht x y d m (k + 1) (vp_updL G k 0) (by omega) (fun j hj => by
      simp only [vp_updL]
      by_cases e : j = k
      · rw [if_pos e]
      · rw [if_neg e]; exact hG j (by omega)) (fun j hj => by
      simp only [vp_updL]
      rw [if_neg (by omega)]
      exact hG2 j hj)
    refine ⟨G1, g1, g2, ?_⟩
    rw [← g3, show d + 1 + 1 + m = (d + 1 + m) + 1 by omega]
    show fX9_findShape_b2 _ _ _ _ _ _ = _
    unfold fX9_findShape_b2
    simp only [gM_o, gM_0, gM_1, gM_2, gM_3, gM_4, gM_5, gM_6, gM_7, gM_8, gM_9, gM_10, gM_11, gM_12, gM_13, gM_14, gM_15, gM_16, gM_17, gM_18, gM_19, gM_20, gM_21, gM_22, gM_23, gM_24, gM_25, gM_26, gM_27, gM_28, gM_29, gM_30, gM_31, gM_32, gM_33, gM_34, gM_35, gM_36, gM_37, gM_38, gM_39, gM_p3, gM_p7, gM_p8, gM_p9, gM_p13, gM_p14, gM_p15, gM_p16, gM_p17, gM_p18, gM_p19, gM_p23, gM_p24, gM_p26, gM_p39, Option.bind_some, e_on, p_stL pk_101 (show k < 3400 by omega) (by decide), va_up_up, va_up_s]
    rw [if_neg (nI_ge (by omega) (by omega)), nI_s]
theorem q9_findShape {t : Nat → Nat → Int32} (ht : ∀ x, x < 25 → I 100 x = p_t25 t x) (x y : Int32) : ∃ G, (∀ j, j < 85 → G j = p_shp t x.toInt64 y.toInt64 j) ∧ (∀ j, 85 ≤ j → G j = L 101 j) ∧ fX9_findShape 96 x y (p_H K S I L T Λ) = some (p_H K S I (va_up L 101 G) T Λ) := by
  unfold fX9_findShape
  rw [gM_o, Option.bind_some]
  have := fs_zero (S := S) (L := L) (T := T) (K := K) (Λ := Λ) ht x y 85 114 0 (L 101) (by omega) (fun j hj => by omega) (fun _ _ => rfl)
  rw [p_up_id] at this
  exact this
theorem tm9_go {s : Nat} (hs : s < 40) : ∀ (d m k : Nat), k + d = 85 → fX9_timesOf_L4 (p_H K S I L T Λ) (d + 1 + m) 96 (nI s) (p_md (fun k => L 101 (85 * s + k)) k) (nI k) = if 0 ≤ p_md (fun k => L 101 (85 * s + k)) 85 then some (p_md (fun k => L 101 (85 * s + k)) 85) else some (nI 17)
  | 0, m, k, hk => by
    rw [show 0 + 1 + m = m + 1 by omega]
    show fX9_timesOf_b4 _ _ _ _ _ _ = _
    unfold fX9_timesOf_b4
    rw [if_pos (nI_le (by omega) (by omega)), show k = 85 by omega]
  | d + 1, m, k, hk => by
    rw [show d + 1 + 1 + m = (d + 1 + m) + 1 by omega]
    have ih := tm9_go hs d m (k + 1) (by omega)
    show fX9_timesOf_b4 _ _ _ _ _ _ = _
    unfold fX9_timesOf_b4 fX9_timesOf_b50 fX9_timesOf_b45 fX9_timesOf_b51
    generalize hM : (if 0 ≤ p_md (fun k => L 101 (85 * s + k)) 85 then some (p_md (fun k => L 101 (85 * s + k)) 85) else some (nI 17)) = M at *
    rw [p_md] at ih
    simp only [gM_o, gM_0, gM_1, gM_2, gM_3, gM_4, gM_5, gM_6, gM_7, gM_8, gM_9, gM_10, gM_11, gM_12, gM_13, gM_14, gM_15, gM_16, gM_17, gM_18, gM_19, gM_20, gM_21, gM_22, gM_23, gM_24, gM_25, gM_26, gM_27, gM_28, gM_29, gM_30, gM_31, gM_32, gM_33, gM_34, gM_35, gM_36, gM_37, gM_38, gM_39, gM_p3, gM_p7, gM_p8, gM_p9, gM_p13, gM_p14, gM_p15, gM_p16, gM_p17, gM_p18, gM_p19, gM_p23, gM_p24, gM_p26, gM_p39, Option.bind_some, e_on, nI_mul, nI_add, p_ldL pk_101 (show 85 * s + k < 3400 by omega) (by decide), nI_mod2 (show k < 2 ^ 31 by omega) (show 5 < 2 ^ 31 by decide), nI_div (show k < 2 ^ 31 by omega) (show 5 < 2 ^ 31 by decide)]
    rw [if_neg (nI_ge (by omega) (by omega))]
    by_cases h0 : L 101 (85 * s + k) = 0
    · rw [if_pos h0] at ih
      rw [if_pos ((lg_cmp_eq _ _).mpr h0)]
      exact ih
    · rw [if_neg h0] at ih
      rw [if_neg (fun z => h0 ((lg_cmp_eq _ _).mp z))]
      by_cases h1 : p_md (fun k => L 101 (85 * s + k)) k < 0
      · rw [if_pos h1] at ih ⊢; exact ih
      · rw [if_neg h1] at ih ⊢
        by_cases h2 : p_md (fun k => L 101 (85 * s + k)) k ≤ nI (k / 5 + k % 5)
        · rw [if_pos h2] at ih ⊢; exact ih
        · rw [if_neg h2] at ih ⊢; exact ih
theorem q9_times {s : Nat} (hs : s < 40) (hc : p_su (fun k => L 101 (85 * s + k))) : fX9_timesOf 96 (nI s) (p_H K S I L T Λ) = some (nI (p_tm (fun k => L 101 (85 * s + k)))) := by
  unfold fX9_timesOf
  rw [gM_o, Option.bind_some]
  have h17 := p_tm_le (fun k => L 101 (85 * s + k))
  refine (tm9_go (S := S) (I := I) (L := L) (T := T) (K := K) (Λ := Λ) hs 85 114 0 (by omega)).trans ?_
  rcases p_md_tm hc with ⟨h1, h2⟩ | h1
  · rw [h1, h2, if_neg (by decide)]
  · rw [h1, if_pos (nI_pos' (by omega))]
end SHAPE9
