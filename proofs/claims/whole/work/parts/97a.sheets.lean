theorem p_inv.row {S S' I I' : Nat → Nat → Int32} {T : Nat → Nat → Option Nat} {K : Nat} {Λ : Nat → p_Lw} (h : p_inv K S I T Λ) (hS : ∀ a, a < 63 ∨ 70 < a → S' a = S a) (hI : ∀ a, (a < 63 ∨ 70 < a) → a ≠ 113 → a ≠ 114 → a ≠ 115 → a ∉ p_scI → I' a = I a) (hr : p_row9 S' I') : p_inv K S' I' T Λ := by
  obtain ⟨⟨lw, cn, tn, h1⟩, ⟨b, h2, h3, h4⟩, ⟨l, h5, h6, h7, h8⟩, ⟨m, h9, h10, h11, h12⟩, h13, h14, h15⟩ := h
  refine ⟨⟨lw, cn, tn, h1.fr (fun x z1 z2 => hS x (by omega)) (fun x z1 z2 => hI x (by omega) (by omega) (by omega) (by omega) (p_sc_n (by omega))) (hI 97 (by decide) (by decide) (by decide) (by decide) (by decide))⟩, ⟨b, ?_, ?_, fun hb => ?_⟩, ⟨l, h5, ?_, ?_, ?_⟩, ⟨m, h9, ?_, ?_, ?_⟩, hr, fun s hs => ?_, ?_⟩
  · rw [hS 0 (by decide)]; exact h2
  · rw [hS 96 (by decide)]; exact h3
  · obtain ⟨lw, cn, tn, h⟩ := h4 hb
    exact ⟨lw, cn, tn, h.fr (fun x z1 z2 => hS x (by omega)) (fun x z1 z2 => hI x (by omega) (by omega) (by omega) (by omega) (p_sc_n (by omega))) (hI 98 (by decide) (by decide) (by decide) (by decide) (by decide))⟩
  · rw [hS 57 (by decide)]; exact h6
  · rw [hS 96 (by decide)]; exact h7
  · rw [hI 58 (by decide) (by decide) (by decide) (by decide) (by decide), hI 105 (by decide) (by decide) (by decide) (by decide) (by decide)]; exact h8
  · rw [hS 0 (by decide)]; exact h10
  · rw [hS 96 (by decide)]; exact h11
  · rw [hI 62 (by decide) (by decide) (by decide) (by decide) (by decide), hI 121 (by decide) (by decide) (by decide) (by decide) (by decide)]; exact h12
  · rw [hS (71 + 5 * s) (by omega), hS (72 + 5 * s) (by omega), hS (74 + 5 * s) (by omega), hI 116 (by decide) (by decide) (by decide) (by decide) (by decide), hI 117 (by decide) (by decide) (by decide) (by decide) (by decide), hI 118 (by decide) (by decide) (by decide) (by decide) (by decide), hI 119 (by decide) (by decide) (by decide) (by decide) (by decide), hI (72 + 5 * s + 1) (by omega) (by omega) (by omega) (by omega) (p_sc_n (by omega)), hI (74 + 5 * s + 1) (by omega) (by omega) (by omega) (by omega) (p_sc_n (by omega))]
    exact h14 s hs
  · unfold p_key9 at h15 ⊢
    rw [hI 106 (by decide) (by decide) (by decide) (by decide) (by decide), hI 107 (by decide) (by decide) (by decide) (by decide) (by decide)]
    exact h15
theorem k_row {S S' I I' : Nat → Nat → Int32} {T : Nat → Nat → Option Nat} {K : Nat} {Λ : Nat → p_Lw} {s z : Nat} {x : Int32} (h : p_inv K S I T Λ) (hs : s < 4) (hx : x = -1 ∨ x = nI 0 ∨ x = nI 1) (hz : z ≤ 24) (s1 : S' (63 + 2 * s) 0 = x) (s2 : S' (63 + 2 * s) 1 = nI z) (s3 : ∀ a, a ≠ 63 + 2 * s → S' a = S a) (i1 : I' 113 s = x) (i2 : ∀ q, q ≠ s → I' 113 q = I 113 q) (i3 : I' 114 s = nI z) (i4 : ∀ q, q ≠ s → I' 114 q = I 114 q) (i5 : ∀ y, y < 24 → I' (63 + 2 * s + 1) y = I' 115 (24 * s + y)) (i6 : ∀ y, y < 24 * s ∨ 24 * s + 24 ≤ y → I' 115 y = I 115 y) (i7 : ∀ a, a ≠ 113 → a ≠ 114 → a ≠ 115 → a ≠ 63 + 2 * s + 1 → a ∉ p_scI → I' a = I a) : p_inv K S' I' T Λ := by
  have hrow := h.2.2.2.2.1
  refine h.row (fun a ha => s3 a (by omega)) (fun a h1 h2 h3 h4 h5 => i7 a h2 h3 h4 (by omega) h5) (fun q hq => ?_)
  by_cases e : q = s
  · subst e
    rw [s1, s2, i1, i3]
    exact ⟨rfl, hx, ⟨z, hz, rfl, rfl⟩, i5⟩
  · obtain ⟨h1, h2, h3, h4⟩ := hrow q hq
    rw [s3 (63 + 2 * q) (by omega), i2 q e, i4 q e]
    refine ⟨h1, h2, h3, fun y hy => ?_⟩
    rw [i7 (63 + 2 * q + 1) (by omega) (by omega) (by omega) (by omega) (p_sc_n (by omega)), i6 _ (by omega)]
    exact h4 y hy
theorem isSheet_yes {s : Nat} (h : s ≤ 3) : fX9_isSheet (nI s) = some true := by
  unfold fX9_isSheet
  rw [in_yes h (by decide), Option.bind_some]
theorem isSheet_no {a : Int32} (h : a < 0 ∨ (¬ a < 0 ∧ nI 3 < a)) : fX9_isSheet a = some false := by
  unfold fX9_isSheet
  rw [in_no h, Option.bind_some]
theorem inz_yes {k z : Nat} (hk : k < z) (hz : z ≤ 96) : fX9_in (nI k) (nI 0) (nI z - nI 1) = some true := by
  unfold fX9_in
  rw [if_neg (nI_nlt (by omega) (by omega)), pk_sub (by omega), if_neg (nI_nlt (by omega) (by omega))]
theorem inz_no {p : Int32} {z : Nat} (hz : z ≤ 96) (h : p < 0 ∨ nI z ≤ p) : fX9_in p (nI 0) (nI z - nI 1) = some false := by
  unfold fX9_in
  by_cases h0 : p < nI 0
  · rw [if_pos h0]
  · rw [if_neg h0]
    obtain ⟨j, hj, rfl⟩ := nI_of h0
    have hzj : z ≤ j := by
      rcases h with h | h
      · exact absurd h (nI_pos hj)
      · exact (nI_leI (by omega) hj).mp h
    rw [if_pos]
    rcases Nat.eq_zero_or_pos z with e | e
    · rw [e]
      exact Int32.lt_of_lt_of_le (show nI 0 - nI 1 < 0 by decide) (nI_pos' hj)
    · rw [pk_sub e]
      exact nI_lt (by omega) hj
section SHEETS
variable {K : Nat} {S I : Nat → Nat → Int32} {L : Nat → Nat → Int64} {T : Nat → Nat → Option Nat} {Λ : Nat → p_Lw}
theorem q_sheetOf {s : Nat} (hs : s < 4) : fX8_sheetOf 0 (nI s) (p_H K S I L T Λ) = some (some (63 + 2 * s)) := by
  have e : (if s < 4 then some (63 + 2 * s) else none) = some (63 + 2 * s) := if_pos hs
  unfold fX8_sheetOf
  simp only [gB_o, gB_5, Option.bind_some, e_on, p_lenF pk_60, p_ldF pk_60 hs (show 4 < 2 ^ 31 by decide)]
  rw [if_neg (nI_pos (by omega)), if_pos (nI_lt hs (by decide)), e]
theorem q_sheetOf_no {c : Int32} (h : c < 0 ∨ (¬ c < 0 ∧ nI 3 < c)) : fX8_sheetOf 0 c (p_H K S I L T Λ) = some none := by
  unfold fX8_sheetOf
  simp only [gB_o, gB_5, Option.bind_some, e_on, p_lenF pk_60]
  rcases h with h | ⟨h, h2⟩
  · rw [if_pos h]
  · rw [if_neg h]
    obtain ⟨j, hj, rfl⟩ := nI_of h
    rw [if_neg (nI_nlt ((nI_ltI (by decide) hj).mp h2) hj)]
theorem q_becomesEmpty {a : Nat} (ha : p_isR a) (x y : Int32) : fX2_becomesEmpty a x y (p_H K S I L T Λ) = some (p_H K (p_s (p_s S a 0 x) a 1 y) (va_up I (a + 1) (p_fill 24 (nI 0) (I (a + 1)))) L T Λ) := by
  unfold fX2_becomesEmpty
  simp only [gR_o ha, gR_p0 ha, gR_p1 ha, gR_2 ha, Option.bind_some, e_on, q_fill ha.2 (show 24 < 200 by decide)]
theorem q_hasPlace {a k z : Nat} (ha : p_isR a) (hz : S a 1 = nI z) (h24 : z ≤ 24) (hk : k < z) : fX2_hasPlace a (nI k) (p_H K S I L T Λ) = some true := by
  unfold fX2_hasPlace
  simp only [gR_o ha, gR_1 ha, gR_2 ha, Option.bind_some, e_on, p_lenI ha.2, hz]
  rw [if_neg (nI_pos (by omega)), if_neg (nI_ge hk (by omega)), if_neg (nI_ge (by omega) (by omega))]
theorem q_hasPlace_no {a z : Nat} {p : Int32} (ha : p_isR a) (hz : S a 1 = nI z) (h : p < 0 ∨ nI z ≤ p) : fX2_hasPlace a p (p_H K S I L T Λ) = some false := by
  unfold fX2_hasPlace
  simp only [gR_o ha, gR_1 ha, gR_2 ha, Option.bind_some, e_on, p_lenI ha.2, hz]
  by_cases h0 : p < 0
  · rw [if_pos h0]
  · rw [if_neg h0, if_pos (h.resolve_left h0)]
theorem q_placeAt {a k z : Nat} (ha : p_isR a) (hz : S a 1 = nI z) (h24 : z ≤ 24) (hk : k < z) : fX2_placeAt a (nI k) (p_H K S I L T Λ) = some (I (a + 1) k) := by
  unfold fX2_placeAt
  simp only [gR_o ha, q_hasPlace ha hz h24 hk, if_neg eb_t, gR_2 ha, Option.bind_some, e_on, p_ldI ha.2 (show k < 24 by omega) (by decide)]
theorem q_setPlace {a k z : Nat} (ha : p_isR a) (hz : S a 1 = nI z) (h24 : z ≤ 24) (hk : k < z) (x : Int32) : fX2_setPlace a (nI k) x (p_H K S I L T Λ) = some (p_H K S (va_up I (a + 1) (upd (I (a + 1)) k x)) L T Λ) := by
  unfold fX2_setPlace
  simp only [gR_o ha, q_hasPlace ha hz h24 hk, if_neg eb_t, gR_2 ha, Option.bind_some, e_on, p_stI ha.2 (show k < 24 by omega) (by decide)]
theorem sheet9_go {s : Nat} (hs : s < 4) : ∀ (d m x : Nat) (B : Nat → Int32), x + d = 24 → (∀ y, B y = if 24 * s ≤ y ∧ y < 24 * s + x then nI 0 else I 115 y) → fX9_sheet_L66 (d + 1 + m) 96 (nI s) (nI x) (p_H K S (va_up I 115 B) L T Λ) = some (I 114 s, p_H K S (va_up I 115 (fun y => if 24 * s ≤ y ∧ y < 24 * s + 24 then nI 0 else I 115 y)) L T Λ)
  | 0, m, x, B, hx, hB => by
    rw [show 0 + 1 + m = m + 1 by omega]
    show fX9_sheet_b66 _ _ _ _ _ = _
    unfold fX9_sheet_b66
    simp only [gM_31, Option.bind_some, e_on, p_ldI pk_114 hs (by decide)]
    rw [if_pos (nI_le (by omega) (by omega)), va_up_n (show 114 ≠ 115 by decide)]
    congr 3
    congr 1
    funext y
    rw [hB, show 24 * s + x = 24 * s + 24 by omega]
  | d + 1, m, x, B, hx, hB => by
    rw [show d + 1 + 1 + m = (d + 1 + m) + 1 by omega]
    show fX9_sheet_b66 _ _ _ _ _ = _
    unfold fX9_sheet_b66
    rw [if_neg (nI_ge (by omega) (by omega))]
    simp only [gM_32, Option.bind_some, e_on, nI_mul, nI_add, p_stI pk_115 (show 24 * s + x < 96 by omega) (by decide), va_up_s, va_up_up]
    refine sheet9_go hs d m (x + 1) _ (by omega) (fun y => ?_)
    simp only [upd]
    by_cases h : y = 24 * s + x
    · rw [if_pos h, if_pos (by omega)]
    · rw [if_neg h, hB]
      by_cases h3 : 24 * s ≤ y ∧ y < 24 * s + x
      · rw [if_pos h3, if_pos (by omega)]
      · rw [if_neg h3, if_neg (by omega)]
theorem q9_sheet41 {s : Nat} (hs : s < 4) (x y : Int32) : fX9_sheet_b41 96 (nI s) x y (p_H K S I L T Λ) = some (if 0 ≤ x then y else nI 0, p_H K S (va_up (va_up (va_up I 113 (upd (I 113) s x)) 114 (upd (I 114) s (if 0 ≤ x then y else nI 0))) 115 (fun y => if 24 * s ≤ y ∧ y < 24 * s + 24 then nI 0 else I 115 y)) L T Λ) := by
  have key : ∀ (J : Nat → Nat → Int32), J 115 = I 115 → fX9_sheet_L66 200 96 (nI s) (nI 0) (p_H K S J L T Λ) = some (J 114 s, p_H K S (va_up J 115 (fun y => if 24 * s ≤ y ∧ y < 24 * s + 24 then nI 0 else I 115 y)) L T Λ) := fun J hJ => by
    have := sheet9_go (S := S) (I := J) (L := L) (T := T) (K := K) (Λ := Λ) hs 24 175 0 (J 115) (by omega) (fun y => by rw [if_neg (by omega)])
    rw [p_up_id, hJ] at this
    exact this
  unfold fX9_sheet_b41 fX9_sheet_b62x1
  simp only [gM_30, gM_31, Option.bind_some, e_on, p_stI pk_113 hs (by decide), p_stI pk_114 hs (by decide)]
  by_cases h0 : 0 ≤ x
  · rw [if_pos h0, if_pos h0, key _ (by rw [va_up_n (by decide), va_up_n (by decide)]), va_up_s, va_up_n (show 114 ≠ 113 by decide)]
    simp [upd]
  · rw [if_neg h0, if_neg h0, key _ (by rw [va_up_n (by decide), va_up_n (by decide)]), va_up_s, va_up_n (show 114 ≠ 113 by decide)]
    simp [upd]
end SHEETS
theorem c_sheet (s x n : Int32) : p_both (fX8_sheet 0 s x n) (fX9_sheet 96 s x n) := by
  intro K S I L T Λ hinv
  have hrow := hinv.2.2.2.2.1
  rcases rng_or s (n := 3) (by decide) with ⟨k, hk, rfl⟩ | ⟨hno, hr⟩
  · have hk4 : k < 4 := by omega
    have main : ∀ (z : Nat), z ≤ 24 → (x = -1 ∨ x = nI 0 ∨ x = nI 1) → nI z = (if 0 ≤ x then n else nI 0) → p_inv K (p_s (p_s S (63 + 2 * k) 0 x) (63 + 2 * k) 1 (nI z)) (va_up (va_up (va_up (va_up I (63 + 2 * k + 1) (p_fill 24 (nI 0) (I (63 + 2 * k + 1)))) 113 (upd (I 113) k x)) 114 (upd (I 114) k (if 0 ≤ x then n else nI 0))) 115 (fun y => if 24 * k ≤ y ∧ y < 24 * k + 24 then nI 0 else I 115 y)) T Λ := by
      intro z hz hx hn
      refine k_row (s := k) (z := z) (x := x) hinv hk4 hx hz (by rw [p_s_ne (by decide), p_s_at]) p_s_at (fun a ha => by rw [p_s_n ha, p_s_n ha]) ?_ (fun q hq => ?_) ?_ (fun q hq => ?_) (fun y hy => ?_) (fun y hy => ?_) (fun a h1 h2 h3 h4 h5 => ?_)
      · rw [va_up_n (by decide), va_up_n (by decide), va_up_s]; simp [upd]
      · rw [va_up_n (by decide), va_up_n (by decide), va_up_s]; simp [upd, hq]
      · rw [va_up_n (by decide), va_up_s, hn]; simp [upd]
      · rw [va_up_n (by decide), va_up_s]; simp [upd, hq]
      · rw [va_up_n (by omega), va_up_n (by omega), va_up_n (by omega), va_up_s, va_up_s, if_pos (by omega)]
        unfold p_fill
        rw [if_pos hy]
      · rw [va_up_s, if_neg (by omega)]
      · rw [va_up_n h3, va_up_n h2, va_up_n h1, va_up_n h4]
    have bad : (x < -1 ∨ (¬ x < -1 ∧ ¬ x ≤ nI 1)) → fX9_in x (-1) (nI 1) = some false := fun h => by
      unfold fX9_in
      rcases h with h | ⟨h, h2⟩
      · rw [if_pos h]
      · rw [if_neg h, if_pos (i32_lt h2)]
    have good : ¬ x < -1 → x ≤ nI 1 → fX9_in x (-1) (nI 1) = some true := fun h h2 => by
      unfold fX9_in
      rw [if_neg h, if_neg (i32_nlt h2)]
    by_cases h1 : x < -1
    · refine both_bad (r := -1000000001) hinv ?_ ?_
      · unfold fX8_sheet
        simp only [gB_o, Option.bind_some, e_on, q_sheetOf hk4, if_pos h1]
      · unfold fX9_sheet
        simp only [gM_o, Option.bind_some, e_on, isSheet_yes hk, if_neg eb_t, bad (Or.inl h1), if_pos eb_f]
    · by_cases h2 : x ≤ nI 1
      · by_cases h3 : x = -1
        · subst h3
          have h := main 0 (by decide) (Or.inl rfl) (by rw [if_neg (by decide)])
          rw [if_neg (by decide)] at h
          refine both_go (h1 := p_H K (p_s (p_s S (63 + 2 * k) 0 (-1)) (63 + 2 * k) 1 (nI 0)) (va_up I (63 + 2 * k + 1) (p_fill 24 (nI 0) (I (63 + 2 * k + 1)))) L T Λ) (L2 := L) (nI 0) ?_ ?_ h
          · unfold fX8_sheet
            simp only [gB_o, Option.bind_some, e_on, q_sheetOf hk4, if_neg h1, if_pos h2, q_becomesEmpty (pk_rr hk4)]
            rw [if_pos trivial]
          · unfold fX9_sheet fX9_sheet_b29
            simp only [gM_o, Option.bind_some, e_on, isSheet_yes hk, if_neg eb_t, good h1 h2, q9_sheet41 hk4]
            rw [if_pos (by decide), if_pos (by decide), if_neg (by decide), va_up_n (show 113 ≠ 63 + 2 * k + 1 by omega), va_up_n (show 114 ≠ 63 + 2 * k + 1 by omega), va_up_n (show 115 ≠ 63 + 2 * k + 1 by omega)]
        · have hx : x = nI 0 ∨ x = nI 1 := by
            have h0 : ¬ x < 0 := fun z => by
              have z1 := Int32.lt_iff_toInt_lt.mp z
              have z2 : ¬ x.toInt < (-1 : Int32).toInt := fun z => h1 (Int32.lt_iff_toInt_lt.mpr z)
              have z3 : x.toInt ≠ (-1 : Int32).toInt := fun z => h3 (Int32.toInt_inj.mp z)
              have e1 : (-1 : Int32).toInt = -1 := rfl
              have e2 : (0 : Int32).toInt = 0 := rfl
              omega
            obtain ⟨j, hj, rfl⟩ := nI_of h0
            have := (nI_leI hj (by decide)).mp h2
            rcases (show j = 0 ∨ j = 1 by omega) with rfl | rfl
            · exact Or.inl rfl
            · exact Or.inr rfl
          have h0 : 0 ≤ x := by rcases hx with rfl | rfl <;> decide
          have h0' : ¬ x < 0 := i32_nlt h0
          by_cases h4 : n ≤ nI 24
          · by_cases h5 : 0 ≤ n
            · obtain ⟨z, hz, rfl⟩ := nI_of (x := n) (i32_nlt h5)
              have hz24 := (nI_leI hz (by decide)).mp h4
              have h := main z hz24 (Or.inr hx) (by rw [if_pos h0])
              rw [if_pos h0] at h
              refine both_go (h1 := p_H K (p_s (p_s S (63 + 2 * k) 0 x) (63 + 2 * k) 1 (nI z)) (va_up I (63 + 2 * k + 1) (p_fill 24 (nI 0) (I (63 + 2 * k + 1)))) L T Λ) (L2 := L) (nI z) ?_ ?_ h
              · unfold fX8_sheet
                simp only [gB_o, Option.bind_some, e_on, q_sheetOf hk4, if_neg h1, if_pos h2, if_neg h3, if_pos h4, if_pos h5, q_becomesEmpty (pk_rr hk4)]
              · unfold fX9_sheet fX9_sheet_b29
                simp only [gM_o, Option.bind_some, e_on, isSheet_yes hk, if_neg eb_t, good h1 h2, q9_sheet41 hk4, if_neg h0', if_pos h4, if_pos h5, if_pos h0]
                rw [va_up_n (show 113 ≠ 63 + 2 * k + 1 by omega), va_up_n (show 114 ≠ 63 + 2 * k + 1 by omega), va_up_n (show 115 ≠ 63 + 2 * k + 1 by omega)]
            · refine both_bad (r := -1000000014) hinv ?_ ?_
              · unfold fX8_sheet
                simp only [gB_o, Option.bind_some, e_on, q_sheetOf hk4, if_neg h1, if_pos h2, if_neg h3, if_pos h4, if_neg h5]
              · unfold fX9_sheet fX9_sheet_b29
                simp only [gM_o, Option.bind_some, e_on, isSheet_yes hk, if_neg eb_t, good h1 h2, if_neg h0', if_pos h4, if_neg h5]
          · refine both_bad (r := -1000000001) hinv ?_ ?_
            · unfold fX8_sheet
              simp only [gB_o, Option.bind_some, e_on, q_sheetOf hk4, if_neg h1, if_pos h2, if_neg h3, if_neg h4]
            · unfold fX9_sheet
              simp only [gM_o, Option.bind_some, e_on, isSheet_yes hk, if_neg eb_t, good h1 h2, if_neg h0', if_neg h4]
      · refine both_bad (r := -1000000001) hinv ?_ ?_
        · unfold fX8_sheet
          simp only [gB_o, Option.bind_some, e_on, q_sheetOf hk4, if_neg h1, if_neg h2]
        · unfold fX9_sheet
          simp only [gM_o, Option.bind_some, e_on, isSheet_yes hk, if_neg eb_t, bad (Or.inr ⟨h1, h2⟩), if_pos eb_f]
  · refine both_bad (r := -1000000001) hinv ?_ ?_
    · unfold fX8_sheet
      simp only [gB_o, Option.bind_some, e_on, q_sheetOf_no hr]
    · unfold fX9_sheet
      simp only [gM_o, Option.bind_some, e_on, isSheet_no hr, if_pos eb_f]
theorem c_mark (s p v : Int32) : p_both (fX8_mark 0 s p v) (fX9_mark 96 s p v) := by
  intro K S I L T Λ hinv
  have hrow := hinv.2.2.2.2.1
  rcases rng_or s (n := 3) (by decide) with ⟨k, hk, rfl⟩ | ⟨hno, hr⟩
  · have hk4 : k < 4 := by omega
    obtain ⟨r1, r2, ⟨z, hz, r3, r4⟩, r5⟩ := hrow k hk4
    by_cases hm : I 113 k = -1
    · refine both_bad (r := -1000000011) hinv ?_ ?_
      · unfold fX8_mark
        simp only [gB_o, Option.bind_some, e_on, q_sheetOf hk4, gR_0 (pk_rr hk4), r1, hm]
        rw [if_pos trivial]
      · unfold fX9_mark
        simp only [gM_o, Option.bind_some, e_on, isSheet_yes hk, if_neg eb_t, gM_30, p_ldI pk_113 hk4 (by decide), hm]
        rw [if_neg (by decide)]
    · have h0 : 0 ≤ I 113 k := by
        rcases r2 with e | e | e
        · exact absurd e hm
        · rw [e]; decide
        · rw [e]; decide
      rcases cur_or p (n := z) (by omega) with ⟨j, hj, rfl⟩ | hp
      · have go : ∀ w : Int32, p_inv K S (va_up (va_up I (63 + 2 * k + 1) (upd (I (63 + 2 * k + 1)) j w)) 115 (upd (I 115) (24 * k + j) w)) T Λ := by
          intro w
          refine k_row (s := k) (z := z) (x := I 113 k) hinv hk4 r2 hz r1 r3 (fun a ha => rfl) ?_ (fun q hq => ?_) ?_ (fun q hq => ?_) (fun y hy => ?_) (fun y hy => ?_) (fun a h1 h2 h3 h4 h5 => ?_)
          · rw [va_up_n (by decide), va_up_n (by omega)]
          · rw [va_up_n (by decide), va_up_n (by omega)]
          · rw [va_up_n (by decide), va_up_n (by omega)]; exact r4
          · rw [va_up_n (by decide), va_up_n (by omega)]
          · rw [va_up_n (by omega), va_up_s, va_up_s]
            simp only [upd]
            by_cases e : y = j
            · rw [if_pos e, if_pos (by omega)]
            · rw [if_neg e, if_neg (by omega)]
              exact r5 y hy
          · rw [va_up_s]
            simp only [upd]
            rw [if_neg (by omega)]
          · rw [va_up_n h3, va_up_n h4]
        have e113 : ∀ w : Int32, va_up I (63 + 2 * k + 1) (upd (I (63 + 2 * k + 1)) j w) 113 = I 113 := fun w => va_up_n (by omega)
        have e114 : ∀ w : Int32, va_up I (63 + 2 * k + 1) (upd (I (63 + 2 * k + 1)) j w) 114 = I 114 := fun w => va_up_n (by omega)
        have e115 : ∀ w : Int32, va_up I (63 + 2 * k + 1) (upd (I (63 + 2 * k + 1)) j w) 115 = I 115 := fun w => va_up_n (by omega)
        by_cases hs0 : I 113 k = 0
        · by_cases hv : v = -1000000005
          · refine both_bad (r := -1000000012) hinv ?_ ?_
            · unfold fX8_mark
              simp only [gB_o, Option.bind_some, e_on, q_sheetOf hk4, gR_0 (pk_rr hk4), r1, if_neg hm, q_hasPlace (pk_rr hk4) r3 hz hj, if_neg eb_t, if_pos hs0, if_pos hv]
            · unfold fX9_mark
              simp only [gM_o, Option.bind_some, e_on, isSheet_yes hk, if_neg eb_t, gM_30, gM_31, p_ldI pk_113 hk4 (show 4 < 2 ^ 31 by decide), p_ldI pk_114 hk4 (show 4 < 2 ^ 31 by decide), if_pos h0, r4, inz_yes hj (show z ≤ 96 by omega), if_pos hs0, if_pos hv]
          · refine both_go (h1 := p_H K S (va_up I (63 + 2 * k + 1) (upd (I (63 + 2 * k + 1)) j v.toInt16.toInt32)) L T Λ) (L2 := L) (nI 1) ?_ ?_ (go v.toInt16.toInt32)
            · unfold fX8_mark
              simp only [gB_o, Option.bind_some, e_on, q_sheetOf hk4, gR_0 (pk_rr hk4), r1, if_neg hm, q_hasPlace (pk_rr hk4) r3 hz hj, if_neg eb_t, if_pos hs0, if_neg hv, q_setPlace (pk_rr hk4) r3 hz hj]
            · unfold fX9_mark fX9_mark_b61 fX9_mark_b93 fX9_mark_b118x1
              simp only [gM_o, Option.bind_some, e_on, isSheet_yes hk, if_neg eb_t, gM_30, gM_31, gM_32, p_ldI pk_113 hk4 (show 4 < 2 ^ 31 by decide), p_ldI pk_114 hk4 (show 4 < 2 ^ 31 by decide), e113, e114, if_pos h0, r4, inz_yes hj (show z ≤ 96 by omega), if_pos hs0, if_neg hv, if_neg (show ¬ I 113 k = nI 1 by rw [hs0]; decide), nI_mul, nI_add, p_stI pk_115 (show 24 * k + j < 96 by omega) (by decide), e115]
        · have hs1 : I 113 k = nI 1 := by
            rcases r2 with e | e | e
            · exact absurd e hm
            · exact absurd (e.trans nI_0) hs0
            · exact e
          have set : v = -1000000005 ∨ (¬ v < -99999 ∧ v ≤ 99999) → ∃ r h1 K2 S2 I2 L2 T2 Λ2, fX8_mark 0 (nI k) (nI j) v (p_H K S I L T Λ) = some (r, h1) ∧ fX9_mark 96 (nI k) (nI j) v h1 = some (r, p_H K2 S2 I2 L2 T2 Λ2) ∧ p_inv K2 S2 I2 T2 Λ2 := by
            intro hv
            refine both_go (h1 := p_H K S (va_up I (63 + 2 * k + 1) (upd (I (63 + 2 * k + 1)) j v)) L T Λ) (L2 := L) (nI 1) ?_ ?_ (go v)
            · unfold fX8_mark fX8_mark_b91
              simp only [gB_o, Option.bind_some, e_on, q_sheetOf hk4, gR_0 (pk_rr hk4), r1, if_neg hm, q_hasPlace (pk_rr hk4) r3 hz hj, if_neg eb_t, if_neg hs0, q_setPlace (pk_rr hk4) r3 hz hj]
              by_cases e : v = -1000000005
              · rw [if_pos e]
              · obtain ⟨v1, v2⟩ := hv.resolve_left e
                rw [if_neg e, if_neg v1, if_pos v2]
            · unfold fX9_mark fX9_mark_b61 fX9_mark_b93 fX9_mark_b118x1
              simp only [gM_o, Option.bind_some, e_on, isSheet_yes hk, if_neg eb_t, gM_30, gM_31, gM_32, p_ldI pk_113 hk4 (show 4 < 2 ^ 31 by decide), p_ldI pk_114 hk4 (show 4 < 2 ^ 31 by decide), e113, e114, if_pos h0, r4, inz_yes hj (show z ≤ 96 by omega), if_neg hs0, if_pos hs1, nI_mul, nI_add, p_stI pk_115 (show 24 * k + j < 96 by omega) (by decide), e115, p_in_b (v := v) (a := -99999) (b := 99999)]
              by_cases e : v = -1000000005
              · rw [if_pos e]
              · obtain ⟨v1, v2⟩ := hv.resolve_left e
                rw [if_neg e, decide_eq_true ⟨v1, i32_nlt v2⟩, if_neg eb_t]
          by_cases e : v = -1000000005
          · exact set (Or.inl e)
          · by_cases v1 : ¬ v < -99999 ∧ v ≤ 99999
            · exact set (Or.inr v1)
            · refine both_bad (r := -1000000001) hinv ?_ ?_
              · unfold fX8_mark
                simp only [gB_o, Option.bind_some, e_on, q_sheetOf hk4, gR_0 (pk_rr hk4), r1, if_neg hm, q_hasPlace (pk_rr hk4) r3 hz hj, if_neg eb_t, if_neg hs0, if_neg e]
                by_cases v2 : v < -99999
                · rw [if_pos v2]
                · rw [if_neg v2, if_neg (fun z => v1 ⟨v2, z⟩)]
              · unfold fX9_mark fX9_mark_b61
                simp only [gM_o, Option.bind_some, e_on, isSheet_yes hk, if_neg eb_t, gM_30, gM_31, p_ldI pk_113 hk4 (show 4 < 2 ^ 31 by decide), p_ldI pk_114 hk4 (show 4 < 2 ^ 31 by decide), if_pos h0, r4, inz_yes hj (show z ≤ 96 by omega), if_neg hs0, if_pos hs1, if_neg e, p_in_b (v := v) (a := -99999) (b := 99999)]
                rw [decide_eq_false (fun z => v1 ⟨z.1, Int32.not_lt.mp z.2⟩), if_pos eb_f]
      · refine both_bad (r := -1000000013) hinv ?_ ?_
        · unfold fX8_mark
          simp only [gB_o, Option.bind_some, e_on, q_sheetOf hk4, gR_0 (pk_rr hk4), r1, if_neg hm, q_hasPlace_no (pk_rr hk4) r3 hp, if_pos eb_f]
        · unfold fX9_mark
          simp only [gM_o, Option.bind_some, e_on, isSheet_yes hk, if_neg eb_t, gM_30, gM_31, p_ldI pk_113 hk4 (show 4 < 2 ^ 31 by decide), p_ldI pk_114 hk4 (show 4 < 2 ^ 31 by decide), if_pos h0, r4, inz_no (show z ≤ 96 by omega) hp, if_pos eb_f]
  · refine both_bad (r := -1000000001) hinv ?_ ?_
    · unfold fX8_mark
      simp only [gB_o, Option.bind_some, e_on, q_sheetOf_no hr]
    · unfold fX9_mark
      simp only [gM_o, Option.bind_some, e_on, isSheet_no hr, if_pos eb_f]
