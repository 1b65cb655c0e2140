def p_ab (z : Int32) : Nat := z.toInt.natAbs
theorem p_ab_ok {a b : Nat} (ha : a ≤ 17) (hb : b ≤ 17) : (if 0 ≤ nI a - nI b then nI a - nI b else -(nI a - nI b)) = nI (p_ab (nI a - nI b)) ∧ p_ab (nI a - nI b) ≤ 17 := by
  have h : ∀ a, a < 18 → ∀ b, b < 18 → (if 0 ≤ nI a - nI b then nI a - nI b else -(nI a - nI b)) = nI (p_ab (nI a - nI b)) ∧ p_ab (nI a - nI b) ≤ 17 := by decide +kernel
  exact h a (by omega) b (by omega)
-- what FIRST POWER's step keeps
def p_si (c : Nat → Int64) (j : Nat) (st : Int32 × Nat) : Prop := st.2 ≠ 0 → st.2 + j ≤ 4 ∧ st.1 = nI (p_lx c j) - nI (p_lx c (j + st.2)) ∧ p_lx c (j + st.2) ≠ 17
theorem p_sf2_i (c : Nat → Int64) (j : Nat) : ∀ (n : Nat) (st : Int32 × Nat), n + j ≤ 4 → p_si c j st → p_si c j (p_sf2 c j n st)
  | 0, st, _, h => h
  | n + 1, st, hn, h => by
    unfold p_sf2
    split
    · exact p_sf2_i c j n st (by omega) h
    · next h17 =>
      split
      · refine p_sf2_i c j n _ (by omega) (fun _ => ?_)
        dsimp only
        rw [show j + (4 - n - j) = 4 - n by omega]
        exact ⟨by omega, rfl, h17⟩
      · exact p_sf2_i c j n st (by omega) h
def p_pf (st : Int32 × Nat) (w : Int32) : Int32 := if st.2 = 0 then -1000000005 else if w = 0 then st.1 / nI (Nat.gcd st.2 (p_ab st.1)) else nI st.2 / nI (Nat.gcd st.2 (p_ab st.1))
def p_pw (c : Nat → Int64) (w : Int32) : Nat → Int32
  | 0 => -1000000005
  | n + 1 => if p_lx c (4 - n) = 17 then p_pw c w n else p_pf (p_sf2 c (4 - n) n (nI 0, 0)) w
section POWER9
variable {K : Nat} {S I : Nat → Nat → Int32} {L : Nat → Nat → Int64} {T : Nat → Nat → Option Nat} {Λ : Nat → p_Lw}
theorem corner9_go {j : Nat} (hj : j ≤ 4) : ∀ (n f : Nat), n ≤ 17 → fX9_cornerOf_L2 (p_H K S I L T Λ) (n + 1 + f) 96 (nI j) (nI (17 - n)) = some (nI (p_lxf (p_s9 L 0) j n))
  | 0, f, hn => by
    rw [show 0 + 1 + f = f + 1 by omega]
    show fX9_cornerOf_b2 _ _ _ _ _ = _
    unfold fX9_cornerOf_b2
    rw [if_pos (nI_le (by omega) (by omega))]
    rfl
  | n + 1, f, hn => by
    rw [show n + 1 + 1 + f = (n + 1 + f) + 1 by omega]
    have ih := corner9_go hj n f (by omega)
    show fX9_cornerOf_b2 _ _ _ _ _ = _
    unfold fX9_cornerOf_b2
    simp only [gM_5, Option.bind_some, e_on, nI_mul, nI_add, p_ldL pk_101 (show 5 * (17 - (n + 1)) + j < 3400 by omega) (by decide)]
    rw [if_neg (nI_ge (by omega) (by omega)), p_lxf, show 17 - (n + 1) = 16 - n by omega, show p_s9 L 0 (5 * (16 - n) + j) = L 101 (5 * (16 - n) + j) by unfold p_s9; congr 1; omega]
    by_cases h : L 101 (5 * (16 - n) + j) = 0
    · rw [if_pos ((lg_cmp_eq _ _).mpr h), if_pos h, show 16 - n + 1 = 17 - n by omega, ih]
    · rw [if_neg (fun z => h ((lg_cmp_eq _ _).mp z)), if_neg h]
theorem q9_corner {j : Nat} (hj : j ≤ 4) : fX9_cornerOf 96 (nI j) (p_H K S I L T Λ) = some (nI (p_lx (p_s9 L 0) j)) := by
  unfold fX9_cornerOf
  rw [gM_o, Option.bind_some]
  exact corner9_go hj 17 182 (by omega)
theorem div9_go : ∀ (n f a b : Nat), b ≤ n → a < 2 ^ 31 → b < 2 ^ 31 → fX9_divisor_L13 (n + 1 + f) (nI a) (nI b) = some (nI (Nat.gcd b a))
  | 0, f, a, b, hb, ha, hb2 => by
    have : b = 0 := by omega
    subst this
    rw [show 0 + 1 + f = f + 1 by omega]
    show fX9_divisor_b13 _ _ _ = _
    unfold fX9_divisor_b13
    rw [if_pos (by decide), Nat.gcd_zero_left]
  | n + 1, f, a, b, hb, ha, hb2 => by
    rw [show n + 1 + 1 + f = (n + 1 + f) + 1 by omega]
    show fX9_divisor_b13 _ _ _ = _
    unfold fX9_divisor_b13
    by_cases h : b = 0
    · subst h
      rw [if_pos (by decide), Nat.gcd_zero_left]
    · have hm := Nat.mod_lt a (show b > 0 by omega)
      rw [if_neg (nI_nle (by omega) hb2), if_neg (nI_ne0 (by omega) hb2), nI_mod ha hb2, div9_go n f b (a % b) (by omega) hb2 (by omega), Nat.gcd_rec b a]
theorem q9_divisor {a b k : Nat} (ha : a ≤ 17) (hb : b ≤ 17) (hk : k ≤ 4) : fX9_divisor (nI a - nI b) (nI k) = some (nI (Nat.gcd k (p_ab (nI a - nI b)))) := by
  obtain ⟨h1, h2⟩ := p_ab_ok ha hb
  have h3 := div9_go k (199 - k) (p_ab (nI a - nI b)) k (Nat.le_refl k) (by omega) (by omega)
  rw [show k + 1 + (199 - k) = 200 by omega] at h3
  unfold fX9_divisor fX9_divisor_b10
  by_cases h : 0 ≤ nI a - nI b
  · rw [if_pos h] at h1 ⊢
    rw [← h1] at h3
    exact h3
  · rw [if_neg h] at h1 ⊢
    rw [← h1] at h3
    exact h3
theorem gcd_go : ∀ (n f a b k : Nat), b ≤ n → a < 2 ^ 31 → b < 2 ^ 31 → k + n ≤ 99 → fX8_greatestShared_L7 (n + 1 + f) (nI a) (nI b) (nI k) = some (nI (Nat.gcd b a))
  | 0, f, a, b, k, hb, ha, hb2, hk => by
    have : b = 0 := by omega
    subst this
    rw [show 0 + 1 + f = f + 1 by omega]
    show fX8_greatestShared_b7 _ _ _ _ = _
    unfold fX8_greatestShared_b7
    rw [if_neg (nI_ge (by omega) (by omega)), if_pos (by decide), Nat.gcd_zero_left]
  | n + 1, f, a, b, k, hb, ha, hb2, hk => by
    rw [show n + 1 + 1 + f = (n + 1 + f) + 1 by omega]
    show fX8_greatestShared_b7 _ _ _ _ = _
    unfold fX8_greatestShared_b7
    rw [if_neg (nI_ge (by omega) (by omega))]
    by_cases h : b = 0
    · subst h
      rw [if_pos (by decide), Nat.gcd_zero_left]
    · have hm := Nat.mod_lt a (show b > 0 by omega)
      rw [if_neg (nI_ne0 (by omega) hb2), if_neg (nI_ne0 (by omega) hb2), nI_mod ha hb2, nI_s, gcd_go n f b (a % b) (k + 1) (by omega) hb2 (by omega) (by omega), Nat.gcd_rec b a]
theorem q_gcd {a b k : Nat} (ha : a ≤ 17) (hb : b ≤ 17) (hk : k ≤ 4) : fX8_greatestShared (if 0 ≤ nI a - nI b then nI a - nI b else 0 - (nI a - nI b)) (nI k) = some (nI (Nat.gcd k (p_ab (nI a - nI b)))) := by
  obtain ⟨h1, h2⟩ := p_ab_ok ha hb
  have h3 := gcd_go k (199 - k) (p_ab (nI a - nI b)) k 0 (Nat.le_refl k) (by omega) (by omega) (by omega)
  rw [show k + 1 + (199 - k) = 200 by omega, ← h1] at h3
  have : (0 : Int32) - (nI a - nI b) = -(nI a - nI b) := by simp
  rw [this]
  exact h3
theorem pw9_go {j : Nat} (hj : j ≤ 4) (w : Int32) : ∀ (n f : Nat) (st : Int32 × Nat), n + j ≤ 4 → p_si (p_s9 L 0) j st → fX9_power_L71 (n + 1 + f) 96 w (nI j) st.1 (nI st.2) (nI (5 - n)) (p_H K S I L T Λ) = some (p_pf (p_sf2 (p_s9 L 0) j n st) w, (p_H K S I L T Λ))
  | 0, f, st, hn, hi => by
    rw [show 0 + 1 + f = f + 1 by omega]
    show fX9_power_b71 _ _ _ _ _ _ _ _ = _
    unfold fX9_power_b71
    rw [if_pos (nI_le (by omega) (by omega)), show p_sf2 (p_s9 L 0) j 0 st = st from rfl]
    unfold p_pf
    by_cases h0 : st.2 = 0
    · rw [if_pos h0, if_pos (by rw [h0]; rfl)]
    · obtain ⟨h1, h2, -⟩ := hi h0
      rw [if_neg h0, if_neg (nI_ne0 (by omega) (by omega)), h2, q9_divisor (p_lx_le _ _) (p_lx_le _ _) (by omega), Option.bind_some]
      have hg : 0 < Nat.gcd st.2 (p_ab (nI (p_lx (p_s9 L 0) j) - nI (p_lx (p_s9 L 0) (j + st.2)))) := Nat.gcd_pos_of_pos_left _ (by omega)
      have hg2 : Nat.gcd st.2 (p_ab (nI (p_lx (p_s9 L 0) j) - nI (p_lx (p_s9 L 0) (j + st.2)))) ≤ st.2 := Nat.gcd_le_left _ (by omega)
      by_cases hw : w = 0
      · rw [if_pos hw, if_pos hw, if_neg (nI_ne0 hg (by omega))]
      · rw [if_neg hw, if_neg hw, if_neg (nI_ne0 hg (by omega))]
  | n + 1, f, st, hn, hi => by
    rw [show n + 1 + 1 + f = (n + 1 + f) + 1 by omega]
    have h17 := p_lx_le (p_s9 L 0) (4 - n)
    show fX9_power_b71 _ _ _ _ _ _ _ _ = _
    unfold fX9_power_b71 fX9_power_b128 fX9_power_b133 fX9_power_b147 fX9_power_b161 fX9_power_b163
    have e1 : ∀ st, n + j ≤ 4 → p_si (p_s9 L 0) j st → fX9_power_L71 (n + 1 + f) 96 w (nI j) st.1 (nI st.2) (nI (5 - n)) (p_H K S I L T Λ) = some (p_pf (p_sf2 (p_s9 L 0) j n st) w, (p_H K S I L T Λ)) := fun st h h' => pw9_go hj w n f st h h'
    rw [if_neg (nI_ge (by omega) (by omega)), show 5 - (n + 1) = 4 - n by omega, q9_corner (by omega), q9_corner hj, Option.bind_some, Option.bind_some, Option.bind_some, nI_s, show 4 - n + 1 = 5 - n by omega, pk_sub (show j ≤ 4 - n by omega), p_sf2]
    simp only [show ¬ nI 1 = 0 by decide, if_false, nI_0, if_true]
    by_cases h : p_lx (p_s9 L 0) (4 - n) = 17
    · rw [if_pos (by rw [h]; decide), if_pos h]
      exact e1 st (by omega) hi
    · rw [if_neg (nI_ge (by omega) (by decide)), if_neg h]
      have hnew : p_si (p_s9 L 0) j (nI (p_lx (p_s9 L 0) j) - nI (p_lx (p_s9 L 0) (4 - n)), 4 - n - j) := fun _ => by
        dsimp only
        rw [show j + (4 - n - j) = 4 - n by omega]
        exact ⟨by omega, rfl, h⟩
      by_cases h0 : st.2 = 0
      · rw [if_pos (show nI st.2 = 0 by rw [h0]; rfl), if_pos (Or.inl h0)]
        exact e1 (_, _) (by omega) hnew
      · have h4 := (hi h0).1
        rw [if_neg (nI_ne0 (by omega) (by omega))]
        by_cases h1 : (nI (p_lx (p_s9 L 0) j) - nI (p_lx (p_s9 L 0) (4 - n))) * nI st.2 < st.1 * nI (4 - n - j)
        · rw [if_pos h1, if_neg (fun z => z.elim h0 (fun z => z h1))]
          exact e1 st (by omega) hi
        · rw [if_neg h1, if_pos (Or.inr h1)]
          exact e1 (_, _) (by omega) hnew
theorem pw9_out (w : Int32) : ∀ (n f : Nat), n ≤ 5 → fX9_power_L36 (n + 1 + f) 96 w (nI (5 - n)) (p_H K S I L T Λ) = some (p_pw (p_s9 L 0) w n, (p_H K S I L T Λ))
  | 0, f, hn => by
    rw [show 0 + 1 + f = f + 1 by omega]
    show fX9_power_b36 _ _ _ _ _ = _
    unfold fX9_power_b36 fX9_power_b59
    rw [if_pos (nI_le (by omega) (by omega)), show (200 : Nat) = 199 + 1 by rfl]
    show fX9_power_b71 _ _ _ _ _ _ _ _ = _
    unfold fX9_power_b71
    rw [if_pos (by decide), if_pos (by decide)]
    rfl
  | n + 1, f, hn => by
    rw [show n + 1 + 1 + f = (n + 1 + f) + 1 by omega]
    have h17 := p_lx_le (p_s9 L 0) (4 - n)
    show fX9_power_b36 _ _ _ _ _ = _
    unfold fX9_power_b36 fX9_power_b59
    rw [if_neg (nI_ge (by omega) (by omega)), show 5 - (n + 1) = 4 - n by omega, q9_corner (by omega), Option.bind_some, p_pw, nI_s, show 4 - n + 1 = 5 - n by omega]
    by_cases h : p_lx (p_s9 L 0) (4 - n) = 17
    · rw [if_pos (by rw [h]), if_pos h]
      exact pw9_out w n f (by omega)
    · rw [if_neg (fun z => h ((nI_eq (by omega) (by decide)).mp z)), if_neg h, show (200 : Nat) = n + 1 + (199 - n) by omega]
      exact pw9_go (S := S) (I := I) (L := L) (T := T) (K := K) (Λ := Λ) (show 4 - n ≤ 4 by omega) w n (199 - n) (nI 0, 0) (by omega) (fun z => absurd rfl z)
theorem in9_dg {n j : Nat} (hn : n ≤ 40) (hj : j ≤ 4) : fX9_in (nI n - nI j) (nI 0) (nI 16) = some (decide (j ≤ n ∧ n ≤ j + 16)) := by
  unfold fX9_in
  by_cases h : j ≤ n
  · rw [pk_sub h, if_neg (nI_nlt (by omega) (by omega))]
    by_cases h2 : 16 < n - j
    · rw [if_pos (nI_lt h2 (by omega))]
      simp; omega
    · rw [if_neg (nI_nlt (by omega) (by omega))]
      simp; omega
  · rw [if_pos (show nI n - nI j < nI 0 by
      have e : nI n - nI j = -nI (j - n) := by
        have : nI j = nI n + nI (j - n) := by rw [nI_add]; congr 1; omega
        rw [this]
        generalize nI n = x
        generalize nI (j - n) = y
        grind
      rw [e]
      exact nI_negl (by omega) (by omega))]
    simp; omega
theorem ln9_in (k38 : Nat → Int32 → Int32 → e_H → Option (Int32 × e_H)) {n : Nat} (hn : n ≤ 20) {t : Int32} (ht : ¬ nI 6 ≤ t) : ∀ (d f j : Nat), j + d = 5 → fX9_line_L73 k38 (d + 1 + f) 96 t (nI n) (p_rs (p_s9 L 0) n t.toInt64 j) (nI j) (p_H K S I L T Λ) = fX9_line_b137 k38 96 t (nI n) (p_sl (p_s9 L 0) n t.toInt64) (p_H K S I L T Λ)
  | 0, f, j, hj => by
    rw [show 0 + 1 + f = f + 1 by omega]
    show fX9_line_b73 _ _ _ _ _ _ _ _ = _
    unfold fX9_line_b73
    rw [if_pos (nI_le (by omega) (by omega)), show j = 5 by omega, p_rs_sl]
  | d + 1, f, j, hj => by
    rw [show d + 1 + 1 + f = (d + 1 + f) + 1 by omega]
    have ih := ln9_in k38 hn ht d f (j + 1) (by omega)
    rw [p_rs] at ih
    show fX9_line_b73 _ _ _ _ _ _ _ _ = _
    unfold fX9_line_b73 fX9_line_b128
    rw [if_neg (nI_ge (by omega) (by omega)), if_neg ht, in9_dg (by omega) (by omega), Option.bind_some, nI_s]
    by_cases h : j ≤ n ∧ n ≤ j + 16
    · rw [decide_eq_true h, if_neg eb_t, pk_sub h.1]
      simp only [gM_5, Option.bind_some, e_on, nI_mul, nI_add, p_ldL pk_101 (show 5 * (n - j) + j < 3400 by omega) (by decide)]
      rw [q9_raised _ (by omega), Option.bind_some, show L 101 (5 * (n - j) + j) = p_dg (p_s9 L 0) n j by unfold p_dg p_s9; rw [if_pos h]; congr 1; omega]
      exact ih
    · rw [decide_eq_false h, if_pos eb_f]
      have e : p_dg (p_s9 L 0) n j * p_pow t.toInt64 j = 0 := by
        unfold p_dg
        rw [if_neg h]
        grind
      rw [e] at ih
      exact ih
theorem ln9_go {t : Int32} (ht : ¬ nI 6 ≤ t) : ∀ (n f : Nat), n ≤ 21 → fX9_line_L38 (n + 1 + f) 96 t (nI (21 - n)) (p_H K S I L T Λ) = some (p_htf (p_s9 L 0) t.toInt64 n, (p_H K S I L T Λ))
  | 0, f, hn => by
    rw [show 0 + 1 + f = f + 1 by omega]
    show fX9_line_b38 _ _ _ _ _ = _
    unfold fX9_line_b38
    rw [if_pos (nI_le (by omega) (by omega))]
    rfl
  | n + 1, f, hn => by
    rw [show n + 1 + 1 + f = (n + 1 + f) + 1 by omega]
    have ih := ln9_go ht n f (by omega)
    show fX9_line_b38 _ _ _ _ _ = _
    unfold fX9_line_b38 fX9_line_b67 fX9_line_b68
    have h1 := ln9_in (S := S) (I := I) (L := L) (T := T) (K := K) (Λ := Λ) (fX9_line_L38 (n + 1 + f)) (show 20 - n ≤ 20 by omega) ht 5 194 0 (by omega)
    rw [if_neg (nI_ge (by omega) (by omega)), if_neg (fun z => ht (by rw [z]; decide)), show 21 - (n + 1) = 20 - n by omega]
    refine h1.trans ?_
    unfold fX9_line_b137
    rw [p_htf, nI_s, show 20 - n + 1 = 21 - n by omega]
    by_cases h : p_sl (p_s9 L 0) (20 - n) t.toInt64 = 0
    · rw [if_pos ((lg_cmp_eq _ _).mpr h), if_pos h]
      exact ih
    · rw [if_neg (fun z => h ((lg_cmp_eq _ _).mp z)), if_neg h]
def p_hu21 (c : Nat → Int64) : Nat → Int32
  | 0 => -1
  | n + 1 => if 20 - n < 5 then (if c (20 - n) = 0 then p_hu21 c n else nI (20 - n)) else p_hu21 c n
theorem p_hu21_eq (c : Nat → Int64) : p_hu21 c 21 = p_huf c 5 := by
  have h : p_hu21 c 16 = -1 := rfl
  simp only [p_hu21, p_huf]
  rfl
theorem hu9_go : ∀ (n f : Nat), n ≤ 21 → fX9_line_L38 (n + 1 + f) 96 (nI 6) (nI (21 - n)) (p_H K S I L T Λ) = some (p_hu21 (p_s9 L 0) n, (p_H K S I L T Λ))
  | 0, f, hn => by
    rw [show 0 + 1 + f = f + 1 by omega]
    show fX9_line_b38 _ _ _ _ _ = _
    unfold fX9_line_b38
    rw [if_pos (nI_le (by omega) (by omega))]
    rfl
  | n + 1, f, hn => by
    rw [show n + 1 + 1 + f = (n + 1 + f) + 1 by omega]
    have ih := hu9_go n f (by omega)
    have st : ∀ x, fX9_line_L73 (fX9_line_L38 (n + 1 + f)) 200 96 (nI 6) (nI (20 - n)) x (nI 0) (p_H K S I L T Λ) = if x = 0 then some (p_hu21 (p_s9 L 0) n, (p_H K S I L T Λ)) else some (nI (20 - n), (p_H K S I L T Λ)) := fun x => by
      rw [show (200 : Nat) = 199 + 1 by rfl]
      show fX9_line_b73 _ _ _ _ _ _ _ _ = _
      unfold fX9_line_b73 fX9_line_b137
      rw [if_neg (by decide), if_pos (by decide), nI_s, show 20 - n + 1 = 21 - n by omega, ih]
      by_cases h : x = 0
      · rw [if_pos ((lg_cmp_eq _ _).mpr h), if_pos h]
      · rw [if_neg (fun z => h ((lg_cmp_eq _ _).mp z)), if_neg h]
    show fX9_line_b38 _ _ _ _ _ = _
    unfold fX9_line_b38 fX9_line_b67 fX9_line_b68
    rw [if_neg (nI_ge (by omega) (by omega)), if_pos rfl, show 21 - (n + 1) = 20 - n by omega, p_hu21]
    by_cases h5 : 20 - n < 5
    · rw [if_neg (nI_ge h5 (by decide)), if_pos h5]
      simp only [gM_5, Option.bind_some, e_on, p_ldL pk_101 (show 20 - n < 3400 by omega) (by decide)]
      rw [st, show p_s9 L 0 (20 - n) = L 101 (20 - n) by unfold p_s9; congr 1; omega]
      by_cases h : L 101 (20 - n) = 0
      · rw [if_pos h, if_pos h]
      · rw [if_neg h, if_neg h]
    · rw [if_pos (nI_le (by omega) (by omega)), if_neg h5, st, if_pos rfl]
end POWER9
