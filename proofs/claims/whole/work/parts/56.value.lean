-- a term by its place in a row of 25 (5 i and j), 0 where there is none
def p_t25 (t : Nat → Nat → Int32) (k : Nat) : Int32 := if k / 5 + k % 5 ≤ 4 then t (k / 5) (k % 5) else 0
def p_deg (t : Nat → Nat → Int32) : Nat → Int32
  | 0 => -1
  | k + 1 => if p_t25 t k = 0 then p_deg t k else if p_deg t k < nI (k / 5 + k % 5) then nI (k / 5 + k % 5) else p_deg t k
-- c k .. c (k + n - 1) as one number's powers, the first one plain
def p_hs (c : Nat → Int64) (y : Int64) (k : Nat) : Nat → Int64
  | 0 => 0
  | n + 1 => p_hs c y (k + 1) n * y + c k
def p_vl (t : Nat → Nat → Int32) (x y : Int64) : Int64 := p_hs (fun i => p_hs (fun j => (t i j).toInt64) y 0 (5 - i)) x 0 5
theorem p_deg_skip (t : Nat → Nat → Int32) {i : Nat} (hi : i ≤ 4) : ∀ d, p_deg t (5 * i + (5 - i) + d) = p_deg t (5 * i + (5 - i)) ∨ ¬ d ≤ i
  | 0 => Or.inl rfl
  | d + 1 => by
    by_cases hd : d + 1 ≤ i
    · left
      have ih := (p_deg_skip t hi d).resolve_right (fun z => z (by omega))
      rw [← ih, show 5 * i + (5 - i) + (d + 1) = (5 * i + (5 - i) + d) + 1 by omega]
      show (if p_t25 t (5 * i + (5 - i) + d) = 0 then _ else _) = _
      rw [if_pos]
      unfold p_t25
      rw [if_neg (by omega)]
    · exact Or.inr hd
theorem p_deg_row (t : Nat → Nat → Int32) {i : Nat} (hi : i ≤ 4) : p_deg t (5 * (i + 1)) = p_deg t (5 * i + (5 - i)) := by
  have := (p_deg_skip t hi i).resolve_right (fun z => z (Nat.le_refl i))
  rw [← this]
  congr 1
  omega
section VAL
variable {K : Nat} {S I : Nat → Nat → Int32} {L : Nat → Nat → Int64} {T : Nat → Nat → Option Nat} {Λ : Nat → p_Lw}
theorem q_termOf {v w i j : Nat} (hv : p_isV v w) (h : i + j ≤ 4) : fX6_termOf v (nI i) (nI j) (p_H K S I L T Λ) = some (I (v + 1) (p_ixn i j)) := by
  unfold fX6_termOf
  have hk := p_ixn_lt h
  simp only [gV_o hv, gV_0 hv, gV_1 hv, gV_2 hv, gV_3 hv, gV_4 hv, gV_5 hv, gV_6 hv, gV_7 hv, gV_8 hv, gV_p0 hv, gV_p1 hv, gV_p2 hv, p_lenI (pk_v1 hv), p_lenI (pk_v2 hv), p_lenI (pk_v3 hv), p_lenF (pk_v4 hv), p_lenL (pk_v5 hv), Option.bind_some, e_on, q_indexOf h, p_ldI (pk_v1 hv) hk (by decide)]
  rw [if_neg (nI_pos (by omega)), if_pos (nI_lt hk (by decide))]
theorem deg_in {v w : Nat} {t : Nat → Nat → Int32} (hv : p_isV v w) (ht : ∀ k l, k + l ≤ 4 → I (v + 1) (p_ixn k l) = t k l) (k4 : Nat → Int32 → Int32 → Option Int32) {i : Nat} (hi : i ≤ 4) : ∀ (d m j : Nat), j + d = 5 - i → fX6_degree_L11 (p_H K S I L T Λ) k4 (d + 1 + m) v (p_deg t (5 * i + j)) (nI i) (nI j) = k4 v (p_deg t (5 * (i + 1))) (nI (i + 1))
  | 0, m, j, hj => by
    rw [show 0 + 1 + m = m + 1 by omega]
    show fX6_degree_b11 _ _ _ _ _ _ _ = _
    unfold fX6_degree_b11
    rw [pk_sub (show i ≤ 4 by omega), if_pos (nI_lt (by omega) (by omega)), nI_s, p_deg_row t hi, show j = 5 - i by omega]
  | d + 1, m, j, hj => by
    have hij : i + j ≤ 4 := by omega
    rw [show d + 1 + 1 + m = (d + 1 + m) + 1 by omega]
    have ih := deg_in hv ht k4 hi d m (j + 1) (by omega)
    show fX6_degree_b11 _ _ _ _ _ _ _ = _
    unfold fX6_degree_b11 fX6_degree_b35
    rw [pk_sub (show i ≤ 4 by omega), if_neg (nI_nlt (by omega) (by omega)), q_termOf hv hij, Option.bind_some, ht i j hij, nI_s, nI_add]
    rw [show 5 * i + (j + 1) = (5 * i + j) + 1 by omega] at ih
    have h25 : p_t25 t (5 * i + j) = t i j := by
      unfold p_t25
      rw [show (5 * i + j) / 5 = i by omega, show (5 * i + j) % 5 = j by omega, if_pos hij]
    have hdg : p_deg t (5 * i + j + 1) = if t i j = 0 then p_deg t (5 * i + j) else if p_deg t (5 * i + j) < nI (i + j) then nI (i + j) else p_deg t (5 * i + j) := by
      show (if p_t25 t (5 * i + j) = 0 then _ else _) = _
      rw [h25, show (5 * i + j) / 5 = i by omega, show (5 * i + j) % 5 = j by omega]
    rw [hdg] at ih
    by_cases h0 : t i j = 0
    · rw [if_pos h0] at ih ⊢; exact ih
    · rw [if_neg h0] at ih ⊢; exact ih
theorem deg_out {v w : Nat} {t : Nat → Nat → Int32} (hv : p_isV v w) (ht : ∀ k l, k + l ≤ 4 → I (v + 1) (p_ixn k l) = t k l) : ∀ (d m i : Nat), i + d = 5 → fX6_degree_L4 (p_H K S I L T Λ) (d + 1 + m) v (p_deg t (5 * i)) (nI i) = some (p_deg t 25)
  | 0, m, i, hi => by
    rw [show 0 + 1 + m = m + 1 by omega]
    show fX6_degree_b4 _ _ _ _ _ = _
    unfold fX6_degree_b4
    rw [if_pos (nI_lt (by omega) (by omega)), show 5 * i = 25 by omega]
  | d + 1, m, i, hi => by
    rw [show d + 1 + 1 + m = (d + 1 + m) + 1 by omega]
    show fX6_degree_b4 _ _ _ _ _ = _
    unfold fX6_degree_b4
    rw [if_neg (nI_nlt (by omega) (by omega)), show (200 : Nat) = 5 - i + 1 + (199 - (5 - i)) by omega]
    have := deg_in (S := S) (L := L) (T := T) (Λ := Λ) (K := K) hv ht (fX6_degree_L4 (p_H K S I L T Λ) (d + 1 + m)) (show i ≤ 4 by omega) (5 - i) (199 - (5 - i)) 0 (by omega)
    refine Eq.trans this ?_
    exact deg_out hv ht d m (i + 1) (by omega)
theorem q_degree {v w : Nat} {t : Nat → Nat → Int32} (hv : p_isV v w) (ht : ∀ k l, k + l ≤ 4 → I (v + 1) (p_ixn k l) = t k l) : fX6_degree v (p_H K S I L T Λ) = some (p_deg t 25) := by
  unfold fX6_degree
  rw [gV_o hv, Option.bind_some]
  exact deg_out hv ht 5 194 0 (by omega)
theorem termsNotZero_go {v w : Nat} (hv : p_isV v w) : ∀ (d m k : Nat), k + d = 15 → fX6_termsNotZero_L4 (p_H K S I L T Λ) (d + 1 + m) v (nI (p_cnt (I (v + 1)) k)) (nI k) = some (nI (p_cnt (I (v + 1)) 15))
  | 0, m, k, hk => by
    rw [show 0 + 1 + m = m + 1 by omega]
    show fX6_termsNotZero_b4 _ _ _ _ _ = _
    unfold fX6_termsNotZero_b4
    simp only [gV_o hv, gV_0 hv, gV_1 hv, gV_2 hv, gV_3 hv, gV_4 hv, gV_5 hv, gV_6 hv, gV_7 hv, gV_8 hv, gV_p0 hv, gV_p1 hv, gV_p2 hv, p_lenI (pk_v1 hv), p_lenI (pk_v2 hv), p_lenI (pk_v3 hv), p_lenF (pk_v4 hv), p_lenL (pk_v5 hv), Option.bind_some, e_on]
    rw [if_pos (nI_le (by omega) (by omega)), show k = 15 by omega]
  | d + 1, m, k, hk => by
    rw [show d + 1 + 1 + m = (d + 1 + m) + 1 by omega]
    show fX6_termsNotZero_b4 _ _ _ _ _ = _
    unfold fX6_termsNotZero_b4 fX6_termsNotZero_b25
    simp only [gV_o hv, gV_0 hv, gV_1 hv, gV_2 hv, gV_3 hv, gV_4 hv, gV_5 hv, gV_6 hv, gV_7 hv, gV_8 hv, gV_p0 hv, gV_p1 hv, gV_p2 hv, p_lenI (pk_v1 hv), p_lenI (pk_v2 hv), p_lenI (pk_v3 hv), p_lenF (pk_v4 hv), p_lenL (pk_v5 hv), Option.bind_some, e_on, p_ldI (pk_v1 hv) (show k < 15 by omega) (by decide)]
    rw [if_neg (nI_ge (by omega) (by decide)), nI_s, nI_s]
    have ih := termsNotZero_go hv d m (k + 1) (by omega)
    rw [p_cnt] at ih
    by_cases h0 : I (v + 1) k = 0
    · rw [if_pos h0] at ih ⊢; exact ih
    · rw [if_neg h0] at ih ⊢; exact ih
theorem q_termsNotZero {v w : Nat} (hv : p_isV v w) : fX6_termsNotZero v (p_H K S I L T Λ) = some (nI (p_cnt (I (v + 1)) 15)) := by
  unfold fX6_termsNotZero
  rw [gV_o hv, Option.bind_some]
  exact termsNotZero_go hv 15 184 0 (by omega)
theorem val_in {v w : Nat} {t : Nat → Nat → Int32} (hv : p_isV v w) (ht : ∀ k l, k + l ≤ 4 → I (v + 1) (p_ixn k l) = t k l) (k5 : Nat → Int32 → Int32 → Int64 → Int32 → Option Int64) (x y : Int32) (s : Int64) {i : Nat} (hi : i ≤ 4) : ∀ (d m : Nat), d ≤ 5 - i → fX6_valueAt_L19 (p_H K S I L T Λ) k5 (d + 1 + m) v x y s (nI i) (p_hs (fun j => (t i j).toInt64) y.toInt64 d (5 - i - d)) (nI d - nI 1) = k5 v x y (s * x.toInt64 + p_hs (fun j => (t i j).toInt64) y.toInt64 0 (5 - i)) (nI i - nI 1)
  | 0, m, hd => by
    rw [show 0 + 1 + m = m + 1 by omega]
    show fX6_valueAt_b19 _ _ _ _ _ _ _ _ _ _ = _
    unfold fX6_valueAt_b19
    rw [if_pos (by decide), Int32.sub_eq_add_neg]
    rfl
  | d + 1, m, hd => by
    rw [show d + 1 + 1 + m = (d + 1 + m) + 1 by omega, show nI (d + 1) - nI 1 = nI d from nI_pred d]
    show fX6_valueAt_b19 _ _ _ _ _ _ _ _ _ _ = _
    unfold fX6_valueAt_b19
    have ih := val_in hv ht k5 x y s hi d m (by omega)
    rw [if_neg (nI_pos (by omega)), q_termOf hv (by omega), Option.bind_some, ht i d (by omega), show nI d + (-1 : Int32) = nI d - nI 1 from (Int32.sub_eq_add_neg _ _).symm]
    rw [show 5 - i - d = (5 - i - (d + 1)) + 1 by omega] at ih
    exact ih
theorem val_out {v w : Nat} {t : Nat → Nat → Int32} (hv : p_isV v w) (ht : ∀ k l, k + l ≤ 4 → I (v + 1) (p_ixn k l) = t k l) (x y : Int32) : ∀ (i m : Nat), i ≤ 5 → fX6_valueAt_L5 (p_H K S I L T Λ) (i + 1 + m) v x y (p_hs (fun i => p_hs (fun j => (t i j).toInt64) y.toInt64 0 (5 - i)) x.toInt64 i (5 - i)) (nI i - nI 1) = some (p_vl t x.toInt64 y.toInt64)
  | 0, m, hi => by
    rw [show 0 + 1 + m = m + 1 by omega]
    show fX6_valueAt_b5 _ _ _ _ _ _ _ = _
    unfold fX6_valueAt_b5
    rw [if_pos (by decide)]
    rfl
  | i + 1, m, hi => by
    rw [show i + 1 + 1 + m = (i + 1 + m) + 1 by omega, show nI (i + 1) - nI 1 = nI i from nI_pred i]
    show fX6_valueAt_b5 _ _ _ _ _ _ _ = _
    unfold fX6_valueAt_b5
    rw [if_neg (nI_pos (by omega)), pk_sub (show i ≤ 4 by omega), show (200 : Nat) = (5 - i) + 1 + (199 - (5 - i)) by omega]
    have h1 := val_in (S := S) (L := L) (T := T) (Λ := Λ) (K := K) hv ht (fX6_valueAt_L5 (p_H K S I L T Λ) (i + 1 + m)) x y (p_hs (fun i => p_hs (fun j => (t i j).toInt64) y.toInt64 0 (5 - i)) x.toInt64 (i + 1) (5 - (i + 1))) (show i ≤ 4 by omega) (5 - i) (199 - (5 - i)) (Nat.le_refl _)
    rw [show 5 - i - (5 - i) = 0 by omega] at h1
    rw [show nI (4 - i) = nI (5 - i) - nI 1 by rw [pk_sub (b := 1) (show 1 ≤ 5 - i by omega)]; congr 1; omega]
    refine h1.trans ?_
    have ih := val_out hv ht x y i m (by omega)
    have hs : p_hs (fun i => p_hs (fun j => (t i j).toInt64) y.toInt64 0 (5 - i)) x.toInt64 i (5 - i) = p_hs (fun i => p_hs (fun j => (t i j).toInt64) y.toInt64 0 (5 - i)) x.toInt64 (i + 1) (5 - (i + 1)) * x.toInt64 + p_hs (fun j => (t i j).toInt64) y.toInt64 0 (5 - i) := by
      generalize hc : (fun i => p_hs (fun j => (t i j).toInt64) y.toInt64 0 (5 - i)) = c
      rw [show p_hs (fun j => (t i j).toInt64) y.toInt64 0 (5 - i) = c i by rw [← hc]]
      rw [show 5 - i = (5 - (i + 1)) + 1 by omega]
      rfl
    rw [hs] at ih
    exact ih
theorem q_valueAt {v w : Nat} {t : Nat → Nat → Int32} (hv : p_isV v w) (ht : ∀ k l, k + l ≤ 4 → I (v + 1) (p_ixn k l) = t k l) (x y : Int32) : fX6_valueAt v x y (p_H K S I L T Λ) = some (p_vl t x.toInt64 y.toInt64) := by
  unfold fX6_valueAt
  rw [gV_o hv, Option.bind_some]
  exact val_out hv ht x y 5 194 (Nat.le_refl _)
end VAL
