theorem p_dz_f {c : Nat → Int64} {m : Nat} : ∀ n, n ≤ 5 → p_dz c m n = false → ∀ j, 5 - n ≤ j → j ≤ 4 → p_dg c m j = 0
  | 0, _, _, j, h1, h2 => by omega
  | n + 1, hn, h, j, h1, h2 => by
    unfold p_dz at h
    by_cases h0 : p_dg c m (4 - n) = 0
    · rw [if_pos h0] at h
      by_cases e : j = 4 - n
      · rw [e]; exact h0
      · exact p_dz_f n (by omega) h j (by omega) h2
    · rw [if_neg h0] at h
      exact absurd h (by decide)
theorem p_dz_t {c : Nat → Int64} {m : Nat} : ∀ n, n ≤ 5 → p_dz c m n = true → ∃ j, j ≤ 4 ∧ p_dg c m j ≠ 0
  | 0, _, h => absurd h (by simp [p_dz])
  | n + 1, hn, h => by
    unfold p_dz at h
    by_cases h0 : p_dg c m (4 - n) = 0
    · rw [if_pos h0] at h
      exact p_dz_t n (by omega) h
    · exact ⟨4 - n, by omega, h0⟩
theorem p_tmf_lt {c : Nat → Int64} : ∀ n, n ≤ 17 → (∀ m, 17 - n ≤ m → m < p_tmf c n → p_dz c m 5 = false) ∧ 17 - n ≤ p_tmf c n ∧ p_tmf c n ≤ 17 ∧ (p_tmf c n < 17 → p_dz c (p_tmf c n) 5 = true)
  | 0, _ => ⟨fun m h1 h2 => by simp [p_tmf] at h2; omega, by simp [p_tmf], by simp [p_tmf], fun z => absurd z (by simp [p_tmf])⟩
  | n + 1, hn => by
    obtain ⟨a, b, d, e⟩ := p_tmf_lt (c := c) n (by omega)
    unfold p_tmf
    cases h : p_dz c (16 - n) 5
    · rw [if_neg (by decide)]
      refine ⟨fun m h1 h2 => ?_, by omega, d, e⟩
      by_cases e2 : m = 16 - n
      · rw [e2]; exact h
      · exact a m (by omega) h2
    · rw [if_pos rfl]
      exact ⟨fun m h1 h2 => by omega, by omega, by omega, fun _ => h⟩
theorem p_tm_le (c : Nat → Int64) : p_tm c ≤ 17 := (p_tmf_lt 17 (by omega)).2.2.1
theorem p_tm_lt {c : Nat → Int64} {k : Nat} (hk : k < 85) (h : k / 5 + k % 5 < p_tm c) : c k = 0 := by
  have h1 := (p_tmf_lt (c := c) 17 (by omega)).1 (k / 5 + k % 5) (by omega) h
  have h2 := p_dz_f 5 (by omega) h1 (k % 5) (by omega) (by omega)
  unfold p_dg at h2
  rw [if_pos (by omega), show 5 * (k / 5 + k % 5 - k % 5) + k % 5 = k by omega] at h2
  exact h2
theorem p_tm_at {c : Nat → Int64} (h : p_tm c < 17) : ∃ j, j ≤ 4 ∧ p_dg c (p_tm c) j ≠ 0 := p_dz_t 5 (by omega) ((p_tmf_lt (c := c) 17 (by omega)).2.2.2 h)
theorem p_tm_un {c : Nat → Int64} {m : Nat} (hm : m ≤ 17) (h1 : ∀ k, k < 85 → k / 5 + k % 5 < m → c k = 0) (h2 : m < 17 → ∃ k, k < 85 ∧ k / 5 + k % 5 = m ∧ c k ≠ 0) : m = p_tm c := by
  rcases Nat.lt_trichotomy m (p_tm c) with h | h | h
  · have h17 := p_tm_le c
    obtain ⟨k, hk, e, hn⟩ := h2 (by omega)
    exact absurd (p_tm_lt hk (by omega)) hn
  · exact h
  · obtain ⟨j, hj, hn⟩ := p_tm_at (c := c) (by omega)
    unfold p_dg at hn
    by_cases hc : j ≤ p_tm c ∧ p_tm c ≤ j + 16
    · rw [if_pos hc] at hn
      exact absurd (h1 _ (by omega) (by omega)) hn
    · rw [if_neg hc] at hn
      exact absurd rfl hn
theorem p_dg_eq {c f : Nat → Int64} (h : ∀ k, k < 85 → c k = f k) {m j : Nat} (hj : j ≤ 4) : p_dg c m j = p_dg f m j := by
  unfold p_dg
  split
  · exact h _ (by omega)
  · rfl
theorem p_tm_eq {c f : Nat → Int64} (h : ∀ k, k < 85 → c k = f k) : p_tm c = p_tm f := by
  refine p_tm_un (p_tm_le c) (fun k hk hl => by rw [← h k hk]; exact p_tm_lt hk hl) (fun hl => ?_)
  obtain ⟨j, hj, hn⟩ := p_tm_at hl
  unfold p_dg at hn
  by_cases hc : j ≤ p_tm c ∧ p_tm c ≤ j + 16
  · rw [if_pos hc] at hn
    exact ⟨5 * (p_tm c - j) + j, by omega, by omega, by rw [← h _ (by omega)]; exact hn⟩
  · rw [if_neg hc] at hn
    exact absurd rfl hn
theorem p_hs_eq {c f : Nat → Int64} {y : Int64} : ∀ (n k : Nat), (∀ j, k ≤ j → j < k + n → c j = f j) → p_hs c y k n = p_hs f y k n
  | 0, k, h => rfl
  | n + 1, k, h => by
    unfold p_hs
    rw [p_hs_eq n (k + 1) (fun j h1 h2 => h j (by omega) (by omega)), h k (by omega) (by omega)]
theorem p_sl_eq {c f : Nat → Int64} (h : ∀ k, k < 85 → c k = f k) (m : Nat) (t : Int64) : p_sl c m t = p_sl f m t :=
  p_hs_eq 5 0 (fun j h1 h2 => p_dg_eq h (by omega))
theorem p_blw_eq {c f : Nat → Int64} (h : ∀ k, k < 85 → c k = f k) (m : Nat) (t : Int64) : p_blw c m t = p_blw f m t := by
  funext k
  unfold p_blw
  exact p_sf_eq (fun b hb => p_dg_eq h (by omega)) (by omega)
theorem p_lxf_eq {c f : Nat → Int64} (h : ∀ k, k < 85 → c k = f k) {j : Nat} (hj : j ≤ 4) : ∀ n, p_lxf c j n = p_lxf f j n
  | 0 => rfl
  | n + 1 => by
    unfold p_lxf
    rw [h _ (by omega), p_lxf_eq h hj n]
theorem p_lx_eq {c f : Nat → Int64} (h : ∀ k, k < 85 → c k = f k) {j : Nat} (hj : j ≤ 4) : p_lx c j = p_lx f j := p_lxf_eq h hj 17
theorem p_lxf_le (c : Nat → Int64) (j : Nat) : ∀ n, p_lxf c j n ≤ 17
  | 0 => by simp [p_lxf]
  | n + 1 => by
    unfold p_lxf
    split
    · exact p_lxf_le c j n
    · omega
theorem p_lx_le (c : Nat → Int64) (j : Nat) : p_lx c j ≤ 17 := p_lxf_le c j 17
-- SHAPE
def p_t2 (t : Nat → Nat → Int32) (a b : Nat) : Int64 := if a + b ≤ 4 then (t a b).toInt64 else 0
def p_shp (t : Nat → Nat → Int32) (x y : Int64) (k : Nat) : Int64 := if k < 25 then p_sf y (fun b => p_sf x (fun a => p_t2 t a b) (k / 5)) (k % 5) else 0
def p_st0 (t : Nat → Nat → Int32) (N k : Nat) : Int64 := if k < 25 ∧ k < N then p_t2 t (k / 5) (k % 5) else 0
-- bits of what holds
def p_bits (P : Nat → Bool) : Nat → Int32
  | 0 => nI 0
  | u + 1 => if P u then p_bits P u ||| (nI 1 <<< (nI u &&& 31)) else p_bits P u
def p_slp (Λ : Nat → p_Lw) (lw : Nat → Nat) (n : Nat) (c : Nat → Int64) (m u : Nat) : Bool := decide (p_sl c m (nI u - nI 5).toInt64 = 0) && !decide (p_lg Λ lw n (nI 1) (nI u - nI 5) (nI m) (nI 0) (nI 1) = 0)
def p_dv (t : Int64) (c : Nat → Int64) (k : Nat) : Int64 := if k < 5 then p_hs c t (k + 1) (4 - k) else c k
def p_of (t : Int64) : Nat → (Nat → Int64) → Nat
  | 0, _ => 0
  | n + 1, c => if p_hs c t 0 5 = 0 then p_of t n (p_dv t c) + 1 else 0
section STAND
variable {K : Nat} {S I : Nat → Nat → Int32} {L : Nat → Nat → Int64} {T : Nat → Nat → Option Nat} {Λ : Nat → p_Lw}
theorem stand_in {v w : Nat} {t : Nat → Nat → Int32} (hv : p_isV v w) (ht : ∀ k l, k + l ≤ 4 → I (v + 1) (p_ixn k l) = t k l) (k14 : Nat → Int32 → Int32 → Nat → Int32 → e_H → Option (Option Nat × e_H)) (x y : Int32) {i : Nat} (hi : i ≤ 4) : ∀ (d m j : Nat) (c : Nat → Int64), j + d = 5 - i → (∀ k, k < 85 → c k = p_st0 t (5 * i + j) k) →
    ∃ c', (∀ k, k < 85 → c' k = p_st0 t (5 * (i + 1)) k) ∧ fX6_stand_L23 k14 (d + 1 + m) v x y (v + 6) (nI i) (nI j) (p_H K S I (va_up L (v + 7) c) T Λ) = k14 v x y (v + 6) (nI (i + 1)) (p_H K S I (va_up L (v + 7) c') T Λ)
  | 0, m, j, c, hj, hc => by
    refine ⟨c, fun k hk => ?_, ?_⟩
    · rw [hc k hk]
      unfold p_st0
      by_cases h : k < 25 ∧ k < 5 * i + j
      · rw [if_pos h, if_pos (by omega)]
      · rw [if_neg h]
        by_cases h2 : k < 25 ∧ k < 5 * (i + 1)
        · rw [if_pos h2]
          unfold p_t2
          rw [if_neg (by omega)]
        · rw [if_neg h2]
    · rw [show 0 + 1 + m = m + 1 by omega]
      show fX6_stand_b23 _ _ _ _ _ _ _ _ _ = _
      unfold fX6_stand_b23
      rw [pk_sub (show i ≤ 4 by omega), if_pos (nI_lt (by omega) (by omega)), nI_s]
  | d + 1, m, j, c, hj, hc => by
    have hij : i + j ≤ 4 := by omega
    have hs : p_isS (v + 6) := pk_sv hv (show 0 < 3 by decide)
    obtain ⟨c', g1, g2⟩ := stand_in hv ht k14 x y hi d m (j + 1) (vp_updL c (5 * i + j) (c (5 * i + j) + (t i j).toInt64)) (by omega) (fun k hk => by
      simp only [vp_updL]
      by_cases e : k = 5 * i + j
      · rw [if_pos e, hc _ (by omega)]
        unfold p_st0
        rw [if_neg (by omega), if_pos (by omega), show k / 5 = i by omega, show k % 5 = j by omega]
        unfold p_t2
        rw [if_pos hij]
        grind
      · rw [if_neg e, hc k hk]
        unfold p_st0
        by_cases h : k < 25 ∧ k < 5 * i + j
        · rw [if_pos h, if_pos (by omega)]
        · rw [if_neg h, if_neg (by omega)])
    refine ⟨c', g1, ?_⟩
    rw [← g2, show d + 1 + 1 + m = (d + 1 + m) + 1 by omega]
    show fX6_stand_b23 _ _ _ _ _ _ _ _ _ = _
    unfold fX6_stand_b23
    rw [pk_sub (show i ≤ 4 by omega), if_neg (nI_nlt (by omega) (by omega)), q_termOf hv hij, Option.bind_some, ht i j hij, q_add hs (by omega) (by omega), Option.bind_some, nI_s, va_up_up, va_up_s]
theorem stand_out {v w : Nat} {t : Nat → Nat → Int32} (hv : p_isV v w) (ht : ∀ k l, k + l ≤ 4 → I (v + 1) (p_ixn k l) = t k l) (x y : Int32) : ∀ (d m i : Nat) (c : Nat → Int64), i + d = 5 → (∀ k, k < 85 → c k = p_st0 t (5 * i) k) →
    ∃ c', (∀ k, k < 85 → c' k = p_shp t x.toInt64 y.toInt64 k) ∧ fX6_stand_L14 (d + 1 + m) v x y (v + 6) (nI i) (p_H K S I (va_up L (v + 7) c) T Λ) = some (some (v + 6), (p_H K S I (va_up L (v + 7) c') T Λ))
  | 0, m, i, c, hi, hc => by
    have hs : p_isS (v + 6) := pk_sv hv (show 0 < 3 by decide)
    refine ⟨p_mY y.toInt64 4 4 (p_mX x.toInt64 4 c), fun k hk => ?_, ?_⟩
    · rw [show 5 * i = 25 by omega] at hc
      unfold p_shp
      by_cases h : k < 25
      · rw [if_pos h]
        conv => lhs; rw [show k = 5 * (k / 5) + k % 5 by omega]
        rw [p_mY_row (by omega) _ (by omega)]
        refine p_sf_eq (fun b hb => ?_) (by omega)
        have hz : ∀ a, a < 5 → c (5 * a + b) = p_t2 t a b := fun a ha => by
          rw [hc _ (by omega)]
          unfold p_st0
          rw [if_pos (by omega), show (5 * a + b) / 5 = a by omega, show (5 * a + b) % 5 = b by omega]
        rw [p_mX_col (by omega) (fun a ha h4 => by
          rw [hz a ha]
          unfold p_t2
          rw [if_neg (by omega)]) _ (by omega)]
        exact p_sf_eq hz (by omega)
      · rw [if_neg h, p_mY_out (by omega), p_mX_out (by omega), hc k hk]
        unfold p_st0
        rw [if_neg (by omega)]
    · rw [show 0 + 1 + m = m + 1 by omega]
      show fX6_stand_b14 _ _ _ _ _ _ _ = _
      unfold fX6_stand_b14
      rw [if_pos (nI_lt (by omega) (by omega)), q_moveX hs, Option.bind_some, q_moveY hs y (by decide), Option.bind_some, va_up_up, va_up_up, va_up_s, va_up_s]
  | d + 1, m, i, c, hi, hc => by
    obtain ⟨c1, g1, g2⟩ := stand_in (L := L) (S := S) (T := T) (Λ := Λ) (K := K) hv ht (fX6_stand_L14 (d + 1 + m)) x y (show i ≤ 4 by omega) (5 - i) (199 - (5 - i)) 0 c (by omega) hc
    obtain ⟨c2, g3, g4⟩ := stand_out hv ht x y d m (i + 1) c1 (by omega) g1
    refine ⟨c2, g3, ?_⟩
    rw [← g4, ← g2, show d + 1 + 1 + m = (d + 1 + m) + 1 by omega]
    show fX6_stand_b14 _ _ _ _ _ _ _ = _
    unfold fX6_stand_b14
    rw [if_neg (nI_nlt (by omega) (by omega)), show 5 - i + 1 + (199 - (5 - i)) = 200 by omega]
theorem q_stand {v w : Nat} {t : Nat → Nat → Int32} (hv : p_isV v w) (ht : ∀ k l, k + l ≤ 4 → I (v + 1) (p_ixn k l) = t k l) (x y : Int32) : ∃ c, (∀ k, k < 85 → c k = p_shp t x.toInt64 y.toInt64 k) ∧ fX6_stand v x y (p_H K S I L T Λ) = some (some (v + 6), (p_H K S I (va_up L (v + 7) c) T Λ)) := by
  have hs : p_isS (v + 6) := pk_sv hv (show 0 < 3 by decide)
  obtain ⟨f, hf, hcl⟩ := q_clear (S := S) (I := I) (L := L) (T := T) (Λ := Λ) (K := K) hs
  obtain ⟨c, hc, hg⟩ := stand_out (S := S) (L := L) (T := T) (Λ := Λ) (K := K) hv ht x y 5 194 0 f (by omega) (fun k hk => by
    rw [hf k hk]
    unfold p_st0
    rw [if_neg (by omega)])
  refine ⟨c, hc, ?_⟩
  unfold fX6_stand
  simp only [gV_o hv, gV_0 hv, gV_1 hv, gV_2 hv, gV_3 hv, gV_4 hv, gV_5 hv, gV_6 hv, gV_7 hv, gV_8 hv, gV_p0 hv, gV_p1 hv, gV_p2 hv, p_lenI (pk_v1 hv), p_lenI (pk_v2 hv), p_lenI (pk_v3 hv), p_lenF (pk_v4 hv), p_lenL (pk_v5 hv), Option.bind_some, e_on, p_ldF (pk_v4 hv) (show 0 < 3 by decide) (by decide), if_pos (show 0 < 3 by decide), Nat.mul_zero, Nat.add_zero, hcl]
  exact hg
end STAND
