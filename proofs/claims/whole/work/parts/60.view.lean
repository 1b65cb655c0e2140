theorem t5_n {u : Nat} (h : u < 11) : ¬ nI 5 < nI u - nI 5 := by revert u; decide
theorem t5_e : nI 5 < nI 11 - nI 5 := by decide
theorem t5_a (u : Nat) : nI u - nI 5 + nI 5 = nI u := by
  generalize nI u = a
  generalize nI 5 = b
  grind
theorem t5_s (u : Nat) : nI u - nI 5 + nI 1 = nI (u + 1) - nI 5 := by
  rw [← nI_s u]
  generalize nI u = a
  generalize nI 5 = b
  generalize nI 1 = c
  grind
theorem t5_0 : (-5 : Int32) = nI 0 - nI 5 := by decide
theorem p_of_eq (t : Int64) : ∀ (n : Nat) {c f : Nat → Int64}, (∀ k, k < 5 → c k = f k) → p_of t n c = p_of t n f
  | 0, c, f, h => rfl
  | n + 1, c, f, h => by
    unfold p_of
    have e : ∀ k, k < 5 → p_dv t c k = p_dv t f k := fun k hk => by
      unfold p_dv
      rw [if_pos hk, if_pos hk, p_hs_eq (4 - k) (k + 1) (fun j h1 h2 => h j (by omega))]
    rw [p_hs_eq 5 0 (fun j h1 h2 => h j (by omega)), p_of_eq t n e]
def p_br (m : Nat) : Bool := decide (1 ≤ m ∧ m ≤ 16)
theorem q_branches {m : Nat} (h : m ≤ 40) : fX3_branches (nI m) = some (p_br m) := by
  unfold fX3_branches p_br
  by_cases h1 : m < 1
  · rw [if_pos (nI_lt h1 (by decide))]
    simp; omega
  · rw [if_neg (nI_nlt (by omega) (by omega))]
    by_cases h2 : 16 < m
    · rw [if_pos (nI_lt h2 (by omega))]
      simp; omega
    · rw [if_neg (nI_nlt (by omega) (by omega))]
      simp; omega
section VIEW
variable {K : Nat} {S I : Nat → Nat → Int32} {L : Nat → Nat → Int64} {T : Nat → Nat → Option Nat} {Λ : Nat → p_Lw}
theorem sb_go {v w s m n : Nat} {lw : Nat → Nat} (hv : p_isV v w) (hs : p_isS s) (hm : m ≤ 40) (hl : p_laws T K w n lw) (h1 : S w 1 = nI n) (hf : p_lwf Λ lw n) : ∀ (d f u : Nat) (st : Nat → Int32), u + d = 11 → ∃ st', fX6_slopeBits_L6 (d + 1 + f) v s (nI m) (p_bits (p_slp Λ lw n (L (s + 1)) m) u) (nI u - nI 5) (p_H K S (va_up I (w + 3) st) L T Λ) = some (p_bits (p_slp Λ lw n (L (s + 1)) m) 11, (p_H K S (va_up I (w + 3) st') L T Λ))
  | 0, f, u, st, hu => by
    refine ⟨st, ?_⟩
    rw [show 0 + 1 + f = f + 1 by omega]
    show fX6_slopeBits_b6 _ _ _ _ _ _ _ = _
    unfold fX6_slopeBits_b6
    rw [show u = 11 by omega, if_pos t5_e]
  | d + 1, f, u, st, hu => by
    rw [show d + 1 + 1 + f = (d + 1 + f) + 1 by omega]
    obtain ⟨st1, hg⟩ := q_lawGives (S := S) (I := va_up I (w + 3) st) (L := L) hv.w hl h1 hf (nI 1) (nI u - nI 5) (nI m) (nI 0) (nI 1)
    obtain ⟨st2, g2⟩ := sb_go hv hs hm hl h1 hf d f (u + 1) st (by omega)
    obtain ⟨st3, g3⟩ := sb_go hv hs hm hl h1 hf d f (u + 1) st1 (by omega)
    simp only [p_bits] at g2 g3
    show ∃ st', fX6_slopeBits_b6 _ _ _ _ _ _ _ = _
    unfold fX6_slopeBits_b6
    rw [if_neg (t5_n (by omega)), q_sol hs hm, Option.bind_some]
    by_cases h0 : p_sl (L (s + 1)) m (nI u - nI 5).toInt64 = 0
    · rw [if_pos ((lg_cmp_eq _ _).mpr h0)]
      simp only [gV_o hv, gV_0 hv, gV_1 hv, gV_2 hv, gV_3 hv, gV_4 hv, gV_5 hv, gV_6 hv, gV_7 hv, gV_8 hv, gV_p0 hv, gV_p1 hv, gV_p2 hv, p_lenI (pk_v1 hv), p_lenI (pk_v2 hv), p_lenI (pk_v3 hv), p_lenF (pk_v4 hv), p_lenL (pk_v5 hv), Option.bind_some, e_on, hg, va_up_up]
      by_cases hp : p_lg Λ lw n (nI 1) (nI u - nI 5) (nI m) (nI 0) (nI 1) = 0
      · rw [if_pos hp]
        unfold fX6_slopeBits_b49
        rw [show p_slp Λ lw n (L (s + 1)) m u = false by unfold p_slp; simp [hp], if_neg (by decide)] at g3
        rw [t5_s]
        exact ⟨st3, g3⟩
      · rw [if_neg hp]
        unfold fX6_slopeBits_b49
        rw [show p_slp Λ lw n (L (s + 1)) m u = true by unfold p_slp; simp [hp, h0], if_pos rfl] at g3
        rw [t5_s, t5_a]
        exact ⟨st3, g3⟩
    · rw [if_neg (fun z => h0 ((lg_cmp_eq _ _).mp z))]
      unfold fX6_slopeBits_b49
      rw [show p_slp Λ lw n (L (s + 1)) m u = false by unfold p_slp; simp [h0], if_neg (by decide)] at g2
      rw [t5_s]
      exact ⟨st2, g2⟩
theorem q_slopeBits {v w s m n : Nat} {lw : Nat → Nat} (hv : p_isV v w) (hs : p_isS s) (hm : m ≤ 40) (hl : p_laws T K w n lw) (h1 : S w 1 = nI n) (hf : p_lwf Λ lw n) : ∃ st', fX6_slopeBits v s (nI m) (p_H K S I L T Λ) = some (p_bits (p_slp Λ lw n (L (s + 1)) m) 11, (p_H K S (va_up I (w + 3) st') L T Λ)) := by
  unfold fX6_slopeBits
  rw [gV_o hv, Option.bind_some, t5_0]
  obtain ⟨st', h⟩ := sb_go (I := I) (S := S) (L := L) hv hs hm hl h1 hf 11 188 0 (I (w + 3)) (by omega)
  rw [p_up_id] at h
  exact ⟨st', h⟩
theorem pb2_go {v w : Nat} (hv : p_isV v w) (t : Int32) (c : Nat → Int64) : ∀ (n f : Nat), n ≤ 5 → fX6_partBy_L55 (n + 1 + f) v t (p_hs c t.toInt64 n (5 - n)) (nI n - nI 1) (p_H K S I (va_up L (v + 5) (fun k => if n ≤ k ∧ k < 5 then p_hs c t.toInt64 (k + 1) (4 - k) else c k)) T Λ) = some (true, (p_H K S I (va_up L (v + 5) (p_dv t.toInt64 c)) T Λ))
  | 0, f, hn => by
    rw [show 0 + 1 + f = f + 1 by omega]
    show fX6_partBy_b55 _ _ _ _ _ _ = _
    unfold fX6_partBy_b55
    rw [if_pos (by decide)]
    congr 3
    congr 1
    funext k
    unfold p_dv
    by_cases h : k < 5
    · rw [if_pos h, if_pos ⟨Nat.zero_le _, h⟩]
    · rw [if_neg h, if_neg (fun z => h z.2)]
  | n + 1, f, hn => by
    rw [show n + 1 + 1 + f = (n + 1 + f) + 1 by omega, show nI (n + 1) - nI 1 = nI n from nI_pred n]
    show fX6_partBy_b55 _ _ _ _ _ _ = _
    unfold fX6_partBy_b55
    simp only [gV_o hv, gV_0 hv, gV_1 hv, gV_2 hv, gV_3 hv, gV_4 hv, gV_5 hv, gV_6 hv, gV_7 hv, gV_8 hv, gV_p0 hv, gV_p1 hv, gV_p2 hv, p_lenI (pk_v1 hv), p_lenI (pk_v2 hv), p_lenI (pk_v3 hv), p_lenF (pk_v4 hv), p_lenL (pk_v5 hv), Option.bind_some, e_on, p_ldL (pk_v5 hv) (show n < 5 by omega) (by decide), p_stL (pk_v5 hv) (show n < 5 by omega) (by decide)]
    rw [if_neg (nI_pos (by omega)), va_up_up, va_up_s, if_neg (by omega), show nI n + (-1 : Int32) = nI n - nI 1 from (Int32.sub_eq_add_neg _ _).symm, ← pb2_go hv t c n f (by omega)]
    congr 1
    · rw [show 5 - n = (5 - (n + 1)) + 1 by omega]
      rfl
    · congr 2
      funext k
      simp only [vp_updL]
      by_cases e : k = n
      · subst e
        rw [if_pos rfl, if_pos (by omega), show 5 - (k + 1) = 4 - k by omega]
      · rw [if_neg e]
        by_cases h : n + 1 ≤ k ∧ k < 5
        · rw [if_pos h, if_pos (by omega)]
        · rw [if_neg h, if_neg (by omega)]
theorem pb1_go {v w : Nat} (hv : p_isV v w) (t : Int32) : ∀ (n f : Nat), n ≤ 5 → fX6_partBy_L11 (n + 1 + f) v t (p_hs (L (v + 5)) t.toInt64 n (5 - n)) (nI n - nI 1) (p_H K S I L T Λ) = if p_hs (L (v + 5)) t.toInt64 0 5 = 0 then some (true, (p_H K S I (va_up L (v + 5) (p_dv t.toInt64 (L (v + 5)))) T Λ)) else some (false, (p_H K S I L T Λ))
  | 0, f, hn => by
    rw [show 0 + 1 + f = f + 1 by omega]
    show fX6_partBy_b11 _ _ _ _ _ _ = _
    unfold fX6_partBy_b11
    simp only [gV_o hv, gV_0 hv, gV_1 hv, gV_2 hv, gV_3 hv, gV_4 hv, gV_5 hv, gV_6 hv, gV_7 hv, gV_8 hv, gV_p0 hv, gV_p1 hv, gV_p2 hv, p_lenI (pk_v1 hv), p_lenI (pk_v2 hv), p_lenI (pk_v3 hv), p_lenF (pk_v4 hv), p_lenL (pk_v5 hv), Option.bind_some, e_on, p_lenL (pk_v5 hv)]
    rw [if_pos (by decide)]
    by_cases h : p_hs (L (v + 5)) t.toInt64 0 5 = 0
    · have h2 := pb2_go (S := S) (I := I) (L := L) (T := T) (Λ := Λ) (K := K) hv t (L (v + 5)) 5 194 (by omega)
      have e : (fun k => if 5 ≤ k ∧ k < 5 then p_hs (L (v + 5)) t.toInt64 (k + 1) (4 - k) else L (v + 5) k) = L (v + 5) := by
        funext k
        rw [if_neg (by omega)]
      rw [e, p_up_id] at h2
      rw [if_pos ((lg_cmp_eq _ _).mpr h), if_pos h]
      exact h2
    · rw [if_neg (fun z => h ((lg_cmp_eq _ _).mp z)), if_neg h]
  | n + 1, f, hn => by
    rw [show n + 1 + 1 + f = (n + 1 + f) + 1 by omega, show nI (n + 1) - nI 1 = nI n from nI_pred n]
    show fX6_partBy_b11 _ _ _ _ _ _ = _
    unfold fX6_partBy_b11
    simp only [gV_o hv, gV_0 hv, gV_1 hv, gV_2 hv, gV_3 hv, gV_4 hv, gV_5 hv, gV_6 hv, gV_7 hv, gV_8 hv, gV_p0 hv, gV_p1 hv, gV_p2 hv, p_lenI (pk_v1 hv), p_lenI (pk_v2 hv), p_lenI (pk_v3 hv), p_lenF (pk_v4 hv), p_lenL (pk_v5 hv), Option.bind_some, e_on, p_ldL (pk_v5 hv) (show n < 5 by omega) (by decide)]
    rw [if_neg (nI_pos (by omega)), show nI n + (-1 : Int32) = nI n - nI 1 from (Int32.sub_eq_add_neg _ _).symm, ← pb1_go hv t n f (by omega)]
    congr 1
    rw [show 5 - n = (5 - (n + 1)) + 1 by omega]
    rfl
theorem q_partBy {v w : Nat} (hv : p_isV v w) (t : Int32) : fX6_partBy v t (p_H K S I L T Λ) = if p_hs (L (v + 5)) t.toInt64 0 5 = 0 then some (true, (p_H K S I (va_up L (v + 5) (p_dv t.toInt64 (L (v + 5)))) T Λ)) else some (false, (p_H K S I L T Λ)) := by
  unfold fX6_partBy
  simp only [gV_o hv, gV_0 hv, gV_1 hv, gV_2 hv, gV_3 hv, gV_4 hv, gV_5 hv, gV_6 hv, gV_7 hv, gV_8 hv, gV_p0 hv, gV_p1 hv, gV_p2 hv, p_lenI (pk_v1 hv), p_lenI (pk_v2 hv), p_lenI (pk_v3 hv), p_lenF (pk_v4 hv), p_lenL (pk_v5 hv), Option.bind_some, e_on, p_lenL (pk_v5 hv)]
  exact pb1_go hv t 5 194 (by omega)
theorem often2_go {v w : Nat} (hv : p_isV v w) (t : Int32) : ∀ (d f k : Nat) (c : Nat → Int64), k + d = 4 → ∃ c', fX6_oftenOf_L39 (d + 1 + f) v t (nI k) (nI k) (p_H K S I (va_up L (v + 5) c) T Λ) = some (nI (k + p_of t.toInt64 d c), (p_H K S I (va_up L (v + 5) c') T Λ))
  | 0, f, k, c, hk => by
    refine ⟨c, ?_⟩
    rw [show 0 + 1 + f = f + 1 by omega]
    show fX6_oftenOf_b39 _ _ _ _ _ _ = _
    unfold fX6_oftenOf_b39
    rw [if_pos (nI_le (by omega) (by omega))]
    rfl
  | d + 1, f, k, c, hk => by
    obtain ⟨c', g⟩ := often2_go hv t d f (k + 1) (p_dv t.toInt64 c) (by omega)
    rw [show d + 1 + 1 + f = (d + 1 + f) + 1 by omega]
    show ∃ c', fX6_oftenOf_b39 _ _ _ _ _ _ = _
    unfold fX6_oftenOf_b39
    rw [if_neg (nI_ge (by omega) (by omega)), q_partBy hv, va_up_s, p_of]
    by_cases h : p_hs c t.toInt64 0 5 = 0
    · refine ⟨c', ?_⟩
      rw [if_pos h, if_pos h, Option.bind_some, va_up_up, nI_s]
      simp only [e_b, if_true]
      rw [if_neg (by decide), g, show k + 1 + p_of t.toInt64 d (p_dv t.toInt64 c) = k + (p_of t.toInt64 d (p_dv t.toInt64 c) + 1) by omega]
    · refine ⟨c, ?_⟩
      rw [if_neg h, if_neg h, Option.bind_some]
      rfl
theorem often1_go {v w s m : Nat} (hv : p_isV v w) (hs : p_isS s) (hne : s + 1 ≠ v + 5) (hm : m ≤ 40) (t : Int32) : ∀ (d f k : Nat) (c : Nat → Int64), k + d = 5 → (∀ j, j < k → c j = p_dg (L (s + 1)) m j) → ∃ c', fX6_oftenOf_L3 (d + 1 + f) v s (nI m) t (nI k) (p_H K S I (va_up L (v + 5) c) T Λ) = some (nI (p_of t.toInt64 4 (p_dg (L (s + 1)) m)), (p_H K S I (va_up L (v + 5) c') T Λ))
  | 0, f, k, c, hk, hc => by
    obtain ⟨c', g⟩ := often2_go (S := S) (I := I) (L := L) (T := T) (Λ := Λ) (K := K) hv t 4 195 0 c (by omega)
    refine ⟨c', ?_⟩
    rw [show 0 + 1 + f = f + 1 by omega]
    show fX6_oftenOf_b3 _ _ _ _ _ _ _ = _
    unfold fX6_oftenOf_b3
    simp only [gV_o hv, gV_0 hv, gV_1 hv, gV_2 hv, gV_3 hv, gV_4 hv, gV_5 hv, gV_6 hv, gV_7 hv, gV_8 hv, gV_p0 hv, gV_p1 hv, gV_p2 hv, p_lenI (pk_v1 hv), p_lenI (pk_v2 hv), p_lenI (pk_v3 hv), p_lenF (pk_v4 hv), p_lenL (pk_v5 hv), Option.bind_some, e_on, p_lenL (pk_v5 hv)]
    rw [if_pos (nI_le (by omega) (by omega))]
    rw [Nat.zero_add, p_of_eq _ 4 (fun j hj => hc j (by omega))] at g
    exact g
  | d + 1, f, k, c, hk, hc => by
    have hL : (va_up L (v + 5) c) (s + 1) = L (s + 1) := va_up_n hne
    obtain ⟨c', g⟩ := often1_go hv hs hne hm t d f (k + 1) (vp_updL c k (p_dg (L (s + 1)) m k)) (by omega) (fun j hj => by
      simp only [vp_updL]
      by_cases e : j = k
      · rw [if_pos e, e]
      · rw [if_neg e]; exact hc j (by omega))
    refine ⟨c', ?_⟩
    rw [show d + 1 + 1 + f = (d + 1 + f) + 1 by omega, ← g]
    show fX6_oftenOf_b3 _ _ _ _ _ _ _ = _
    unfold fX6_oftenOf_b3
    simp only [gV_o hv, gV_0 hv, gV_1 hv, gV_2 hv, gV_3 hv, gV_4 hv, gV_5 hv, gV_6 hv, gV_7 hv, gV_8 hv, gV_p0 hv, gV_p1 hv, gV_p2 hv, p_lenI (pk_v1 hv), p_lenI (pk_v2 hv), p_lenI (pk_v3 hv), p_lenF (pk_v4 hv), p_lenL (pk_v5 hv), Option.bind_some, e_on, p_lenL (pk_v5 hv)]
    rw [if_neg (nI_ge (by omega) (by omega)), q_lowestOf hs hm (by omega), Option.bind_some, p_stL (pk_v5 hv) (by omega) (by decide), Option.bind_some, hL, va_up_up, va_up_s, nI_s]
theorem q_oftenOf {v w s m : Nat} (hv : p_isV v w) (hs : p_isS s) (hne : s + 1 ≠ v + 5) (hm : m ≤ 40) (t : Int32) : ∃ c', fX6_oftenOf v s (nI m) t (p_H K S I L T Λ) = some (nI (p_of t.toInt64 4 (p_dg (L (s + 1)) m)), (p_H K S I (va_up L (v + 5) c') T Λ)) := by
  unfold fX6_oftenOf
  rw [gV_o hv, Option.bind_some]
  obtain ⟨c', g⟩ := often1_go (S := S) (I := I) (L := L) (T := T) (Λ := Λ) (K := K) hv hs hne hm t 5 194 0 (L (v + 5)) (by omega) (fun j hj => by omega)
  rw [p_up_id] at g
  exact ⟨c', g⟩
theorem q_blow {v w d : Nat} (hv : p_isV v w) (hd : d < 2) (hb : p_br (p_tm (L (v + 7 + 2 * d))) = true) (t : Int32) : ∃ c, (∀ k, k < 85 → c k = p_blw (L (v + 7 + 2 * d)) (p_tm (L (v + 7 + 2 * d))) t.toInt64 k) ∧ fX6_blow v (nI (d + 1)) t (p_H K S I L T Λ) = some (some (v + 8 + 2 * d), (p_H K S I (va_up L (v + 9 + 2 * d) c) T Λ)) := by
  have hs := pk_sv hv (show d < 3 by omega)
  have hs' := pk_sv hv (show d + 1 < 3 by omega)
  have e1 : v + 6 + 2 * d + 1 = v + 7 + 2 * d := by omega
  have e2 : v + 6 + 2 * (d + 1) = v + 8 + 2 * d := by omega
  have e3 : v + 8 + 2 * d + 1 = v + 9 + 2 * d := by omega
  have h17 := p_tm_le (L (v + 7 + 2 * d))
  rw [e2] at hs'
  obtain ⟨c, hc, hg⟩ := q_blowInto (S := S) (I := I) (L := L) (T := T) (Λ := Λ) (K := K) hs hs' (by omega) (show p_tm (L (v + 7 + 2 * d)) ≤ 16 by unfold p_br at hb; simp at hb; omega) t (fun k hk h => by rw [e1]; exact p_tm_lt hk h)
  rw [e1] at hc
  rw [e3] at hg
  refine ⟨c, hc, ?_⟩
  unfold fX6_blow
  simp only [gV_o hv, gV_0 hv, gV_1 hv, gV_2 hv, gV_3 hv, gV_4 hv, gV_5 hv, gV_6 hv, gV_7 hv, gV_8 hv, gV_p0 hv, gV_p1 hv, gV_p2 hv, p_lenI (pk_v1 hv), p_lenI (pk_v2 hv), p_lenI (pk_v3 hv), p_lenF (pk_v4 hv), p_lenL (pk_v5 hv), Option.bind_some, e_on, p_lenF (pk_v4 hv), show nI (d + 1) - nI 1 = nI d from nI_pred d, p_ldF (pk_v4 hv) (show d < 3 by omega) (by decide), p_ldF (pk_v4 hv) (show d + 1 < 3 by omega) (by decide), if_pos (show d < 3 by omega), if_pos (show d + 1 < 3 by omega), q_least hs, e1, e2, q_branches (show p_tm (L (v + 7 + 2 * d)) ≤ 40 by omega), hb, e_b, if_true, hg]
  rw [if_neg (nI_nlt (by omega) (by omega)), if_pos (nI_lt (by omega) (by decide)), if_neg (by decide)]
theorem q_blow_no {v w d : Nat} (hv : p_isV v w) (hd : d < 2) (hb : p_br (p_tm (L (v + 7 + 2 * d))) = false) (t : Int32) : fX6_blow v (nI (d + 1)) t (p_H K S I L T Λ) = some (none, (p_H K S I L T Λ)) := by
  have hs := pk_sv hv (show d < 3 by omega)
  have e1 : v + 6 + 2 * d + 1 = v + 7 + 2 * d := by omega
  have h17 := p_tm_le (L (v + 7 + 2 * d))
  unfold fX6_blow
  simp only [gV_o hv, gV_0 hv, gV_1 hv, gV_2 hv, gV_3 hv, gV_4 hv, gV_5 hv, gV_6 hv, gV_7 hv, gV_8 hv, gV_p0 hv, gV_p1 hv, gV_p2 hv, p_lenI (pk_v1 hv), p_lenI (pk_v2 hv), p_lenI (pk_v3 hv), p_lenF (pk_v4 hv), p_lenL (pk_v5 hv), Option.bind_some, e_on, p_lenF (pk_v4 hv), show nI (d + 1) - nI 1 = nI d from nI_pred d, p_ldF (pk_v4 hv) (show d < 3 by omega) (by decide), if_pos (show d < 3 by omega), q_least hs, e1, q_branches (show p_tm (L (v + 7 + 2 * d)) ≤ 40 by omega), hb, e_b]
  rw [if_neg (nI_nlt (by omega) (by omega)), if_pos (nI_lt (by omega) (by decide))]
  rfl
end VIEW
