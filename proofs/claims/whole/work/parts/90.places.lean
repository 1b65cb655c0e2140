theorem rng_or (a : Int32) {n : Nat} (hn : n < 2 ^ 31) : (∃ k, k ≤ n ∧ a = nI k) ∨ (¬ (∃ k, k ≤ n ∧ a = nI k) ∧ (a < 0 ∨ (¬ a < 0 ∧ nI n < a))) := by
  by_cases h : a < 0
  · exact Or.inr ⟨fun ⟨k, hk, e⟩ => nI_pos (show k < 2 ^ 31 by omega) (by rw [← e]; exact h), Or.inl h⟩
  · obtain ⟨j, hj, rfl⟩ := nI_of h
    by_cases h2 : j ≤ n
    · exact Or.inl ⟨j, h2, rfl⟩
    · exact Or.inr ⟨fun ⟨k, hk, e⟩ => h2 (by rw [(nI_eq hj (by omega)).mp e]; exact hk), Or.inr ⟨h, nI_lt (by omega) hj⟩⟩
theorem in_yes {k n : Nat} (hk : k ≤ n) (hn : n < 2 ^ 31) : fX9_in (nI k) (nI 0) (nI n) = some true := by
  unfold fX9_in
  rw [if_neg (nI_nlt (by omega) (by omega)), if_neg (nI_nlt hk (by omega))]
theorem in_no {a : Int32} {n : Nat} (h : a < 0 ∨ (¬ a < 0 ∧ nI n < a)) : fX9_in a (nI 0) (nI n) = some false := by
  unfold fX9_in
  rcases h with h | ⟨h, h2⟩
  · rw [if_pos (show a < nI 0 from h)]
  · rw [if_neg (show ¬ a < nI 0 from h), if_pos h2]
-- as the class asks: below 0, at most n
theorem up_no {α : Type} {a : Int32} {n : Nat} (h : a < 0 ∨ (¬ a < 0 ∧ nI n < a)) {x y : α} : (if a < 0 then x else if a ≤ nI n then y else x) = x := by
  rcases h with h | ⟨h, h2⟩
  · rw [if_pos h]
  · rw [if_neg h, if_neg (fun z => i32_nlt z h2)]
theorem up_yes {α : Type} {k n : Nat} (hk : k ≤ n) (hn : n < 2 ^ 31) {x y : α} : (if nI k < 0 then x else if nI k ≤ nI n then y else x) = y := by
  rw [if_neg (nI_pos (by omega)), if_pos (nI_le hk hn)]
theorem p_of_dg {c f : Nat → Int64} (h : ∀ k, k < 85 → c k = f k) (t : Int64) (n m : Nat) : p_of t n (p_dg c m) = p_of t n (p_dg f m) := p_of_eq t n (fun k hk => p_dg_eq h (by omega))
theorem p_huf_eq {c f : Nat → Int64} (h : ∀ k, k < 85 → c k = f k) : ∀ n, n ≤ 5 → p_huf c n = p_huf f n
  | 0, _ => rfl
  | n + 1, hn => by
    unfold p_huf
    rw [h _ (by omega), p_huf_eq h n (by omega)]
theorem p_htf_eq {c f : Nat → Int64} (h : ∀ k, k < 85 → c k = f k) (t : Int64) : ∀ n, p_htf c t n = p_htf f t n
  | 0 => rfl
  | n + 1 => by
    unfold p_htf
    rw [p_sl_eq h, p_htf_eq h t n]
theorem p_sf2_eq {c f : Nat → Int64} (h : ∀ k, k < 85 → c k = f k) {j : Nat} (hj : j ≤ 4) : ∀ n st, p_sf2 c j n st = p_sf2 f j n st
  | 0, st => rfl
  | n + 1, st => by
    unfold p_sf2
    rw [p_lx_eq h hj, p_lx_eq h (show 4 - n ≤ 4 by omega), p_sf2_eq h hj n, p_sf2_eq h hj n]
theorem p_pw_eq {c f : Nat → Int64} (h : ∀ k, k < 85 → c k = f k) (w : Int32) : ∀ n, p_pw c w n = p_pw f w n
  | 0 => rfl
  | n + 1 => by
    unfold p_pw
    rw [p_lx_eq h (show 4 - n ≤ 4 by omega), p_sf2_eq h (show 4 - n ≤ 4 by omega), p_pw_eq h w n]
section PL90
variable {K : Nat} {S I : Nat → Nat → Int32} {L : Nat → Nat → Int64} {T : Nat → Nat → Option Nat} {Λ : Nat → p_Lw}
theorem q_pw (w : Int32) : ∀ n, n ≤ 5 → ((fX3_steepestFrom 39 (p_fcf (L 40) n) (p_H K S I L T Λ)).bind fun v5 => if 0 ≤ v5 then ((fX3_leastX 39 (p_fcf (L 40) n) (p_H K S I L T Λ)).bind fun v6 => (fX3_leastX 39 v5 (p_H K S I L T Λ)).bind fun v7 => (fX8_greatestShared (if 0 ≤ (v6 - v7) then (v6 - v7) else 0 - (v6 - v7)) (v5 - (p_fcf (L 40) n))).bind fun v8 => if (nI 1) ≤ v8 then (if w = 0 then (if v8 = 0 then none else some (((v6 - v7) / v8), (p_H K S I L T Λ))) else (if v8 = 0 then none else some (((v5 - (p_fcf (L 40) n)) / v8), (p_H K S I L T Λ)))) else (some ((-1000000005 : Int32), (p_H K S I L T Λ)))) else (some ((-1000000005 : Int32), (p_H K S I L T Λ)))) = some (p_pw (L 40) w n, p_H K S I L T Λ)
  | 0, _ => by
    show ((fX3_steepestFrom 39 (-1) (p_H K S I L T Λ)).bind fun v5 => _) = _
    rw [q_steepest_no pk_39, Option.bind_some, if_neg (by decide)]
    rfl
  | n + 1, hn => by
    have ih := q_pw w n (by omega)
    rw [p_fcf, p_pw]
    by_cases h : p_lx (L 40) (4 - n) = 17
    · rw [if_pos h, if_pos h]
      exact ih
    · rw [if_neg h, if_neg h, q_steepest pk_39 (show 4 - n ≤ 4 by omega), Option.bind_some, show 4 - (4 - n) = n by omega]
      show (if 0 ≤ p_stp (4 - n) (p_sf2 (L 40) (4 - n) n (nI 0, 0)) then _ else _) = _
      have hi := p_sf2_i (L 40) (4 - n) n (nI 0, 0) (by omega) (fun z => absurd rfl z)
      generalize p_sf2 (L 40) (4 - n) n (nI 0, 0) = st at hi ⊢
      unfold p_stp p_pf
      by_cases h0 : st.2 = 0
      · rw [if_pos h0, if_pos h0, if_neg (by decide)]
      · obtain ⟨h1, h2, h3⟩ := hi h0
        have l1 := p_lx_le (L 40) (4 - n)
        have l2 := p_lx_le (L 40) (4 - n + st.2)
        have g0 : 0 < Nat.gcd st.2 (p_ab st.1) := Nat.gcd_pos_of_pos_left _ (by omega)
        have g1 : Nat.gcd st.2 (p_ab st.1) ≤ st.2 := Nat.gcd_le_left _ (by omega)
        rw [if_neg h0, if_neg h0, if_pos (nI_pos' (by omega)), q_leastX pk_39 (show 4 - n ≤ 4 by omega), Option.bind_some, q_leastX pk_39 (show 4 - n + st.2 ≤ 4 by omega), Option.bind_some, pk_sub (show 4 - n ≤ 4 - n + st.2 by omega), show 4 - n + st.2 - (4 - n) = st.2 by omega]
        have hg := q_gcd (a := p_lx (L 40) (4 - n)) (b := p_lx (L 40) (4 - n + st.2)) (k := st.2) l1 l2 (by omega)
        show (fX8_greatestShared (if 0 ≤ nI (p_lx (L 40) (4 - n)) - nI (p_lx (L 40) (4 - n + st.2)) then _ else _) (nI st.2)).bind _ = _
        rw [hg, Option.bind_some, ← h2, if_pos (nI_le (by omega) (by omega))]
        have ne0 : ¬ nI (Nat.gcd st.2 (p_ab st.1)) = 0 := fun z => by
          have := (nI_eq (show Nat.gcd st.2 (p_ab st.1) < 2 ^ 31 by omega) (show 0 < 2 ^ 31 by decide)).mp z
          omega
        rw [if_neg ne0, if_neg ne0]
        by_cases hw : w = 0
        · rw [if_pos hw, if_pos hw]
        · rw [if_neg hw, if_neg hw]
end PL90
theorem c_lowest (c p a : Int32) : p_both (fX8_lowest 0 c p a) (fX9_lowest 96 c p a) := by
  rcases rng_or a (n := 4) (by decide) with ⟨k, hk, rfl⟩ | ⟨hno, hr⟩
  · refine place_ok2 (c := c) (p := p) (bad := -1000000001) (A := True) (g8 := fun a3 h => (fX3_least a3 h).bind fun v4 => (fX3_branches v4).bind fun v5 => if (e_b v5) = 0 then (some ((-1000000002 : Int64), h)) else ((fX3_lowestOf a3 v4 (nI k) h).bind fun v6 => some (v6, h)))
      (Y := fun h4 => (fX9_timesOf 96 (nI 0) h4).bind fun v5 => (fX9_isSome v5).bind fun v6 => if (e_b v6) = 0 then (some ((-1000000002 : Int64), h4)) else ((fX9_lowestOf 96 (nI 0) v5 (nI k) h4).bind fun v7 => some (v7, h4))) (fun K S I L T Λ => ?_) (fun z => absurd trivial z) (fun h => ?_) (fun _ h => rfl) (fun z => absurd trivial z) ?_
    · unfold fX8_lowest
      rw [gB_o, Option.bind_some]
      simp only [up_yes hk (show 4 < 2 ^ 31 by decide)]
    · unfold fX9_lowest
      simp only [in_yes hk (show 4 < 2 ^ 31 by decide), Option.bind_some, if_neg eb_t]
    · intro _ t x y hx hy hbd K S I L T Λ lw cn tn hwr hL
      have h17 := p_tm_le (p_shp t x y)
      show ∃ r S1 I1 L1, ((fX3_least 39 (p_H K S I L T Λ)).bind fun v4 => _) = _ ∧ _
      cases hb : p_br (p_tm (p_shp t x y))
      · refine ⟨-1000000002, S, I, L, ?_, p_kpS.rf S, p_fr.rf _ _, fun I3 L3 w9 hG => ⟨S, I3, L3, ?_, p_kpS.rf S, p_fr.rf _ _⟩⟩
        · rw [pl_8 hL, Option.bind_some, q_branches (by omega), Option.bind_some, hb, if_pos eb_f]
        · show ((fX9_timesOf 96 (nI 0) _).bind fun v4 => _) = _
          rw [pl_9 hG, Option.bind_some, q9_isSome (by omega), Option.bind_some, hb, if_pos eb_f]
      · refine ⟨p_dg (p_shp t x y) (p_tm (p_shp t x y)) k, S, I, L, ?_, p_kpS.rf S, p_fr.rf _ _, fun I3 L3 w9 hG => ⟨S, I3, L3, ?_, p_kpS.rf S, p_fr.rf _ _⟩⟩
        · rw [pl_8 hL, Option.bind_some, q_branches (by omega), Option.bind_some, hb, if_neg eb_t, q_lowestOf pk_39 (by omega) hk, Option.bind_some, p_dg_eq hL hk]
        · show ((fX9_timesOf 96 (nI 0) _).bind fun v4 => _) = _
          rw [pl_9 hG, Option.bind_some, q9_isSome (by omega), Option.bind_some, hb, if_neg eb_t, q9_lowestOf (by decide) (br_le hb).2 hk, Option.bind_some, p_dg_eq hG hk]
  · refine place_ok2 (c := c) (p := p) (bad := -1000000001) (A := False) (g8 := fun a3 h => some (-1000000001, h)) (X := fun h => some (-1000000001, h)) (Y := fun h => some (-1000000001, h)) (fun K S I L T Λ => ?_) (fun z K S I L T Λ => rfl) (fun h => ?_) (fun z => z.elim) (fun z h => rfl) (fun z => z.elim)
    · unfold fX8_lowest
      rw [gB_o, Option.bind_some]
      simp only [up_no hr]
    · unfold fX9_lowest
      simp only [in_no hr, Option.bind_some, if_pos eb_f]
theorem c_corner (c p a : Int32) : p_both (fX8_corner 0 c p a) (fX9_corner 96 c p a) := by
  rcases rng_or a (n := 4) (by decide) with ⟨k, hk, rfl⟩ | ⟨hno, hr⟩
  · refine place_ok2 (c := c) (p := p) (bad := -1000000001) (A := True) (g8 := fun a3 h => (fX3_leastX a3 (nI k) h).bind fun v4 => if v4 = (nI 17) then (some ((-1000000005 : Int32), h)) else (some (v4, h)))
      (Y := fun h4 => (fX9_cornerOf 96 (nI k) h4).bind fun v5 => if v5 = (nI 17) then (some ((-1000000005 : Int32), h4)) else (some (v5, h4))) (fun K S I L T Λ => ?_) (fun z => absurd trivial z) (fun h => ?_) (fun _ h => rfl) (fun z => absurd trivial z) ?_
    · unfold fX8_corner
      rw [gB_o, Option.bind_some]
      simp only [up_yes hk (show 4 < 2 ^ 31 by decide)]
    · unfold fX9_corner
      simp only [in_yes hk (show 4 < 2 ^ 31 by decide), Option.bind_some, if_neg eb_t]
    · intro _ t x y hx hy hbd K S I L T Λ lw cn tn hwr hL
      refine ⟨if nI (p_lx (p_shp t x y) k) = nI 17 then -1000000005 else nI (p_lx (p_shp t x y) k), S, I, L, ?_, p_kpS.rf S, p_fr.rf _ _, fun I3 L3 w9 hG => ⟨S, I3, L3, ?_, p_kpS.rf S, p_fr.rf _ _⟩⟩
      · show ((fX3_leastX 39 (nI k) (p_H K S I L T Λ)).bind fun v4 => _) = _
        rw [q_leastX pk_39 hk, Option.bind_some, p_lx_eq hL hk]
        split <;> rfl
      · show ((fX9_cornerOf 96 (nI k) _).bind fun v4 => _) = _
        rw [q9_corner hk, Option.bind_some, p_lx_eq hG hk]
        split <;> rfl
  · refine place_ok2 (c := c) (p := p) (bad := -1000000001) (A := False) (g8 := fun a3 h => some (-1000000001, h)) (X := fun h => some (-1000000001, h)) (Y := fun h => some (-1000000001, h)) (fun K S I L T Λ => ?_) (fun z K S I L T Λ => rfl) (fun h => ?_) (fun z => z.elim) (fun z h => rfl) (fun z => z.elim)
    · unfold fX8_corner
      rw [gB_o, Option.bind_some]
      simp only [up_no hr]
    · unfold fX9_corner
      simp only [in_no hr, Option.bind_some, if_pos eb_f]
theorem c_power (c p a : Int32) : p_both (fX8_power 0 c p a) (fX9_power 96 c p a) := by
  rcases rng_or a (n := 1) (by decide) with ⟨k, hk, e⟩ | ⟨hno, hr⟩
  · refine place_ok2 (c := c) (p := p) (bad := -1000000001) (A := True) (g8 := fun a3 h => (fX3_firstCorner a3 h).bind fun v4 => (fX3_steepestFrom a3 v4 h).bind fun v5 => if 0 ≤ v5 then ((fX3_leastX a3 v4 h).bind fun v6 => (fX3_leastX a3 v5 h).bind fun v7 => (fX8_greatestShared (if 0 ≤ (v6 - v7) then (v6 - v7) else 0 - (v6 - v7)) (v5 - v4)).bind fun v8 => if (nI 1) ≤ v8 then (if a = 0 then (if v8 = 0 then none else some (((v6 - v7) / v8), h)) else (if v8 = 0 then none else some (((v5 - v4) / v8), h))) else (some ((-1000000005 : Int32), h))) else (some ((-1000000005 : Int32), h)))
      (Y := fun h4 => fX9_power_L36 200 96 a (nI 0) h4) (fun K S I L T Λ => ?_) (fun z => absurd trivial z) (fun h => ?_) (fun _ h => rfl) (fun z => absurd trivial z) ?_
    · unfold fX8_power
      rw [gB_o, Option.bind_some, e]
      simp only [up_yes hk (show 1 < 2 ^ 31 by decide)]
    · unfold fX9_power
      rw [e]
      simp only [in_yes hk (show 1 < 2 ^ 31 by decide), Option.bind_some, if_neg eb_t]
    · intro _ t x y hx hy hbd K S I L T Λ lw cn tn hwr hL
      refine ⟨p_pw (p_shp t x y) a 5, S, I, L, ?_, p_kpS.rf S, p_fr.rf _ _, fun I3 L3 w9 hG => ⟨S, I3, L3, ?_, p_kpS.rf S, p_fr.rf _ _⟩⟩
      · show ((fX3_firstCorner 39 (p_H K S I L T Λ)).bind fun v4 => _) = _
        rw [q_firstCorner pk_39, Option.bind_some, ← p_pw_eq hL]
        exact q_pw a 5 (by omega)
      · rw [← p_pw_eq hG]
        exact pw9_out a 5 194 (by omega)
  · refine place_ok2 (c := c) (p := p) (bad := -1000000001) (A := False) (g8 := fun a3 h => some (-1000000001, h)) (X := fun h => some (-1000000001, h)) (Y := fun h => some (-1000000001, h)) (fun K S I L T Λ => ?_) (fun z K S I L T Λ => rfl) (fun h => ?_) (fun z => z.elim) (fun z h => rfl) (fun z => z.elim)
    · unfold fX8_power
      rw [gB_o, Option.bind_some]
      simp only [up_no hr]
    · unfold fX9_power
      simp only [in_no hr, Option.bind_some, if_pos eb_f]
theorem is_slope_in (t : Int32) : fX8_isSlope t = fX9_in t (-5) (nI 5) := rfl
theorem c_often (c p t : Int32) : p_both (fX8_often 0 c p t) (fX9_often 96 c p t) := by
  by_cases ht : ¬ t < -5 ∧ ¬ nI 5 < t
  · have hin : fX9_in t (-5) (nI 5) = some true := by rw [p_in_b, decide_eq_true ht]
    refine place_ok2 (c := c) (p := p) (bad := -1000000001) (A := True) (g8 := fun a3 h => (fX3_least a3 h).bind fun v5 => (fX3_branches v5).bind fun v6 => if (e_b v6) = 0 then (some ((-1000000002 : Int32), h)) else ((o_getR h 0 8 2).bind fun v7 => e_on v7 (none) (fun a8 => (fX6_oftenOf a8 a3 v5 t h).bind fun p9 => some (p9.1, p9.2))))
      (Y := fun h4 => (fX9_timesOf 96 (nI 0) h4).bind fun v5 => (fX9_isSome v5).bind fun v6 => if (e_b v6) = 0 then (some ((-1000000002 : Int32), h4)) else (fX9_often_L55 200 96 t v5 (nI 0) h4)) (fun K S I L T Λ => ?_) (fun z => absurd trivial z) (fun h => ?_) (fun _ h => rfl) (fun z => absurd trivial z) ?_
    · unfold fX8_often
      rw [gB_o, Option.bind_some, is_slope_in, hin]
      simp only [Option.bind_some, if_neg eb_t]
    · unfold fX9_often
      simp only [hin, Option.bind_some, if_neg eb_t]
    · intro _ tt x y hx hy hbd K S I L T Λ lw cn tn hwr hL
      have h17 := p_tm_le (p_shp tt x y)
      show ∃ r S1 I1 L1, ((fX3_least 39 (p_H K S I L T Λ)).bind fun v4 => _) = _ ∧ _
      cases hb : p_br (p_tm (p_shp tt x y))
      · refine ⟨-1000000002, S, I, L, ?_, p_kpS.rf S, p_fr.rf _ _, fun I3 L3 w9 hG => ⟨S, I3, L3, ?_, p_kpS.rf S, p_fr.rf _ _⟩⟩
        · rw [pl_8 hL, Option.bind_some, q_branches (by omega), Option.bind_some, hb, if_pos eb_f]
        · show ((fX9_timesOf 96 (nI 0) _).bind fun v4 => _) = _
          rw [pl_9 hG, Option.bind_some, q9_isSome (by omega), Option.bind_some, hb, if_pos eb_f]
      · obtain ⟨c', g⟩ := q_oftenOf (S := S) (I := I) (L := L) (T := T) (K := K) (Λ := Λ) pk_v33 pk_39 (by decide) (show p_tm (p_shp tt x y) ≤ 40 by omega) t
        refine ⟨nI (p_of t.toInt64 4 (p_dg (p_shp tt x y) (p_tm (p_shp tt x y)))), S, I, va_up L 38 c', ?_, p_kpS.rf S, p_fr.rf _ _, fun I3 L3 w9 hG => ?_⟩
        · rw [pl_8 hL, Option.bind_some, q_branches (by omega), Option.bind_some, hb, if_neg eb_t, gB_2, Option.bind_some, ← p_of_dg hL]
          exact (congrArg (fun z => Option.bind z fun p8 => some (p8.1, p8.2)) g).trans rfl
        · have hm := (br_le hb).2
          obtain ⟨j, hj1, hj2⟩ := p_tm_at (c := p_shp tt x y) (by omega)
          obtain ⟨c2, k1⟩ := often91_go (S := S) (I := I3) (L := L3) (T := T) (K := K) (Λ := Λ) hm ⟨j, by omega, by rw [p_dg_eq hG hj1]; exact hj2⟩ t 5 194 0 (L3 102) (by omega) (fun _ h => absurd h (Nat.not_lt_zero _))
          refine ⟨S, I3, va_up L3 102 c2, ?_, p_kpS.rf S, p_fr.rf _ _⟩
          show ((fX9_timesOf 96 (nI 0) _).bind fun v4 => _) = _
          rw [pl_9 hG, Option.bind_some, q9_isSome (by omega), Option.bind_some, hb, if_neg eb_t, ← p_of_dg hG]
          rw [p_up_id] at k1
          exact k1
  · have hin : fX9_in t (-5) (nI 5) = some false := by rw [p_in_b, decide_eq_false ht]
    refine place_ok2 (c := c) (p := p) (bad := -1000000001) (A := False) (g8 := fun a3 h => some (-1000000001, h)) (X := fun h => some (-1000000001, h)) (Y := fun h => some (-1000000001, h)) (fun K S I L T Λ => ?_) (fun z K S I L T Λ => rfl) (fun h => ?_) (fun z => z.elim) (fun z h => rfl) (fun z => z.elim)
    · unfold fX8_often
      rw [gB_o, Option.bind_some, is_slope_in, hin]
      simp only [Option.bind_some, if_pos eb_f]
    · unfold fX9_often
      simp only [hin, Option.bind_some, if_pos eb_f]
theorem c_line (c p t : Int32) : p_both (fX8_line 0 c p t) (fX9_line 96 c p t) := by
  by_cases ht : ¬ t < -5 ∧ ¬ nI 6 < t
  · have hin : fX9_in t (-5) (nI 6) = some true := by rw [p_in_b, decide_eq_true ht]
    refine place_ok2 (c := c) (p := p) (bad := -1000000001) (A := True) (g8 := fun a3 h => fX8_line_b29 t a3 h)
      (Y := fun h4 => fX9_line_L38 200 96 t (nI 0) h4) (fun K S I L T Λ => ?_) (fun z => absurd trivial z) (fun h => ?_) (fun _ h => rfl) (fun z => absurd trivial z) ?_
    · unfold fX8_line
      rw [gB_o, Option.bind_some]
      by_cases h6 : t = nI 6
      · simp only [if_pos h6]
      · have h5 : ¬ nI 5 < t := fun z => by
          have z1 := Int32.lt_iff_toInt_lt.mp z
          have z2 : ¬ (nI 6).toInt < t.toInt := fun z => ht.2 (Int32.lt_iff_toInt_lt.mpr z)
          have z3 : t.toInt ≠ (nI 6).toInt := fun z => h6 (Int32.toInt_inj.mp z)
          have e5 : (nI 5).toInt = 5 := rfl
          have e6 : (nI 6).toInt = 6 := rfl
          omega
        have hin5 : fX8_isSlope t = some true := by rw [is_slope_in, p_in_b, decide_eq_true ⟨ht.1, h5⟩]
        simp only [if_neg h6, hin5, Option.bind_some, if_neg eb_t]
    · unfold fX9_line
      simp only [hin, Option.bind_some, if_neg eb_t]
    · intro _ tt x y hx hy hbd K S I L T Λ lw cn tn hwr hL
      by_cases h6 : t = nI 6
      · refine ⟨p_huf (p_shp tt x y) 5, S, I, L, ?_, p_kpS.rf S, p_fr.rf _ _, fun I3 L3 w9 hG => ⟨S, I3, L3, ?_, p_kpS.rf S, p_fr.rf _ _⟩⟩
        · unfold fX8_line_b29
          rw [if_pos h6, q_upright pk_39, Option.bind_some, p_huf_eq hL 5 (by omega)]
        · rw [← p_huf_eq hG 5 (by omega), ← p_hu21_eq, h6]
          exact hu9_go 21 178 (by omega)
      · refine ⟨p_htf (p_shp tt x y) t.toInt64 21, S, I, L, ?_, p_kpS.rf S, p_fr.rf _ _, fun I3 L3 w9 hG => ⟨S, I3, L3, ?_, p_kpS.rf S, p_fr.rf _ _⟩⟩
        · unfold fX8_line_b29
          rw [if_neg h6, q_holdsTo pk_39, Option.bind_some, p_htf_eq hL]
        · rw [← p_htf_eq hG]
          refine ln9_go (fun z => ?_) 21 178 (by omega)
          have z1 := Int32.le_iff_toInt_le.mp z
          have z2 : ¬ (nI 6).toInt < t.toInt := fun z => ht.2 (Int32.lt_iff_toInt_lt.mpr z)
          exact h6 (Int32.toInt_inj.mp (by omega))
  · have hin : fX9_in t (-5) (nI 6) = some false := by rw [p_in_b, decide_eq_false ht]
    have h6 : ¬ t = nI 6 := fun z => ht (by rw [z]; decide)
    have hin5 : fX8_isSlope t = some false := by
      rw [is_slope_in, p_in_b, decide_eq_false]
      rintro ⟨z1, z2⟩
      exact ht ⟨z1, fun z => z2 (Int32.lt_trans (show nI 5 < nI 6 by decide) z)⟩
    refine place_ok2 (c := c) (p := p) (bad := -1000000001) (A := False) (g8 := fun a3 h => some (-1000000001, h)) (X := fun h => some (-1000000001, h)) (Y := fun h => some (-1000000001, h)) (fun K S I L T Λ => ?_) (fun z K S I L T Λ => rfl) (fun h => ?_) (fun z => z.elim) (fun z h => rfl) (fun z => z.elim)
    · unfold fX8_line
      rw [gB_o, Option.bind_some]
      simp only [if_neg h6, hin5, Option.bind_some, if_pos eb_f]
    · unfold fX9_line
      simp only [hin, Option.bind_some, if_pos eb_f]
