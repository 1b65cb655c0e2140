theorem slope6_yes {t : Int32} (ht : ¬ t < -5 ∧ ¬ nI 6 < t) (h6 : ¬ t = nI 6) : fX8_isSlope t = some true := by
  have h5 : ¬ nI 5 < t := fun z => by
    have z1 := Int32.lt_iff_toInt_lt.mp z
    have z2 : ¬ (nI 6).toInt < t.toInt := fun z => ht.2 (Int32.lt_iff_toInt_lt.mpr z)
    have z3 : t.toInt ≠ (nI 6).toInt := fun z => h6 (Int32.toInt_inj.mp z)
    have e5 : (nI 5).toInt = 5 := rfl
    have e6 : (nI 6).toInt = 6 := rfl
    omega
  rw [is_slope_in, p_in_b, decide_eq_true ⟨ht.1, h5⟩]
theorem slope6_no {t : Int32} (ht : ¬ (¬ t < -5 ∧ ¬ nI 6 < t)) : ¬ t = nI 6 ∧ fX8_isSlope t = some false := by
  refine ⟨fun z => ht (by rw [z]; decide), ?_⟩
  rw [is_slope_in, p_in_b, decide_eq_false]
  rintro ⟨z1, z2⟩
  exact ht ⟨z1, fun z => z2 (Int32.lt_trans (show nI 5 < nI 6 by decide) z)⟩
theorem pk_41 : p_isS 41 := pk_sv (v := 33) (w := 1) (Or.inl ⟨rfl, rfl⟩) (show 1 < 3 by decide)
theorem pk_43 : p_isS 43 := pk_sv (v := 33) (w := 1) (Or.inl ⟨rfl, rfl⟩) (show 2 < 3 by decide)
section PL91
variable {K : Nat} {S I : Nat → Nat → Int32} {L : Nat → Nat → Int64} {T : Nat → Nat → Option Nat} {Λ : Nat → p_Lw}
theorem bl1 (hb : p_br (p_tm (L 40)) = true) (t : Int32) : ∃ c, (∀ k, k < 85 → c k = p_blw (L 40) (p_tm (L 40)) t.toInt64 k) ∧ fX6_blow 33 (nI 1) t (p_H K S I L T Λ) = some (some 41, (p_H K S I (va_up L 42 c) T Λ)) := q_blow pk_v33 (d := 0) (by decide) hb t
theorem bl1n (hb : p_br (p_tm (L 40)) = false) (t : Int32) : fX6_blow 33 (nI 1) t (p_H K S I L T Λ) = some (none, (p_H K S I L T Λ)) := q_blow_no pk_v33 (d := 0) (by decide) hb t
theorem bl2 (hb : p_br (p_tm (L 42)) = true) (t : Int32) : ∃ c, (∀ k, k < 85 → c k = p_blw (L 42) (p_tm (L 42)) t.toInt64 k) ∧ fX6_blow 33 (nI 2) t (p_H K S I L T Λ) = some (some 43, (p_H K S I (va_up L 44 c) T Λ)) := q_blow pk_v33 (d := 1) (by decide) hb t
theorem bl2n (hb : p_br (p_tm (L 42)) = false) (t : Int32) : fX6_blow 33 (nI 2) t (p_H K S I L T Λ) = some (none, (p_H K S I L T Λ)) := q_blow_no pk_v33 (d := 1) (by decide) hb t
theorem q_blown (t u : Int32) {c0 : Nat → Int64} (hL : ∀ k, k < 85 → L 40 k = c0 k) : ∃ L1, fX8_blown_b38 0 t u (p_H K S I L T Λ) = some (if p_br (p_tm c0) then (if u = nI 6 then nI (p_tm (p_blw c0 (p_tm c0) t.toInt64)) else if p_br (p_tm (p_blw c0 (p_tm c0) t.toInt64)) then nI (p_tm (p_blw (p_blw c0 (p_tm c0) t.toInt64) (p_tm (p_blw c0 (p_tm c0) t.toInt64)) u.toInt64)) else -1000000002) else -1000000002, p_H K S I L1 T Λ) := by
  unfold fX8_blown_b38 fX8_blown_b73 fX8_blown_b73x1
  rw [gB_2, Option.bind_some]
  cases hb : p_br (p_tm c0)
  · refine ⟨L, ?_⟩
    show (fX6_blow 33 _ _ _).bind _ = _
    rw [bl1n (by rw [p_tm_eq hL]; exact hb), Option.bind_some]
    rfl
  · obtain ⟨f1, k1, g1⟩ := bl1 (S := S) (I := I) (L := L) (T := T) (K := K) (Λ := Λ) (by rw [p_tm_eq hL]; exact hb) t
    rw [p_tm_eq hL, p_blw_eq hL] at k1
    show ∃ L1, (fX6_blow 33 _ _ _).bind _ = _
    rw [g1, Option.bind_some, if_pos rfl]
    show ∃ L1, (if u = nI 6 then _ else _) = _
    by_cases h6 : u = nI 6
    · refine ⟨va_up L 42 f1, ?_⟩
      rw [if_pos h6, if_pos h6, q_least pk_41, Option.bind_some]
      show some (nI (p_tm (va_up L 42 f1 42)), _) = _
      rw [va_up_s, p_tm_eq k1]
    · rw [if_neg h6, if_neg h6, gB_2, Option.bind_some]
      show ∃ L1, (fX6_blow 33 _ _ _).bind _ = _
      cases hb2 : p_br (p_tm (p_blw c0 (p_tm c0) t.toInt64))
      · refine ⟨va_up L 42 f1, ?_⟩
        rw [bl2n (by rw [va_up_s, p_tm_eq k1]; exact hb2), Option.bind_some]
        rfl
      · obtain ⟨f2, k2, g2⟩ := bl2 (S := S) (I := I) (L := va_up L 42 f1) (T := T) (K := K) (Λ := Λ) (by rw [va_up_s, p_tm_eq k1]; exact hb2) u
        rw [va_up_s, p_tm_eq k1, p_blw_eq k1] at k2
        refine ⟨va_up (va_up L 42 f1) 44 f2, ?_⟩
        rw [g2, Option.bind_some, if_pos rfl]
        show (fX3_least 43 _).bind _ = _
        rw [q_least pk_43, Option.bind_some]
        show some (nI (p_tm (va_up (va_up L 42 f1) 44 f2 44)), _) = _
        rw [va_up_s, p_tm_eq k2]
theorem q9_times1 {s B : Nat} (hs : s < 40) (hB : B ≤ 16) {c : Nat → Int64} (hc : ∀ k, k < 85 → p_s9 L s k = c k) (hsup : ∀ k, k < 85 → B < k / 5 + k % 5 → c k = 0) : fX9_timesOf 96 (nI s) (p_H K S I L T Λ) = some (nI (p_tm c)) := by
  have h1 : p_su (fun k => L 101 (85 * s + k)) := fun j hj hl => (hc j hj).trans (hsup j hj (by omega))
  rw [q9_times hs h1]
  exact congrArg (fun z => some (nI z)) (p_tm_eq hc)
end PL91
theorem c_blown (c p t u : Int32) : p_both (fX8_blown 0 c p t u) (fX9_blown 96 c p t u) := by
  by_cases ht : ¬ t < -5 ∧ ¬ nI 5 < t
  · have hin : fX9_in t (-5) (nI 5) = some true := by rw [p_in_b, decide_eq_true ht]
    by_cases hu : ¬ u < -5 ∧ ¬ nI 6 < u
    · have hin2 : fX9_in u (-5) (nI 6) = some true := by rw [p_in_b, decide_eq_true hu]
      refine place_ok2 (c := c) (p := p) (bad := -1000000001) (A := True) (g8 := fun a3 h => fX8_blown_b38 0 t u h)
        (Y := fun h5 => (fX9_timesOf 96 (nI 0) h5).bind fun v6 => (fX9_isSome v6).bind fun v7 => if (e_b v7) = 0 then (some ((-1000000002 : Int32), h5)) else ((fX9_blows 96 (nI 0) v6 t (nI 1) h5).bind fun h8 => (fX9_timesOf 96 (nI 1) h8).bind fun v9 => if u = (nI 6) then (some (v9, h8)) else ((fX9_isSome v9).bind fun v10 => if (e_b v10) = 0 then (some ((-1000000002 : Int32), h8)) else ((fX9_blows 96 (nI 1) v9 u (nI 2) h8).bind fun h11 => (fX9_timesOf 96 (nI 2) h11).bind fun v12 => some (v12, h11))))) (fun K S I L T Λ => ?_) (fun z => absurd trivial z) (fun h => ?_) (fun _ h => rfl) (fun z => absurd trivial z) ?_
      · unfold fX8_blown
        rw [gB_o, Option.bind_some, is_slope_in, hin]
        by_cases h6 : u = nI 6
        · simp only [Option.bind_some, if_neg eb_t, if_pos h6]
        · simp only [Option.bind_some, if_neg eb_t, if_neg h6, slope6_yes hu h6]
      · unfold fX9_blown
        simp only [hin, hin2, Option.bind_some, if_neg eb_t]
      · intro _ tt x y hx hy hbd K S I L T Λ lw cn tn hwr hL
        obtain ⟨L1, g1⟩ := q_blown (S := S) (I := I) (T := T) (K := K) (Λ := Λ) t u hL
        refine ⟨_, S, I, L1, g1, p_kpS.rf S, p_fr.rf _ _, fun I3 L3 w9 hG => ?_⟩
        have h17 := p_tm_le (p_shp tt x y)
        have s0 : ∀ k, k < 85 → 4 < k / 5 + k % 5 → p_shp tt x y k = 0 := fun k _ hk => p_shp_sup tt x y hk
        generalize hc0 : p_shp tt x y = c0 at hG h17 s0 ⊢
        show ∃ S2 I2 L2, ((fX9_timesOf 96 (nI 0) _).bind fun v4 => _) = _ ∧ _
        rw [q9_times1 (B := 4) (by decide) (by decide) hG s0, Option.bind_some, q9_isSome (by omega), Option.bind_some]
        cases hb : p_br (p_tm c0)
        · exact ⟨S, I3, L3, rfl, p_kpS.rf S, p_fr.rf _ _⟩
        · have hm := br_le hb
          obtain ⟨G1, k1, k2, k3⟩ := q9_blows (S := S) (I := I3) (L := L3) (T := T) (K := K) (Λ := Λ) (s := 0) (s' := 1) (by decide) (by decide) (by decide) hm.2 (fun k hk hl => (hG k hk).trans (p_tm_lt hk hl)) t
          rw [p_blw_eq hG] at k1
          have hG1 : ∀ j, j < 85 → p_s9 (va_up L3 101 G1) 1 j = p_blw c0 (p_tm c0) t.toInt64 j := fun j hj => by
            unfold p_s9
            rw [va_up_s]
            exact k1 j hj
          have s1 : ∀ k, k < 85 → 7 < k / 5 + k % 5 → p_blw c0 (p_tm c0) t.toInt64 k = 0 := fun k hk hl => p_blw_sup s0 hm.1 _ hk hl
          have h17' := p_tm_le (p_blw c0 (p_tm c0) t.toInt64)
          generalize hc1 : p_blw c0 (p_tm c0) t.toInt64 = c1 at hG1 s1 h17' ⊢
          rw [if_neg eb_t, if_pos rfl, k3, Option.bind_some, q9_times1 (B := 7) (by decide) (by decide) hG1 s1, Option.bind_some]
          by_cases h6 : u = nI 6
          · rw [if_pos h6, if_pos h6]
            exact ⟨S, I3, _, rfl, p_kpS.rf S, p_fr.rf _ _⟩
          · rw [if_neg h6, if_neg h6, q9_isSome (by omega), Option.bind_some]
            cases hb2 : p_br (p_tm c1)
            · exact ⟨S, I3, _, rfl, p_kpS.rf S, p_fr.rf _ _⟩
            · have hm2 := br_le hb2
              obtain ⟨G2, l1, l2, l3⟩ := q9_blows (S := S) (I := I3) (L := va_up L3 101 G1) (T := T) (K := K) (Λ := Λ) (s := 1) (s' := 2) (by decide) (by decide) (by decide) hm2.2 (fun k hk hl => (hG1 k hk).trans (p_tm_lt hk hl)) u
              rw [p_blw_eq hG1] at l1
              have hG2 : ∀ j, j < 85 → p_s9 (va_up (va_up L3 101 G1) 101 G2) 2 j = p_blw c1 (p_tm c1) u.toInt64 j := fun j hj => by
                unfold p_s9
                rw [va_up_s]
                exact l1 j hj
              rw [if_neg eb_t, if_pos rfl, l3, Option.bind_some, q9_times1 (B := 10) (by decide) (by decide) hG2 (fun k hk hl => p_blw_sup s1 hm2.1 _ hk hl), Option.bind_some]
              exact ⟨S, I3, _, rfl, p_kpS.rf S, p_fr.rf _ _⟩
    · have hin2 : fX9_in u (-5) (nI 6) = some false := by rw [p_in_b, decide_eq_false hu]
      obtain ⟨h6, h5⟩ := slope6_no hu
      refine place_ok2 (c := c) (p := p) (bad := -1000000001) (A := False) (g8 := fun a3 h => some (-1000000001, h)) (X := fun h => some (-1000000001, h)) (Y := fun h => some (-1000000001, h)) (fun K S I L T Λ => ?_) (fun z K S I L T Λ => rfl) (fun h => ?_) (fun z => z.elim) (fun z h => rfl) (fun z => z.elim)
      · unfold fX8_blown
        rw [gB_o, Option.bind_some, is_slope_in, hin]
        simp only [Option.bind_some, if_neg eb_t, if_neg h6, h5, if_pos eb_f]
      · unfold fX9_blown
        simp only [hin, hin2, Option.bind_some, if_neg eb_t, if_pos eb_f]
  · have hin : fX9_in t (-5) (nI 5) = some false := by rw [p_in_b, decide_eq_false ht]
    refine place_ok2 (c := c) (p := p) (bad := -1000000001) (A := False) (g8 := fun a3 h => some (-1000000001, h)) (X := fun h => some (-1000000001, h)) (Y := fun h => some (-1000000001, h)) (fun K S I L T Λ => ?_) (fun z K S I L T Λ => rfl) (fun h => ?_) (fun z => z.elim) (fun z h => rfl) (fun z => z.elim)
    · unfold fX8_blown
      rw [gB_o, Option.bind_some, is_slope_in, hin]
      simp only [Option.bind_some, if_pos eb_f]
    · unfold fX9_blown
      simp only [hin, Option.bind_some, if_pos eb_f]
theorem c_tree (c p n w : Int32) : p_both (fX8_tree 0 c p n w) (fX9_tree 96 c p n w) := by
  by_cases hn : ¬ n < nI 1 ∧ ¬ nI 3 < n
  · have hin : fX9_in n (nI 1) (nI 3) = some true := by rw [p_in_b, decide_eq_true hn]
    rcases rng_or w (n := 2) (by decide) with ⟨k, hk, rfl⟩ | ⟨hno, hr⟩
    · obtain ⟨D, hD, rfl⟩ : ∃ D, (1 ≤ D ∧ D ≤ 3) ∧ n = nI D := by
        obtain ⟨j, hj, rfl⟩ := nI_of (x := n) (fun z => hn.1 (Int32.lt_trans z (by decide)))
        refine ⟨j, ⟨?_, ?_⟩, rfl⟩
        · by_cases e : 1 ≤ j
          · exact e
          · exact absurd (nI_lt (show j < 1 by omega) (by decide)) hn.1
        · by_cases e : j ≤ 3
          · exact e
          · exact absurd (nI_lt (show 3 < j by omega) (by omega)) hn.2
      refine place_ok2 (c := c) (p := p) (bad := -1000000001) (A := True) (g8 := fun a3 h => (o_getR h 0 8 2).bind fun v4 => e_on v4 (none) (fun a5 => (fX6_growTree a5 (nI D) h).bind fun h6 => if nI k = 0 then ((o_getR h6 0 8 2).bind fun v7 => e_on v7 (none) (fun a8 => (o_getI h6 a8 6 0).bind fun v9 => some (v9, h6))) else (if nI k = (nI 1) then ((o_getR h6 0 8 2).bind fun v10 => e_on v10 (none) (fun a11 => (o_getI h6 a11 6 1).bind fun v12 => some (v12, h6))) else ((o_getR h6 0 8 2).bind fun v13 => e_on v13 (none) (fun a14 => (o_getI h6 a14 6 2).bind fun v15 => some (v15, h6))))))
        (Y := fun h5 => (fX9_findTree 96 (nI D) h5).bind fun h6 => if nI k = 0 then ((o_getI h6 96 9 7).bind fun v7 => some (v7, h6)) else (if nI k = (nI 1) then ((o_getI h6 96 9 8).bind fun v8 => some (v8, h6)) else ((o_getI h6 96 9 9).bind fun v9 => some (v9, h6)))) (fun K S I L T Λ => ?_) (fun z => absurd trivial z) (fun h => ?_) (fun _ h => rfl) (fun z => absurd trivial z) ?_
      · unfold fX8_tree
        rw [gB_o, Option.bind_some]
        simp only [if_neg hn.1, if_neg hn.2, up_yes hk (show 2 < 2 ^ 31 by decide)]
      · unfold fX9_tree
        simp only [hin, in_yes hk (show 2 < 2 ^ 31 by decide), Option.bind_some, if_neg eb_t]
      · intro _ tt x y hx hy hbd K S I L T Λ lw cn tn hwr hL
        obtain ⟨S1, I1, L1, g1, g2, g3, g4, g5, g6, g7⟩ := q_growTree (S := S) (I := I) (L := L) (T := T) (K := K) (Λ := Λ) pk_v33 hwr.2.2.2.2.2.1 hwr.2.2.2.2.2.2.1 hD.2 hD.1 hwr.2.2.2.1
        refine ⟨if nI k = 0 then nI (p_tN (p_slp Λ lw tn) D (p_shp tt x y)) else if nI k = nI 1 then nI (p_tB (p_slp Λ lw tn) D (p_shp tt x y)) else nI (p_tE (p_slp Λ lw tn) D (p_shp tt x y)), S1, I1, L1, ?_, p_kpS.v pk_v33 g2, g3.mono (by decide), fun I3 L3 w9 hG => ?_⟩
        · show ((o_getR _ 0 8 2).bind _) = _
          rw [gB_2, Option.bind_some]
          show ((fX6_growTree 33 _ _).bind _) = _
          rw [g1, Option.bind_some, gB_2, Option.bind_some]
          show (if nI k = 0 then (o_getI _ 33 6 0).bind _ else if nI k = nI 1 then (o_getI _ 33 6 1).bind _ else (o_getI _ 33 6 2).bind _) = _
          rw [gV_0 pk_v33, gV_1 pk_v33, gV_2 pk_v33, g5, g6, g7, p_tN_eq (p_slp_q Λ lw tn) hL, p_tB_eq (p_slp_q Λ lw tn) hL, p_tE_eq (p_slp_q Λ lw tn) hL]
          split
          · rfl
          · split <;> rfl
        · obtain ⟨S2, I2, L2, k1, k2, k3, k4, k5, k6, k7⟩ := q9_findTree (S := S1) (I := I3) (L := L3) (T := T) (K := K) (Λ := Λ) hD.2 hD.1 w9 (fun k hk hl => (hG k hk).trans (p_shp_sup tt x y hl)) (fun k hk => by rw [hG k hk]; exact p_ic_shp hx hy hbd k hk)
          refine ⟨S2, I2, L2, ?_, p_kpS.f3 k5, k6.mono (by decide)⟩
          show ((fX9_findTree 96 _ _).bind _) = _
          rw [k1, Option.bind_some, gM_7, gM_8, gM_9, k2, k3, k4, p_tN_eq (p_slp_q Λ lw tn) hG, p_tB_eq (p_slp_q Λ lw tn) hG, p_tE_eq (p_slp_q Λ lw tn) hG]
          split
          · rfl
          · split <;> rfl
    · refine place_ok2 (c := c) (p := p) (bad := -1000000001) (A := False) (g8 := fun a3 h => some (-1000000001, h)) (X := fun h => some (-1000000001, h)) (Y := fun h => some (-1000000001, h)) (fun K S I L T Λ => ?_) (fun z K S I L T Λ => rfl) (fun h => ?_) (fun z => z.elim) (fun z h => rfl) (fun z => z.elim)
      · unfold fX8_tree
        rw [gB_o, Option.bind_some]
        simp only [if_neg hn.1, if_neg hn.2, up_no hr]
      · unfold fX9_tree
        simp only [hin, in_no hr, Option.bind_some, if_neg eb_t, if_pos eb_f]
  · have hin : fX9_in n (nI 1) (nI 3) = some false := by rw [p_in_b, decide_eq_false hn]
    refine place_ok2 (c := c) (p := p) (bad := -1000000001) (A := False) (g8 := fun a3 h => some (-1000000001, h)) (X := fun h => some (-1000000001, h)) (Y := fun h => some (-1000000001, h)) (fun K S I L T Λ => ?_) (fun z K S I L T Λ => rfl) (fun h => ?_) (fun z => z.elim) (fun z h => rfl) (fun z => z.elim)
    · unfold fX8_tree
      rw [gB_o, Option.bind_some]
      by_cases h1 : n < nI 1
      · simp only [if_pos h1]
      · simp only [if_neg h1, if_pos (Classical.not_not.mp (fun z => hn ⟨h1, z⟩))]
    · unfold fX9_tree
      simp only [hin, Option.bind_some, if_pos eb_f]
