theorem tdiv_np {a : Int} (h : a ≤ 0) : a.tdiv 10 ≤ 0 := by
  have e : a.tdiv 10 = -((-a).tdiv 10) := by rw [Int.neg_tdiv, Int.neg_neg]
  have e2 : 0 ≤ (-a).tdiv 10 := Int.tdiv_nonneg (by omega) (by decide)
  omega
theorem place_ok2 {R : Type} {c p : Int32} {bad : R} {g8 : Nat → e_H → Option (R × e_H)} {f8 f9 X Y : e_H → Option (R × e_H)} (A : Prop)
    (h8 : ∀ (K : Nat) (S I : Nat → Nat → Int32) (L : Nat → Nat → Int64) (T : Nat → Nat → Option Nat) (Λ : Nat → p_Lw), f8 (p_H K S I L T Λ) = (fX8_shapeAt 0 c p (p_H K S I L T Λ)).bind fun p1 => e_on p1.1 (some (bad, p1.2)) (fun a => g8 a p1.2))
    (hbad8 : ¬ A → ∀ (K : Nat) (S I : Nat → Nat → Int32) (L : Nat → Nat → Int64) (T : Nat → Nat → Option Nat) (Λ : Nat → p_Lw), g8 39 (p_H K S I L T Λ) = some (bad, p_H K S I L T Λ))
    (h9 : ∀ h, f9 h = (o_obj h 96 9).bind fun _ => (fX9_isCurve 96 c h).bind fun v1 => if (e_b v1) = 0 then some (bad, h) else (fX9_isPlace p).bind fun v2 => if (e_b v2) = 0 then some (bad, h) else X h)
    (hX1 : A → ∀ h, X h = (fX9_findPlace 96 c p h).bind Y)
    (hX2 : ¬ A → ∀ h, X h = some (bad, h))
    (hgo : A → ∀ (t : Nat → Nat → Int32) (x y : Int64), p_ib x 5 → p_ib y 5 → (∀ k l, k + l ≤ 4 → -198 ≤ (t k l).toInt ∧ (t k l).toInt ≤ 198) → ∀ (K : Nat) (S I : Nat → Nat → Int32) (L : Nat → Nat → Int64) (T : Nat → Nat → Option Nat) (Λ : Nat → p_Lw) (lw : Nat → Nat) (cn tn : Nat), p_wr 1 97 S I T K Λ lw cn tn → (∀ k, k < 85 → L 40 k = p_shp t x y k) →
      ∃ r S1 I1 L1, g8 39 (p_H K S I L T Λ) = some (r, p_H K S1 I1 L1 T Λ) ∧ p_kpS S S1 ∧ p_fr p_scI I I1 ∧
        (∀ I3 L3, p_w9 I3 Λ lw tn → (∀ j, j < 85 → p_s9 L3 0 j = p_shp t x y j) →
          ∃ S2 I2 L2, Y (p_H K S1 I3 L3 T Λ) = some (r, p_H K S2 I2 L2 T Λ) ∧ p_kpS S1 S2 ∧ p_fr p_scI I3 I2)) : p_both f8 f9 := by
  refine place_ok (bad := bad) (g8 := g8) A h8 hbad8 ?_ ?_
  · intro K S I L T Λ lw cn tn hwr hno
    rw [h9, gM_o, Option.bind_some, q9_isCurve hwr.1.2.2.1 hwr.1.1, Option.bind_some]
    by_cases e : ∃ k, k < cn ∧ c = nI k
    · rw [decide_eq_true e, if_neg eb_t, q9_isPlace, Option.bind_some]
      by_cases e2 : p_pln p
      · rw [decide_eq_true e2, if_neg eb_t]
        exact hX2 (fun z => hno ⟨e, e2, z⟩) _
      · rw [decide_eq_false e2, if_pos eb_f]
    · rw [decide_eq_false e, if_pos eb_f]
  · intro hA t x y hx hy hbd K S I L T Λ lw cn tn cc pp hc hp hpp h1 h2 hcc hwr hL
    obtain ⟨r, S1, I1, L1, g1, g2, g3, g4⟩ := hgo hA t x y hx hy hbd K S I L T Λ lw cn tn hwr hL
    refine ⟨r, S1, I1, L1, g1, g2, g3, fun I3 G f3 w9 hG hfp => ?_⟩
    obtain ⟨S2, I2, L2, k1, k2, k3⟩ := g4 I3 (va_up L1 101 G) w9 hG
    refine ⟨S2, I2, L2, ?_, k2, k3⟩
    have w1 := hwr.kp (Or.inl ⟨rfl, rfl⟩) g2 g3
    rw [h9, gM_o, Option.bind_some, q9_isCurve w1.1.2.2.1 w1.1.1, Option.bind_some, decide_eq_true ⟨cc, hcc, hc⟩, if_neg eb_t, q9_isPlace, Option.bind_some, decide_eq_true ⟨pp, hpp, hp, h1, h2⟩, if_neg eb_t, hX1 hA, hfp, Option.bind_some, k1]
theorem pk_39 : p_isS 39 := pk_sv (v := 33) (w := 1) (Or.inl ⟨rfl, rfl⟩) (show 0 < 3 by decide)
theorem pk_v33 : p_isV 33 1 := Or.inl ⟨rfl, rfl⟩
theorem p_su_shp {t : Nat → Nat → Int32} {x y : Int64} {L : Nat → Nat → Int64} (hG : ∀ j, j < 85 → p_s9 L 0 j = p_shp t x y j) : p_su (fun k => L 101 (85 * 0 + k)) := fun j hj hl => (hG j hj).trans (p_shp_sup t _ _ (by omega))
section PL89
variable {K : Nat} {S I : Nat → Nat → Int32} {L : Nat → Nat → Int64} {T : Nat → Nat → Option Nat} {Λ : Nat → p_Lw}
theorem pl_8 {t : Nat → Nat → Int32} {x y : Int64} (hL : ∀ k, k < 85 → L 40 k = p_shp t x y k) : fX3_least 39 (p_H K S I L T Λ) = some (nI (p_tm (p_shp t x y))) := by
  rw [q_least pk_39, p_tm_eq hL]
theorem pl_9 {t : Nat → Nat → Int32} {x y : Int64} (hG : ∀ j, j < 85 → p_s9 L 0 j = p_shp t x y j) : fX9_timesOf 96 (nI 0) (p_H K S I L T Λ) = some (nI (p_tm (p_shp t x y))) := by
  rw [q9_times (by decide) (p_su_shp hG)]
  exact congrArg (fun z => some (nI z)) (p_tm_eq hG)
end PL89
theorem br_le {m : Nat} (h : p_br m = true) : 1 ≤ m ∧ m ≤ 16 := of_decide_eq_true h
theorem c_slopes (c p : Int32) : p_both (fX8_slopes 0 c p) (fX9_slopes 96 c p) := by
  refine place_ok2 (c := c) (p := p) (bad := -1000000001) (A := True) (g8 := fun a3 h => (fX3_least a3 h).bind fun v4 => (fX3_branches v4).bind fun v5 => if (e_b v5) = 0 then (some ((-1000000002 : Int32), h)) else ((o_getR h 0 8 2).bind fun v6 => e_on v6 (none) (fun a7 => (fX6_slopeBits a7 a3 v4 h).bind fun p8 => some (p8.1, p8.2))))
    (Y := fun h3 => (fX9_timesOf 96 (nI 0) h3).bind fun v4 => (fX9_isSome v4).bind fun v5 => if (e_b v5) = 0 then (some ((-1000000002 : Int32), h3)) else (fX9_slopes_L47 200 96 v4 (nI 0) (-5 : Int32) h3)) (fun K S I L T Λ => ?_) (fun z => absurd trivial z) (fun h => ?_) (fun _ h => rfl) (fun z => absurd trivial z) ?_
  · unfold fX8_slopes
    rw [gB_o, Option.bind_some]
  · unfold fX9_slopes
    rfl
  · intro _ t x y hx hy hbd K S I L T Λ lw cn tn hwr hL
    have h17 := p_tm_le (p_shp t x y)
    show ∃ r S1 I1 L1, ((fX3_least 39 (p_H K S I L T Λ)).bind fun v4 => _) = _ ∧ _
    cases hb : p_br (p_tm (p_shp t x y))
    · refine ⟨-1000000002, S, I, L, ?_, p_kpS.rf S, p_fr.rf _ _, fun I3 L3 w9 hG => ⟨S, I3, L3, ?_, p_kpS.rf S, p_fr.rf _ _⟩⟩
      · rw [pl_8 hL, Option.bind_some, q_branches (by omega), Option.bind_some, hb, if_pos eb_f]
      · show ((fX9_timesOf 96 (nI 0) _).bind fun v4 => _) = _
        rw [pl_9 hG, Option.bind_some, q9_isSome (by omega), Option.bind_some, hb, if_pos eb_f]
    · obtain ⟨st, g⟩ := q_slopeBits (S := S) (I := I) (L := L) (T := T) (K := K) (Λ := Λ) pk_v33 pk_39 (show p_tm (p_shp t x y) ≤ 40 by omega) hwr.2.2.2.2.2.1 hwr.2.2.2.1 hwr.2.2.2.2.2.2.1
      refine ⟨p_bits (p_slp Λ lw tn (L 40) (p_tm (p_shp t x y))) 11, S, va_up I 4 st, L, ?_, p_kpS.rf S, (p_fr.rf _ _).up (by decide) _, fun I3 L3 w9 hG => ?_⟩
      · rw [pl_8 hL, Option.bind_some, q_branches (by omega), Option.bind_some, hb, if_neg eb_t, gB_2, Option.bind_some]
        exact (congrArg (fun z => Option.bind z fun p8 => some (p8.1, p8.2)) g).trans rfl
      · obtain ⟨I4, k1, k2⟩ := slopes9_go (S := S) (L := L3) (T := T) (K := K) (Λ := Λ) (s := 0) (m := p_tm (p_shp t x y)) (lw := lw) (n := tn) (br_le hb).2 11 188 0 I3 (by omega) w9
        refine ⟨S, I4, L3, ?_, p_kpS.rf S, k2.mono (by decide)⟩
        show ((fX9_timesOf 96 (nI 0) _).bind fun v4 => _) = _
        rw [pl_9 hG, Option.bind_some, q9_isSome (by omega), Option.bind_some, hb, if_neg eb_t]
        refine Eq.trans ?_ (k1.trans ?_)
        · rfl
        · rw [p_slp_q Λ lw tn _ _ hG, p_slp_q Λ lw tn _ _ hL]
theorem c_shape (c p a : Int32) : p_both (fX8_shape 0 c p a) (fX9_shape 96 c p a) := by
  have hcase : (∃ k, k < 2 ^ 31 ∧ a = nI k ∧ k / 10 ≤ 16 ∧ k % 10 ≤ 4) ∨ ¬ (∃ k, k < 2 ^ 31 ∧ a = nI k ∧ k / 10 ≤ 16 ∧ k % 10 ≤ 4) := Classical.em _
  have hneg : a < 0 → fX3_has (a / nI 10) (a - a / nI 10 * nI 10) = some false := by
    intro h
    have h10 : a.toInt < 0 := Int32.lt_iff_toInt_lt.mp h
    unfold fX3_has
    by_cases e : a / nI 10 < 0
    · rw [if_pos e]
    · have e0 : a / nI 10 = 0 := by
        have e1 : (a / nI 10).toInt = a.toInt.tdiv 10 := by
          rw [Int32.toInt_div_of_ne_right _ _ (by decide)]
          rfl
        have e2 : ¬ (a / nI 10).toInt < 0 := fun z => e (Int32.lt_iff_toInt_lt.mpr z)
        have e3 : a.toInt.tdiv 10 ≤ 0 := tdiv_np (by omega)
        apply Int32.toInt_inj.mp
        rw [e1] at e2 ⊢
        show _ = (0 : Int)
        omega
      rw [e0, if_neg (by decide), if_neg (by decide), show a - 0 * nI 10 = a by grind, if_pos h]
  have hno : ¬ (∃ k, k < 2 ^ 31 ∧ a = nI k ∧ k / 10 ≤ 16 ∧ k % 10 ≤ 4) → fX3_has (a / nI 10) (a - a / nI 10 * nI 10) = some false := by
    intro h
    by_cases h0 : a < 0
    · exact hneg h0
    · obtain ⟨j, hj, rfl⟩ := nI_of h0
      unfold fX3_has
      rw [nI_mod hj (by decide), nI_div hj (by decide), if_neg (nI_pos (by omega)), if_neg (nI_pos (by omega))]
      by_cases h1 : 16 < j / 10
      · rw [if_pos (nI_lt h1 (by omega))]
      · rw [if_neg (nI_nlt (by omega) (by omega)), if_pos (nI_lt (by
          by_cases h2 : j % 10 ≤ 4
          · exact absurd ⟨j, hj, rfl, by omega, h2⟩ h
          · omega) (by omega))]
  refine place_ok2 (c := c) (p := p) (bad := -1000000001) (A := ∃ k, k < 2 ^ 31 ∧ a = nI k ∧ k / 10 ≤ 16 ∧ k % 10 ≤ 4) (g8 := fun a3 h => (fX3_has (a / (nI 10)) (a - a / (nI 10) * (nI 10))).bind fun v4 => if (e_b v4) = 0 then (some ((-1000000001 : Int64), h)) else ((fX3_number a3 (a / (nI 10)) (a - a / (nI 10) * (nI 10)) h).bind fun v5 => some (v5, h)))
    (X := fun h => if a < 0 then (some ((-1000000001 : Int64), h)) else (if (nI 16) < (a / (nI 10)) then (some ((-1000000001 : Int64), h)) else (if (a - a / (nI 10) * (nI 10)) ≤ (nI 4) then ((fX9_findPlace 96 c p h).bind fun h3 => (o_getR h3 96 9 5).bind fun v4 => e_on v4 (none) (fun a5 => (o_ldL h3 a5 1 (((nI 5) * (a / (nI 10))) + (a - a / (nI 10) * (nI 10)))).bind fun v7 => some (v7, h3))) else (some ((-1000000001 : Int64), h)))))
    (Y := fun h3 => (o_getR h3 96 9 5).bind fun v4 => e_on v4 (none) (fun a5 => (o_ldL h3 a5 1 (((nI 5) * (a / (nI 10))) + (a - a / (nI 10) * (nI 10)))).bind fun v7 => some (v7, h3))) (fun K S I L T Λ => ?_) ?_ (fun h => ?_) ?_ ?_ ?_
  · unfold fX8_shape
    rw [gB_o, Option.bind_some]
  · intro h K S I L T Λ
    show (fX3_has _ _).bind _ = _
    rw [hno h, Option.bind_some, if_pos eb_f]
  · unfold fX9_shape
    rfl
  · rintro ⟨k, hk, rfl, h1, h2⟩ h
    show (if _ then _ else _) = _
    rw [if_neg (nI_pos hk), nI_mod hk (by decide), nI_div hk (by decide), if_neg (nI_nlt h1 (by omega)), if_pos (nI_le h2 (by omega))]
  · intro h hh
    show (if _ then _ else _) = _
    by_cases h0 : a < 0
    · rw [if_pos h0]
    · obtain ⟨j, hj, rfl⟩ := nI_of h0
      rw [if_neg h0, nI_mod hj (by decide), nI_div hj (by decide)]
      by_cases h1 : 16 < j / 10
      · rw [if_pos (nI_lt h1 (by omega))]
      · rw [if_neg (nI_nlt (by omega) (by omega)), if_neg (nI_ge (by
          by_cases h2 : j % 10 ≤ 4
          · exact absurd ⟨j, hj, rfl, by omega, h2⟩ h
          · omega) (by omega))]
  · rintro ⟨k, hk, rfl, h1, h2⟩ t x y hx hy hbd K S I L T Λ lw cn tn hwr hL
    refine ⟨p_shp t x y (5 * (k / 10) + k % 10), S, I, L, ?_, p_kpS.rf S, p_fr.rf _ _, fun I3 L3 w9 hG => ⟨S, I3, L3, ?_, p_kpS.rf S, p_fr.rf _ _⟩⟩
    · show (fX3_has _ _).bind _ = _
      have e : fX3_has (nI (k / 10)) (nI (k % 10)) = some true := by
        unfold fX3_has
        rw [if_neg (nI_pos (by omega)), if_neg (nI_nlt h1 (by omega)), if_neg (nI_pos (by omega)), if_neg (nI_nlt h2 (by omega))]
      rw [nI_mod hk (by decide), nI_div hk (by decide), e, Option.bind_some, if_neg eb_t, q_num pk_39 h1 h2, Option.bind_some, hL _ (by omega)]
    · show (o_getR _ 96 9 5).bind _ = _
      rw [gM_5, Option.bind_some]
      show (o_ldL _ 101 1 _).bind _ = _
      rw [nI_mod hk (by decide), nI_div hk (by decide), nI_mul, nI_add, p_ldL pk_101 (show 5 * (k / 10) + k % 10 < 3400 by omega) (by decide), Option.bind_some, ← hG _ (by omega)]
      unfold p_s9
      rw [show 85 * 0 + (5 * (k / 10) + k % 10) = 5 * (k / 10) + k % 10 by omega]
