def p_both {R : Type} (f8 f9 : e_H → Option (R × e_H)) : Prop := ∀ (K : Nat) (S I : Nat → Nat → Int32) (L : Nat → Nat → Int64) (T : Nat → Nat → Option Nat) (Λ : Nat → p_Lw), p_inv K S I T Λ → ∃ r h1 K2 S2 I2 L2 T2 Λ2, f8 (p_H K S I L T Λ) = some (r, h1) ∧ f9 h1 = some (r, p_H K2 S2 I2 L2 T2 Λ2) ∧ p_inv K2 S2 I2 T2 Λ2
theorem p_tt2_kp {S S' I I' : Nat → Nat → Int32} {Λ : Nat → p_Lw} {lw : Nat → Nat} {tn c : Nat} (hc : c < 6) (hS : p_kpS S S') (hI : p_fr p_scI I I') : p_tt2 S' I' Λ lw tn c = p_tt2 S I Λ lw tn c := by
  unfold p_tt2
  rw [hS.1 (5 + 2 * c) (by omega) (by omega) (by omega) (by omega), hI (5 + 2 * c + 1) (p_sc_n (by omega))]
theorem p_tt2_bd (S I : Nat → Nat → Int32) (Λ : Nat → p_Lw) (lw : Nat → Nat) (tn c : Nat) : ∀ k l, k + l ≤ 4 → -198 ≤ (p_tt2 S I Λ lw tn c k l).toInt ∧ (p_tt2 S I Λ lw tn c k l).toInt ≤ 198 := fun k l _ => p_tv_bd _ _ _ _ _
theorem p_in_b {v a b : Int32} : fX9_in v a b = some (decide (¬ v < a ∧ ¬ b < v)) := by
  unfold fX9_in
  by_cases h : v < a
  · rw [if_pos h]; simp [h]
  · rw [if_neg h]
    by_cases h2 : b < v
    · rw [if_pos h2]; simp [h, h2]
    · rw [if_neg h2]; simp [h, h2]
abbrev p_pln (p : Int32) : Prop := ∃ k, k < 2 ^ 31 ∧ p = nI k ∧ k / 100 ≤ 10 ∧ k % 100 ≤ 10
-- a call that asks about a place: what it needs to say on both sides
theorem place_ok {R : Type} {c p : Int32} {bad : R} {g8 : Nat → e_H → Option (R × e_H)} {f8 f9 : e_H → Option (R × e_H)} (A : Prop)
    (h8 : ∀ (K : Nat) (S I : Nat → Nat → Int32) (L : Nat → Nat → Int64) (T : Nat → Nat → Option Nat) (Λ : Nat → p_Lw), f8 (p_H K S I L T Λ) = (fX8_shapeAt 0 c p (p_H K S I L T Λ)).bind fun p1 => e_on p1.1 (some (bad, p1.2)) (fun a => g8 a p1.2))
    (hbad8 : ¬ A → ∀ (K : Nat) (S I : Nat → Nat → Int32) (L : Nat → Nat → Int64) (T : Nat → Nat → Option Nat) (Λ : Nat → p_Lw), g8 39 (p_H K S I L T Λ) = some (bad, p_H K S I L T Λ))
    (hbad9 : ∀ (K : Nat) (S I : Nat → Nat → Int32) (L : Nat → Nat → Int64) (T : Nat → Nat → Option Nat) (Λ : Nat → p_Lw) (lw : Nat → Nat) (cn tn : Nat), p_wr 1 97 S I T K Λ lw cn tn → ¬ ((∃ k, k < cn ∧ c = nI k) ∧ p_pln p ∧ A) → f9 (p_H K S I L T Λ) = some (bad, p_H K S I L T Λ))
    (hgo : A → ∀ (t : Nat → Nat → Int32) (x y : Int64), p_ib x 5 → p_ib y 5 → (∀ k l, k + l ≤ 4 → -198 ≤ (t k l).toInt ∧ (t k l).toInt ≤ 198) → ∀ (K : Nat) (S I : Nat → Nat → Int32) (L : Nat → Nat → Int64) (T : Nat → Nat → Option Nat) (Λ : Nat → p_Lw) (lw : Nat → Nat) (cn tn : Nat) (cc pp : Nat), c = nI cc → p = nI pp → pp < 2 ^ 31 → pp / 100 ≤ 10 → pp % 100 ≤ 10 → cc < cn → p_wr 1 97 S I T K Λ lw cn tn → (∀ k, k < 85 → L 40 k = p_shp t x y k) →
      ∃ r S1 I1 L1, g8 39 (p_H K S I L T Λ) = some (r, p_H K S1 I1 L1 T Λ) ∧ p_kpS S S1 ∧ p_fr p_scI I I1 ∧
        ((∀ I3 G, p_fr p_scI I1 I3 → p_w9 I3 Λ lw tn → (∀ j, j < 85 → p_s9 (va_up L1 101 G) 0 j = p_shp t x y j) → fX9_findPlace 96 c p (p_H K S1 I1 L1 T Λ) = some (p_H K S1 I3 (va_up L1 101 G) T Λ) →
          ∃ S2 I2 L2, f9 (p_H K S1 I1 L1 T Λ) = some (r, p_H K S2 I2 L2 T Λ) ∧ p_kpS S1 S2 ∧ p_fr p_scI I3 I2))) : p_both f8 f9 := by
  intro K S I L T Λ hinv
  obtain ⟨lw, cn, tn, hwr⟩ := hinv.1
  have hcn := hwr.1.1
  by_cases hv : (∃ k, k < cn ∧ c = nI k) ∧ p_pln p
  · obtain ⟨⟨cc, hcc, rfl⟩, ⟨pp, hpp, rfl, h1, h2⟩⟩ := hv
    obtain ⟨I1, f, k1, k2, k3⟩ := q_shapeAt (L := L) hwr hcc hpp h1 h2
    have fI1 : p_fr p_scI I I1 := k3.mono (by decide)
    have w1 := hwr.kp (Or.inl ⟨rfl, rfl⟩) (p_kpS.rf S) fI1
    have inv1 := hinv.kp (p_kpS.rf S) fI1
    by_cases hA : A
    · have hx : p_ib (p_qx pp) 5 := p_ib_tt (u := pp / 100) (by omega)
      have hy : p_ib (p_qy pp) 5 := p_ib_tt (u := pp % 100) (by omega)
      obtain ⟨r, S2, I2, L2, g1, g2, g3, g4⟩ := hgo hA (p_tt2 S I Λ lw tn cc) (p_qx pp) (p_qy pp) hx hy (p_tt2_bd S I Λ lw tn cc) K S I1 (va_up L 40 f) T Λ lw cn tn cc pp rfl rfl hpp h1 h2 hcc w1 (fun k hk => by rw [va_up_s]; exact k1 k hk)
      have w2 := w1.kp (Or.inl ⟨rfl, rfl⟩) g2 g3
      obtain ⟨I3, G, m1, m2, m3⟩ := q9_findPlace (L := L2) w2 hcc hpp
      have fI3 : p_fr p_scI I2 I3 := m3.mono (by decide)
      have w3 := w2.kp (Or.inl ⟨rfl, rfl⟩) (p_kpS.rf S2) fI3
      rw [p_tt2_kp (show cc < 6 by omega) g2 (fI1.tr g3)] at m1
      obtain ⟨S4, I4, L4, n1, n2, n3⟩ := g4 I3 G fI3 (k_w9 w3) m1 m2
      exact ⟨r, _, K, S4, I4, L4, T, Λ, by rw [h8, k2, Option.bind_some]; exact g1, n1, (inv1.kp g2 g3).kp n2 (fI3.tr n3)⟩
    · exact ⟨bad, _, K, S, I1, va_up L 40 f, T, Λ, by rw [h8, k2, Option.bind_some]; exact hbad8 hA _ _ _ _ _ _, hbad9 _ _ _ _ _ _ lw cn tn w1 (fun z => hA z.2.2), inv1⟩
  · have hno : (¬ ∃ k, k < cn ∧ c = nI k) ∨ ¬ p_pln p := by
      by_cases e : ∃ k, k < cn ∧ c = nI k
      · exact Or.inr (fun z => hv ⟨e, z⟩)
      · exact Or.inl e
    refine ⟨bad, _, K, S, I, L, T, Λ, by rw [h8, q_shapeAt_no hwr hno, Option.bind_some]; rfl, hbad9 _ _ _ _ _ _ lw cn tn hwr (fun z => hv ⟨z.1, z.2.1⟩), hinv⟩
theorem c_times (c p : Int32) : p_both (fX8_times 0 c p) (fX9_times 96 c p) := by
  refine place_ok (c := c) (p := p) (bad := -1000000001) (g8 := fun a h => (fX3_least a h).bind fun v4 => some (v4, h)) True ?_ (fun z => absurd trivial z) ?_ ?_
  · intro K S I L T Λ
    unfold fX8_times
    rw [gB_o, Option.bind_some]
  · intro K S I L T Λ lw cn tn hwr hno
    unfold fX9_times
    rw [gM_o, Option.bind_some, q9_isCurve hwr.1.2.2.1 hwr.1.1, Option.bind_some]
    by_cases e : ∃ k, k < cn ∧ c = nI k
    · rw [decide_eq_true e, if_neg eb_t, q9_isPlace, Option.bind_some, decide_eq_false (fun z => hno ⟨e, z, trivial⟩), if_pos eb_f]
    · rw [decide_eq_false e, if_pos eb_f]
  · intro _ t x y hx hy hbd K S I L T Λ lw cn tn cc pp hc hp hpp h1 h2 hcc hwr hL
    refine ⟨nI (p_tm (p_shp t x y)), S, I, L, ?_, p_kpS.rf S, p_fr.rf _ _, fun I3 G f3 w9 hG hfp => ?_⟩
    · have hs : p_isS 39 := pk_sv (v := 33) (w := 1) (Or.inl ⟨rfl, rfl⟩) (show 0 < 3 by decide)
      rw [q_least hs, Option.bind_some, p_tm_eq hL]
    · refine ⟨S, I3, va_up L 101 G, ?_, p_kpS.rf S, p_fr.rf _ _⟩
      have hsu : p_su (fun k => (va_up L 101 G) 101 (85 * 0 + k)) := fun j hj hl => (hG j hj).trans (p_shp_sup t _ _ (by omega))
      unfold fX9_times
      rw [gM_o, Option.bind_some, q9_isCurve hwr.1.2.2.1 hwr.1.1, Option.bind_some, decide_eq_true ⟨cc, hcc, hc⟩, if_neg eb_t, q9_isPlace, Option.bind_some, decide_eq_true ⟨pp, hpp, hp, h1, h2⟩, if_neg eb_t, hfp, Option.bind_some, q9_times (by decide) hsu, Option.bind_some]
      exact congrArg (fun z => some (nI z, p_H K S I3 (va_up L 101 G) T Λ)) (p_tm_eq hG)
