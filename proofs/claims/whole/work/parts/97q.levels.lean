section LEVELS
variable {bt : Nat → Int32} {n ky : Nat}
theorem sim_piece {F : Nat → Int32 → Int32 → Int32 → e_H → Option (Bool × e_H)} {o k : Nat} (ht : p_tb bt n) (hk : ky ≤ 2) (ho : o ≤ 8) (hk8 : k ≤ 8) (hF : o < 8 → ∀ k', k' ≤ 8 → p_sim bt n ky F 0 (o + 1) k') : p_sim bt n ky (fX5_readLevel_r F) 5 o k := by
  intro K S I L T Λ at_ C a hts hat hC
  have hn := ht.1
  obtain ⟨i, at1, i1, i2, i3, i4, ⟨S1, i5, i6, i7⟩, i8, i9⟩ := not_go (F := F) (o := o) (k := k) ht (8 - k) (199 - (8 - k)) 0 K S I L T Λ at_ C a (by omega) hts hat
  rw [show 8 - k + 1 + (199 - (8 - k)) = 200 by omega] at i7
  have step : fX5_readLevel_r F 57 (nI 5) (nI o) (nI k) (p_H K S I L T Λ) = (fX5_readPiece_L5 F 200 57 (nI o) (nI k) (nI (k + 0)) (nI 0) (p_H K S I L T Λ)).bind fun p2 => some (p2.1, p2.2) := by
    unfold fX5_readLevel_r
    rw [if_neg (show ¬ nI 5 < nI 5 by decide)]
    rfl
  rw [i7] at step
  have pre : ∀ q e W D τ, p_prr bt n 5 o k at_ C q e W D τ → ∃ q', p_to bt n ky true ((q, e), (W, D), a, τ) true ((q', e), (p_rep (-10) i W, D), a, τ) ∧ p_inP bt n o (k + 0 + i) at1 C q' e W D i := by
    intro q e W D τ h
    obtain ⟨c1, c2, c3, c4, c5, c6, c7, c8, c9⟩ := h
    obtain ⟨q', y1, y2, y3, y4⟩ := i9 q e W D τ c1 c2 ⟨c3, c4⟩ (by omega)
    exact ⟨q', y4, y1, y2, y3, c5, by omega, c7, c8⟩
  by_cases hb : p_by bt n at1 = nI 33
  · rw [if_pos hb] at step
    refine ⟨false, S1, I, at1, C, a, step, i5, i6, i3, fun z => absurd z (by decide), fun _ q e W D τ h => ?_⟩
    obtain ⟨q', s1, c1, c2, c3, c4, c5, c6, c7⟩ := pre q e W D τ h
    have e8 := i8 hb
    have hx : p_pt bt n ky at1 e = none := pt_oth (by rw [hb]; decide) (by rw [hb]; decide)
    have s2 := st_no (q := q') (e := e) (W := p_rep (-10) i W) (D := D) (a := a) (τ := τ) (ky := ky) ht hk c1 (fun _ => by rw [rep_cN]; omega) (fun z => by rw [c2, hb] at z; exact absurd z (by decide)) (by rw [rep_cN]; omega) (by rw [rep_cO]; omega) (by rw [c2]; exact hx)
    rw [c2] at s2
    exact s1.no s2
  · rw [if_neg hb] at step
    obtain ⟨ok, S2, I2, at2, C2, a2, r1, r2, r3, r4, r5, r6⟩ := sim_inner (F := F) (o := o) (k := k + 0 + i) ht hk ho (by omega) (fun z => hF z _ (by omega)) K S1 I L T Λ at1 C a i6 i3 i4 hb (by omega)
    unfold fX5_readPiece_b48 at step
    rw [r1, Option.bind_some] at step
    cases ok with
    | false =>
      rw [if_pos eb_f] at step
      refine ⟨false, S2, I2, at2, C2, a2, step, i5.tr r2, r3, r4, fun z => absurd z (by decide), fun _ q e W D τ h => ?_⟩
      obtain ⟨q', s1, s2⟩ := pre q e W D τ h
      exact s1.no (r6 rfl _ _ _ _ _ _ s2)
    | true =>
      obtain ⟨⟨p1, p2, p3, p4⟩, p5⟩ := r5 rfl
      obtain ⟨S3, I3, w1, w2, w3⟩ := w62_go (F := F) (k3 := k + i) (by omega) i (199 - i) k K S2 I2 L T Λ at2 C2 a2 (by omega) r3 (by omega)
      rw [show i + 1 + (199 - i) = 200 by omega] at w1
      rw [if_neg eb_t] at step
      have step2 : fX5_readLevel_r F 57 (nI 5) (nI o) (nI k) (p_H K S I L T Λ) = some (true, p_H K S3 I3 L T Λ) := by
        refine step.trans ?_
        show (fX5_readPiece_L62 F 200 57 (nI (k + i)) (nI k) (p_H K S2 I2 L T Λ)).bind _ = _
        rw [w1]
        rfl
      refine ⟨true, S3, I3, at2, p_rep (-33) i C2, a2, step2, (i5.tr r2).tr w2, w3, r4, fun _ => ⟨⟨by omega, by rw [rep_len]; omega, fun hw => ?_, fun hc x hx => ?_⟩, fun z => absurd z (by decide), fun q e W D τ h => ?_⟩, fun z => absurd z (by decide)⟩
      · obtain ⟨z1, z2⟩ := p3 hw
        obtain ⟨z3, z4⟩ := rep_wfl i C2 z1 (by omega)
        exact ⟨z3, by rw [z4, z2]⟩
      · rcases rep_mem (-33) i C2 hx with z | z
        · rw [z]
          exact Or.inr (Or.inr (Or.inr (Or.inr (Or.inl rfl))))
        · exact p4 hc x z
      · obtain ⟨q', s1, s2⟩ := pre q e W D τ h
        obtain ⟨q2, e2, τ2, v1, v2, v3, v4, v5⟩ := p5 _ _ _ _ _ _ s2
        refine ⟨q2, e2, [], p_rep (-10) i (C2.map p_c9), τ2, s1.tr v1, v2, v3, v4, fun v hv => absurd hv (by simp), ?_, fun j hj => v5 j (by omega), fun _ => v5 o (Nat.le_refl _), fun l h1 h2 => absurd h1 (by omega)⟩
        rw [rep_map]
        rfl
theorem sim_all (ht : p_tb bt n) (hk : ky ≤ 2) : ∀ (N lv o k : Nat), lv ≤ 5 → o ≤ 8 → k ≤ 8 → 6 * (8 - o) + (5 - lv) < N → p_sim bt n ky (fX5_readLevel_R N) lv o k
  | 0, lv, o, k, h1, h2, h3, h4 => absurd h4 (by omega)
  | N + 1, lv, o, k, h1, h2, h3, h4 => by
    show p_sim bt n ky (fX5_readLevel_r (fX5_readLevel_R N)) lv o k
    by_cases h5 : lv = 5
    · rw [h5]
      exact sim_piece ht hk h2 h3 (fun z k' hk' => sim_all ht hk N 0 (o + 1) k' (by omega) (by omega) hk' (by omega))
    · exact sim_lev ht (by omega) h2 (sim_all ht hk N (lv + 1) o k (by omega) h2 h3 (by omega))
theorem sim_top (ht : p_tb bt n) (hk : ky ≤ 2) : p_sim bt n ky fX5_readLevel 0 0 0 := sim_all ht hk 100 0 0 0 (by omega) (by omega) (by omega) (by omega)
end LEVELS
