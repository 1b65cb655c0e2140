theorem first_S {c : Nat} (hc : c < 6) : p_S0 (5 + 2 * c) 0 = nI 0 := by
  rcases (show c = 0 ∨ c = 1 ∨ c = 2 ∨ c = 3 ∨ c = 4 ∨ c = 5 by omega) with rfl | rfl | rfl | rfl | rfl | rfl <;> rfl
theorem first_I {a : Nat} (h1 : a ≠ 97) (h2 : a ≠ 106) (h3 : a ≠ 107) (h4 : a ≠ 113) : p_I0 a = fun _ => 0 := by
  unfold p_I0
  rw [if_neg h1, if_neg h2, if_neg h3, if_neg h4]
theorem first_97 {k : Nat} (hk : k ≠ 0) : p_I0 97 k = 0 := by
  show upd (fun _ => 0) 0 (nI 1) k = 0
  simp only [upd]
  rw [if_neg hk]
theorem first_inv : p_inv 0 p_S0 p_I0 p_T0 p_Λ0 := by
  refine ⟨⟨fun _ => 0, 0, 0, ⟨by decide, rfl, rfl, rfl⟩, fun c hc => ?_, by decide, rfl, rfl, ⟨by decide, fun t ht => absurd ht (Nat.not_lt_zero _)⟩, fun t ht => absurd ht (Nat.not_lt_zero _), fun t ht => absurd ht (Nat.not_lt_zero _)⟩, ⟨false, rfl, rfl, fun h => absurd h (by decide)⟩, ⟨0, by decide, rfl, rfl, fun x hx => absurd hx (Nat.not_lt_zero _)⟩, ⟨0, by decide, rfl, rfl, fun x hx => absurd hx (Nat.not_lt_zero _)⟩, fun s hs => ?_, fun s hs => ?_, ?_, fun w hw t ht => Or.inl rfl⟩
  · rw [show 1 + 4 + 2 * c = 5 + 2 * c by omega, first_S hc, first_97 (by omega)]
    refine ⟨rfl, ⟨0, by decide, rfl⟩, fun x hx => ?_⟩
    rw [first_I (by omega) (by omega) (by omega) (by omega), first_97 (by omega)]
    exact ⟨rfl, by unfold p_bd; decide⟩
  · rcases (show s = 0 ∨ s = 1 ∨ s = 2 ∨ s = 3 by omega) with rfl | rfl | rfl | rfl <;> exact ⟨rfl, Or.inl rfl, ⟨0, by decide, rfl, rfl⟩, fun x hx => rfl⟩
  · rcases (show s = 0 ∨ s = 1 ∨ s = 2 ∨ s = 3 ∨ s = 4 by omega) with rfl | rfl | rfl | rfl | rfl <;> exact ⟨0, by decide, rfl, rfl, fun h => absurd h (by decide), fun h => absurd h (by decide), fun h => absurd h (by decide)⟩
  · exact ⟨⟨rfl, rfl, rfl, rfl, rfl, rfl, rfl, rfl, rfl, rfl, rfl, rfl, rfl⟩, rfl, rfl, rfl, rfl⟩
theorem ix_in {i k L : Nat} (h : 6 * i + 6 ≤ L) (hk : k < 6) (hL : L ≤ 3072) : ¬ ((nI (6 * i) + nI k) < 0 ∨ L ≤ (nI (6 * i) + nI k).toNatClampNeg) := by
  rw [nI_add]
  exact nI_in (by omega) (by omega)
theorem st_curve {L i : Nat} (xs : Nat → Int32) (k18 : Nat → Nat → Int32 → e_H → Option Bool) (h : 6 * i + 6 ≤ L) (hL : L ≤ 3072) (ih : ∀ (K : Nat) (S I : Nat → Nat → Int32) (L : Nat → Nat → Int64) (T : Nat → Nat → Option Nat) (Λ : Nat → p_Lw), p_inv K S I T Λ → k18 0 96 (nI (6 * (i + 1))) (p_H K S I L T Λ) = some true) {K : Nat} {S I : Nat → Nat → Int32} {M : Nat → Nat → Int64} {T : Nat → Nat → Option Nat} {Λ : Nat → p_Lw} (hinv : p_inv K S I T Λ) : fL_law_b216 L xs k18 0 96 (nI (6 * i)) (p_H K S I M T Λ) = some true := by
  obtain ⟨r, g1, K2, S2, I2, L2, T2, Λ2, e1, e2, e3⟩ := c_curve (xs (nI (6 * i) + nI 1).toNatClampNeg) K S I M T Λ hinv
  unfold fL_law_b216 fL_law_b1685
  simp only [if_neg (ix_in h (show 1 < 6 by decide) hL), e1, e2, Option.bind_some]
  rw [if_pos (by trivial), nI_add]
  exact ih _ _ _ _ _ _ e3
theorem st_put {L i : Nat} (xs : Nat → Int32) (k18 : Nat → Nat → Int32 → e_H → Option Bool) (h : 6 * i + 6 ≤ L) (hL : L ≤ 3072) (ih : ∀ (K : Nat) (S I : Nat → Nat → Int32) (L : Nat → Nat → Int64) (T : Nat → Nat → Option Nat) (Λ : Nat → p_Lw), p_inv K S I T Λ → k18 0 96 (nI (6 * (i + 1))) (p_H K S I L T Λ) = some true) {K : Nat} {S I : Nat → Nat → Int32} {M : Nat → Nat → Int64} {T : Nat → Nat → Option Nat} {Λ : Nat → p_Lw} (hinv : p_inv K S I T Λ) : fL_law_b239 L xs k18 0 96 (nI (6 * i)) (p_H K S I M T Λ) = some true := by
  obtain ⟨r, g1, K2, S2, I2, L2, T2, Λ2, e1, e2, e3⟩ := c_put (xs (nI (6 * i) + nI 1).toNatClampNeg) (xs (nI (6 * i) + nI 2).toNatClampNeg) (xs (nI (6 * i) + nI 3).toNatClampNeg) K S I M T Λ hinv
  unfold fL_law_b239 fL_law_b1685
  simp only [if_neg (ix_in h (show 1 < 6 by decide) hL), if_neg (ix_in h (show 2 < 6 by decide) hL), if_neg (ix_in h (show 3 < 6 by decide) hL), e1, e2, Option.bind_some]
  rw [if_pos (by trivial), nI_add]
  exact ih _ _ _ _ _ _ e3
theorem st_term {L i : Nat} (xs : Nat → Int32) (k18 : Nat → Nat → Int32 → e_H → Option Bool) (h : 6 * i + 6 ≤ L) (hL : L ≤ 3072) (ih : ∀ (K : Nat) (S I : Nat → Nat → Int32) (L : Nat → Nat → Int64) (T : Nat → Nat → Option Nat) (Λ : Nat → p_Lw), p_inv K S I T Λ → k18 0 96 (nI (6 * (i + 1))) (p_H K S I L T Λ) = some true) {K : Nat} {S I : Nat → Nat → Int32} {M : Nat → Nat → Int64} {T : Nat → Nat → Option Nat} {Λ : Nat → p_Lw} (hinv : p_inv K S I T Λ) : fL_law_b282 L xs k18 0 96 (nI (6 * i)) (p_H K S I M T Λ) = some true := by
  obtain ⟨r, g1, K2, S2, I2, L2, T2, Λ2, e1, e2, e3⟩ := c_term (xs (nI (6 * i) + nI 1).toNatClampNeg) (xs (nI (6 * i) + nI 2).toNatClampNeg) (xs (nI (6 * i) + nI 3).toNatClampNeg) K S I M T Λ hinv
  unfold fL_law_b282 fL_law_b1685
  simp only [if_neg (ix_in h (show 1 < 6 by decide) hL), if_neg (ix_in h (show 2 < 6 by decide) hL), if_neg (ix_in h (show 3 < 6 by decide) hL), e1, e2, Option.bind_some]
  rw [if_pos (by trivial), nI_add]
  exact ih _ _ _ _ _ _ e3
theorem st_told {L i : Nat} (xs : Nat → Int32) (k18 : Nat → Nat → Int32 → e_H → Option Bool) (h : 6 * i + 6 ≤ L) (hL : L ≤ 3072) (ih : ∀ (K : Nat) (S I : Nat → Nat → Int32) (L : Nat → Nat → Int64) (T : Nat → Nat → Option Nat) (Λ : Nat → p_Lw), p_inv K S I T Λ → k18 0 96 (nI (6 * (i + 1))) (p_H K S I L T Λ) = some true) {K : Nat} {S I : Nat → Nat → Int32} {M : Nat → Nat → Int64} {T : Nat → Nat → Option Nat} {Λ : Nat → p_Lw} (hinv : p_inv K S I T Λ) : fL_law_b325 L xs k18 0 96 (nI (6 * i)) (p_H K S I M T Λ) = some true := by
  obtain ⟨r, g1, K2, S2, I2, L2, T2, Λ2, e1, e2, e3⟩ := c_told (xs (nI (6 * i) + nI 1).toNatClampNeg) (xs (nI (6 * i) + nI 2).toNatClampNeg) K S I M T Λ hinv
  unfold fL_law_b325 fL_law_b1685
  simp only [if_neg (ix_in h (show 1 < 6 by decide) hL), if_neg (ix_in h (show 2 < 6 by decide) hL), e1, e2, Option.bind_some]
  rw [if_pos (by trivial), nI_add]
  exact ih _ _ _ _ _ _ e3
theorem st_as {L i : Nat} (xs : Nat → Int32) (k18 : Nat → Nat → Int32 → e_H → Option Bool) (h : 6 * i + 6 ≤ L) (hL : L ≤ 3072) (ih : ∀ (K : Nat) (S I : Nat → Nat → Int32) (L : Nat → Nat → Int64) (T : Nat → Nat → Option Nat) (Λ : Nat → p_Lw), p_inv K S I T Λ → k18 0 96 (nI (6 * (i + 1))) (p_H K S I L T Λ) = some true) {K : Nat} {S I : Nat → Nat → Int32} {M : Nat → Nat → Int64} {T : Nat → Nat → Option Nat} {Λ : Nat → p_Lw} (hinv : p_inv K S I T Λ) : fL_law_b358 L xs k18 0 96 (nI (6 * i)) (p_H K S I M T Λ) = some true := by
  obtain ⟨r, e1, e2⟩ := c_as (xs (nI (6 * i) + nI 1).toNatClampNeg) (xs (nI (6 * i) + nI 2).toNatClampNeg) K S I M T Λ hinv
  unfold fL_law_b358 fL_law_b1685
  simp only [if_neg (ix_in h (show 1 < 6 by decide) hL), if_neg (ix_in h (show 2 < 6 by decide) hL), e1, e2, Option.bind_some]
  rw [if_pos (by trivial), nI_add]
  exact ih _ _ _ _ _ _ hinv
theorem st_turns {L i : Nat} (xs : Nat → Int32) (k18 : Nat → Nat → Int32 → e_H → Option Bool) (h : 6 * i + 6 ≤ L) (hL : L ≤ 3072) (ih : ∀ (K : Nat) (S I : Nat → Nat → Int32) (L : Nat → Nat → Int64) (T : Nat → Nat → Option Nat) (Λ : Nat → p_Lw), p_inv K S I T Λ → k18 0 96 (nI (6 * (i + 1))) (p_H K S I L T Λ) = some true) {K : Nat} {S I : Nat → Nat → Int32} {M : Nat → Nat → Int64} {T : Nat → Nat → Option Nat} {Λ : Nat → p_Lw} (hinv : p_inv K S I T Λ) : fL_law_b391 L xs k18 0 96 (nI (6 * i)) (p_H K S I M T Λ) = some true := by
  obtain ⟨r, g1, K2, S2, I2, L2, T2, Λ2, e1, e2, e3⟩ := c_turns (xs (nI (6 * i) + nI 1).toNatClampNeg) (xs (nI (6 * i) + nI 2).toNatClampNeg) K S I M T Λ hinv
  unfold fL_law_b391 fL_law_b1685
  simp only [if_neg (ix_in h (show 1 < 6 by decide) hL), if_neg (ix_in h (show 2 < 6 by decide) hL), e1, e2, Option.bind_some]
  rw [if_pos (by trivial), nI_add]
  exact ih _ _ _ _ _ _ e3
theorem st_mix {L i : Nat} (xs : Nat → Int32) (k18 : Nat → Nat → Int32 → e_H → Option Bool) (h : 6 * i + 6 ≤ L) (hL : L ≤ 3072) (ih : ∀ (K : Nat) (S I : Nat → Nat → Int32) (L : Nat → Nat → Int64) (T : Nat → Nat → Option Nat) (Λ : Nat → p_Lw), p_inv K S I T Λ → k18 0 96 (nI (6 * (i + 1))) (p_H K S I L T Λ) = some true) {K : Nat} {S I : Nat → Nat → Int32} {M : Nat → Nat → Int64} {T : Nat → Nat → Option Nat} {Λ : Nat → p_Lw} (hinv : p_inv K S I T Λ) : fL_law_b424 L xs k18 0 96 (nI (6 * i)) (p_H K S I M T Λ) = some true := by
  obtain ⟨r, g1, K2, S2, I2, L2, T2, Λ2, e1, e2, e3⟩ := c_mix (xs (nI (6 * i) + nI 1).toNatClampNeg) (xs (nI (6 * i) + nI 2).toNatClampNeg) (xs (nI (6 * i) + nI 3).toNatClampNeg) (xs (nI (6 * i) + nI 4).toNatClampNeg) K S I M T Λ hinv
  unfold fL_law_b424 fL_law_b1685
  simp only [if_neg (ix_in h (show 1 < 6 by decide) hL), if_neg (ix_in h (show 2 < 6 by decide) hL), if_neg (ix_in h (show 3 < 6 by decide) hL), if_neg (ix_in h (show 4 < 6 by decide) hL), e1, e2, Option.bind_some]
  rw [if_pos (by trivial), nI_add]
  exact ih _ _ _ _ _ _ e3
theorem st_deal {L i : Nat} (xs : Nat → Int32) (k18 : Nat → Nat → Int32 → e_H → Option Bool) (h : 6 * i + 6 ≤ L) (hL : L ≤ 3072) (ih : ∀ (K : Nat) (S I : Nat → Nat → Int32) (L : Nat → Nat → Int64) (T : Nat → Nat → Option Nat) (Λ : Nat → p_Lw), p_inv K S I T Λ → k18 0 96 (nI (6 * (i + 1))) (p_H K S I L T Λ) = some true) {K : Nat} {S I : Nat → Nat → Int32} {M : Nat → Nat → Int64} {T : Nat → Nat → Option Nat} {Λ : Nat → p_Lw} (hinv : p_inv K S I T Λ) : fL_law_b477 L xs k18 0 96 (nI (6 * i)) (p_H K S I M T Λ) = some true := by
  obtain ⟨r, g1, K2, S2, I2, L2, T2, Λ2, e1, e2, e3⟩ := c_deal (xs (nI (6 * i) + nI 1).toNatClampNeg) K S I M T Λ hinv
  unfold fL_law_b477 fL_law_b1685
  simp only [if_neg (ix_in h (show 1 < 6 by decide) hL), e1, e2, Option.bind_some]
  rw [if_pos (by trivial), nI_add]
  exact ih _ _ _ _ _ _ e3
theorem st_seed {L i : Nat} (xs : Nat → Int32) (k18 : Nat → Nat → Int32 → e_H → Option Bool) (h : 6 * i + 6 ≤ L) (hL : L ≤ 3072) (ih : ∀ (K : Nat) (S I : Nat → Nat → Int32) (L : Nat → Nat → Int64) (T : Nat → Nat → Option Nat) (Λ : Nat → p_Lw), p_inv K S I T Λ → k18 0 96 (nI (6 * (i + 1))) (p_H K S I L T Λ) = some true) {K : Nat} {S I : Nat → Nat → Int32} {M : Nat → Nat → Int64} {T : Nat → Nat → Option Nat} {Λ : Nat → p_Lw} (hinv : p_inv K S I T Λ) : fL_law_b500 L xs k18 0 96 (nI (6 * i)) (p_H K S I M T Λ) = some true := by
  obtain ⟨r, g1, K2, S2, I2, L2, T2, Λ2, e1, e2, e3⟩ := c_seed (xs (nI (6 * i) + nI 1).toNatClampNeg) K S I M T Λ hinv
  unfold fL_law_b500 fL_law_b1685
  simp only [if_neg (ix_in h (show 1 < 6 by decide) hL), e1, e2, Option.bind_some]
  rw [if_pos (by trivial), nI_add]
  exact ih _ _ _ _ _ _ e3
theorem st_value {L i : Nat} (xs : Nat → Int32) (k18 : Nat → Nat → Int32 → e_H → Option Bool) (h : 6 * i + 6 ≤ L) (hL : L ≤ 3072) (ih : ∀ (K : Nat) (S I : Nat → Nat → Int32) (L : Nat → Nat → Int64) (T : Nat → Nat → Option Nat) (Λ : Nat → p_Lw), p_inv K S I T Λ → k18 0 96 (nI (6 * (i + 1))) (p_H K S I L T Λ) = some true) {K : Nat} {S I : Nat → Nat → Int32} {M : Nat → Nat → Int64} {T : Nat → Nat → Option Nat} {Λ : Nat → p_Lw} (hinv : p_inv K S I T Λ) : fL_law_b523 L xs k18 0 96 (nI (6 * i)) (p_H K S I M T Λ) = some true := by
  obtain ⟨r, g1, K2, S2, I2, L2, T2, Λ2, e1, e2, e3⟩ := c_value (xs (nI (6 * i) + nI 1).toNatClampNeg) (xs (nI (6 * i) + nI 2).toNatClampNeg) (xs (nI (6 * i) + nI 3).toNatClampNeg) K S I M T Λ hinv
  unfold fL_law_b523 fL_law_b1685
  simp only [if_neg (ix_in h (show 1 < 6 by decide) hL), if_neg (ix_in h (show 2 < 6 by decide) hL), if_neg (ix_in h (show 3 < 6 by decide) hL), e1, e2, Option.bind_some]
  rw [if_pos ((lg_cmp_eq _ _).mpr rfl), nI_add]
  exact ih _ _ _ _ _ _ e3
theorem st_times {L i : Nat} (xs : Nat → Int32) (k18 : Nat → Nat → Int32 → e_H → Option Bool) (h : 6 * i + 6 ≤ L) (hL : L ≤ 3072) (ih : ∀ (K : Nat) (S I : Nat → Nat → Int32) (L : Nat → Nat → Int64) (T : Nat → Nat → Option Nat) (Λ : Nat → p_Lw), p_inv K S I T Λ → k18 0 96 (nI (6 * (i + 1))) (p_H K S I L T Λ) = some true) {K : Nat} {S I : Nat → Nat → Int32} {M : Nat → Nat → Int64} {T : Nat → Nat → Option Nat} {Λ : Nat → p_Lw} (hinv : p_inv K S I T Λ) : fL_law_b567 L xs k18 0 96 (nI (6 * i)) (p_H K S I M T Λ) = some true := by
  obtain ⟨r, g1, K2, S2, I2, L2, T2, Λ2, e1, e2, e3⟩ := c_times (xs (nI (6 * i) + nI 1).toNatClampNeg) (xs (nI (6 * i) + nI 2).toNatClampNeg) K S I M T Λ hinv
  unfold fL_law_b567 fL_law_b1685
  simp only [if_neg (ix_in h (show 1 < 6 by decide) hL), if_neg (ix_in h (show 2 < 6 by decide) hL), e1, e2, Option.bind_some]
  rw [if_pos (by trivial), nI_add]
  exact ih _ _ _ _ _ _ e3
theorem st_shape {L i : Nat} (xs : Nat → Int32) (k18 : Nat → Nat → Int32 → e_H → Option Bool) (h : 6 * i + 6 ≤ L) (hL : L ≤ 3072) (ih : ∀ (K : Nat) (S I : Nat → Nat → Int32) (L : Nat → Nat → Int64) (T : Nat → Nat → Option Nat) (Λ : Nat → p_Lw), p_inv K S I T Λ → k18 0 96 (nI (6 * (i + 1))) (p_H K S I L T Λ) = some true) {K : Nat} {S I : Nat → Nat → Int32} {M : Nat → Nat → Int64} {T : Nat → Nat → Option Nat} {Λ : Nat → p_Lw} (hinv : p_inv K S I T Λ) : fL_law_b600 L xs k18 0 96 (nI (6 * i)) (p_H K S I M T Λ) = some true := by
  obtain ⟨r, g1, K2, S2, I2, L2, T2, Λ2, e1, e2, e3⟩ := c_shape (xs (nI (6 * i) + nI 1).toNatClampNeg) (xs (nI (6 * i) + nI 2).toNatClampNeg) (xs (nI (6 * i) + nI 3).toNatClampNeg) K S I M T Λ hinv
  unfold fL_law_b600 fL_law_b1685
  simp only [if_neg (ix_in h (show 1 < 6 by decide) hL), if_neg (ix_in h (show 2 < 6 by decide) hL), if_neg (ix_in h (show 3 < 6 by decide) hL), e1, e2, Option.bind_some]
  rw [if_pos ((lg_cmp_eq _ _).mpr rfl), nI_add]
  exact ih _ _ _ _ _ _ e3
theorem st_lowest {L i : Nat} (xs : Nat → Int32) (k18 : Nat → Nat → Int32 → e_H → Option Bool) (h : 6 * i + 6 ≤ L) (hL : L ≤ 3072) (ih : ∀ (K : Nat) (S I : Nat → Nat → Int32) (L : Nat → Nat → Int64) (T : Nat → Nat → Option Nat) (Λ : Nat → p_Lw), p_inv K S I T Λ → k18 0 96 (nI (6 * (i + 1))) (p_H K S I L T Λ) = some true) {K : Nat} {S I : Nat → Nat → Int32} {M : Nat → Nat → Int64} {T : Nat → Nat → Option Nat} {Λ : Nat → p_Lw} (hinv : p_inv K S I T Λ) : fL_law_b644 L xs k18 0 96 (nI (6 * i)) (p_H K S I M T Λ) = some true := by
  obtain ⟨r, g1, K2, S2, I2, L2, T2, Λ2, e1, e2, e3⟩ := c_lowest (xs (nI (6 * i) + nI 1).toNatClampNeg) (xs (nI (6 * i) + nI 2).toNatClampNeg) (xs (nI (6 * i) + nI 3).toNatClampNeg) K S I M T Λ hinv
  unfold fL_law_b644 fL_law_b1685
  simp only [if_neg (ix_in h (show 1 < 6 by decide) hL), if_neg (ix_in h (show 2 < 6 by decide) hL), if_neg (ix_in h (show 3 < 6 by decide) hL), e1, e2, Option.bind_some]
  rw [if_pos ((lg_cmp_eq _ _).mpr rfl), nI_add]
  exact ih _ _ _ _ _ _ e3
theorem st_slopes {L i : Nat} (xs : Nat → Int32) (k18 : Nat → Nat → Int32 → e_H → Option Bool) (h : 6 * i + 6 ≤ L) (hL : L ≤ 3072) (ih : ∀ (K : Nat) (S I : Nat → Nat → Int32) (L : Nat → Nat → Int64) (T : Nat → Nat → Option Nat) (Λ : Nat → p_Lw), p_inv K S I T Λ → k18 0 96 (nI (6 * (i + 1))) (p_H K S I L T Λ) = some true) {K : Nat} {S I : Nat → Nat → Int32} {M : Nat → Nat → Int64} {T : Nat → Nat → Option Nat} {Λ : Nat → p_Lw} (hinv : p_inv K S I T Λ) : fL_law_b688 L xs k18 0 96 (nI (6 * i)) (p_H K S I M T Λ) = some true := by
  obtain ⟨r, g1, K2, S2, I2, L2, T2, Λ2, e1, e2, e3⟩ := c_slopes (xs (nI (6 * i) + nI 1).toNatClampNeg) (xs (nI (6 * i) + nI 2).toNatClampNeg) K S I M T Λ hinv
  unfold fL_law_b688 fL_law_b1685
  simp only [if_neg (ix_in h (show 1 < 6 by decide) hL), if_neg (ix_in h (show 2 < 6 by decide) hL), e1, e2, Option.bind_some]
  rw [if_pos (by trivial), nI_add]
  exact ih _ _ _ _ _ _ e3
theorem st_often {L i : Nat} (xs : Nat → Int32) (k18 : Nat → Nat → Int32 → e_H → Option Bool) (h : 6 * i + 6 ≤ L) (hL : L ≤ 3072) (ih : ∀ (K : Nat) (S I : Nat → Nat → Int32) (L : Nat → Nat → Int64) (T : Nat → Nat → Option Nat) (Λ : Nat → p_Lw), p_inv K S I T Λ → k18 0 96 (nI (6 * (i + 1))) (p_H K S I L T Λ) = some true) {K : Nat} {S I : Nat → Nat → Int32} {M : Nat → Nat → Int64} {T : Nat → Nat → Option Nat} {Λ : Nat → p_Lw} (hinv : p_inv K S I T Λ) : fL_law_b721 L xs k18 0 96 (nI (6 * i)) (p_H K S I M T Λ) = some true := by
  obtain ⟨r, g1, K2, S2, I2, L2, T2, Λ2, e1, e2, e3⟩ := c_often (xs (nI (6 * i) + nI 1).toNatClampNeg) (xs (nI (6 * i) + nI 2).toNatClampNeg) (xs (nI (6 * i) + nI 3).toNatClampNeg) K S I M T Λ hinv
  unfold fL_law_b721 fL_law_b1685
  simp only [if_neg (ix_in h (show 1 < 6 by decide) hL), if_neg (ix_in h (show 2 < 6 by decide) hL), if_neg (ix_in h (show 3 < 6 by decide) hL), e1, e2, Option.bind_some]
  rw [if_pos (by trivial), nI_add]
  exact ih _ _ _ _ _ _ e3
theorem st_blown {L i : Nat} (xs : Nat → Int32) (k18 : Nat → Nat → Int32 → e_H → Option Bool) (h : 6 * i + 6 ≤ L) (hL : L ≤ 3072) (ih : ∀ (K : Nat) (S I : Nat → Nat → Int32) (L : Nat → Nat → Int64) (T : Nat → Nat → Option Nat) (Λ : Nat → p_Lw), p_inv K S I T Λ → k18 0 96 (nI (6 * (i + 1))) (p_H K S I L T Λ) = some true) {K : Nat} {S I : Nat → Nat → Int32} {M : Nat → Nat → Int64} {T : Nat → Nat → Option Nat} {Λ : Nat → p_Lw} (hinv : p_inv K S I T Λ) : fL_law_b764 L xs k18 0 96 (nI (6 * i)) (p_H K S I M T Λ) = some true := by
  obtain ⟨r, g1, K2, S2, I2, L2, T2, Λ2, e1, e2, e3⟩ := c_blown (xs (nI (6 * i) + nI 1).toNatClampNeg) (xs (nI (6 * i) + nI 2).toNatClampNeg) (xs (nI (6 * i) + nI 3).toNatClampNeg) (xs (nI (6 * i) + nI 4).toNatClampNeg) K S I M T Λ hinv
  unfold fL_law_b764 fL_law_b1685
  simp only [if_neg (ix_in h (show 1 < 6 by decide) hL), if_neg (ix_in h (show 2 < 6 by decide) hL), if_neg (ix_in h (show 3 < 6 by decide) hL), if_neg (ix_in h (show 4 < 6 by decide) hL), e1, e2, Option.bind_some]
  rw [if_pos (by trivial), nI_add]
  exact ih _ _ _ _ _ _ e3
theorem st_tree {L i : Nat} (xs : Nat → Int32) (k18 : Nat → Nat → Int32 → e_H → Option Bool) (h : 6 * i + 6 ≤ L) (hL : L ≤ 3072) (ih : ∀ (K : Nat) (S I : Nat → Nat → Int32) (L : Nat → Nat → Int64) (T : Nat → Nat → Option Nat) (Λ : Nat → p_Lw), p_inv K S I T Λ → k18 0 96 (nI (6 * (i + 1))) (p_H K S I L T Λ) = some true) {K : Nat} {S I : Nat → Nat → Int32} {M : Nat → Nat → Int64} {T : Nat → Nat → Option Nat} {Λ : Nat → p_Lw} (hinv : p_inv K S I T Λ) : fL_law_b817 L xs k18 0 96 (nI (6 * i)) (p_H K S I M T Λ) = some true := by
  obtain ⟨r, g1, K2, S2, I2, L2, T2, Λ2, e1, e2, e3⟩ := c_tree (xs (nI (6 * i) + nI 1).toNatClampNeg) (xs (nI (6 * i) + nI 2).toNatClampNeg) (xs (nI (6 * i) + nI 3).toNatClampNeg) (xs (nI (6 * i) + nI 4).toNatClampNeg) K S I M T Λ hinv
  unfold fL_law_b817 fL_law_b1685
  simp only [if_neg (ix_in h (show 1 < 6 by decide) hL), if_neg (ix_in h (show 2 < 6 by decide) hL), if_neg (ix_in h (show 3 < 6 by decide) hL), if_neg (ix_in h (show 4 < 6 by decide) hL), e1, e2, Option.bind_some]
  rw [if_pos (by trivial), nI_add]
  exact ih _ _ _ _ _ _ e3
theorem st_corner {L i : Nat} (xs : Nat → Int32) (k18 : Nat → Nat → Int32 → e_H → Option Bool) (h : 6 * i + 6 ≤ L) (hL : L ≤ 3072) (ih : ∀ (K : Nat) (S I : Nat → Nat → Int32) (L : Nat → Nat → Int64) (T : Nat → Nat → Option Nat) (Λ : Nat → p_Lw), p_inv K S I T Λ → k18 0 96 (nI (6 * (i + 1))) (p_H K S I L T Λ) = some true) {K : Nat} {S I : Nat → Nat → Int32} {M : Nat → Nat → Int64} {T : Nat → Nat → Option Nat} {Λ : Nat → p_Lw} (hinv : p_inv K S I T Λ) : fL_law_b870 L xs k18 0 96 (nI (6 * i)) (p_H K S I M T Λ) = some true := by
  obtain ⟨r, g1, K2, S2, I2, L2, T2, Λ2, e1, e2, e3⟩ := c_corner (xs (nI (6 * i) + nI 1).toNatClampNeg) (xs (nI (6 * i) + nI 2).toNatClampNeg) (xs (nI (6 * i) + nI 3).toNatClampNeg) K S I M T Λ hinv
  unfold fL_law_b870 fL_law_b1685
  simp only [if_neg (ix_in h (show 1 < 6 by decide) hL), if_neg (ix_in h (show 2 < 6 by decide) hL), if_neg (ix_in h (show 3 < 6 by decide) hL), e1, e2, Option.bind_some]
  rw [if_pos (by trivial), nI_add]
  exact ih _ _ _ _ _ _ e3
theorem st_power {L i : Nat} (xs : Nat → Int32) (k18 : Nat → Nat → Int32 → e_H → Option Bool) (h : 6 * i + 6 ≤ L) (hL : L ≤ 3072) (ih : ∀ (K : Nat) (S I : Nat → Nat → Int32) (L : Nat → Nat → Int64) (T : Nat → Nat → Option Nat) (Λ : Nat → p_Lw), p_inv K S I T Λ → k18 0 96 (nI (6 * (i + 1))) (p_H K S I L T Λ) = some true) {K : Nat} {S I : Nat → Nat → Int32} {M : Nat → Nat → Int64} {T : Nat → Nat → Option Nat} {Λ : Nat → p_Lw} (hinv : p_inv K S I T Λ) : fL_law_b913 L xs k18 0 96 (nI (6 * i)) (p_H K S I M T Λ) = some true := by
  obtain ⟨r, g1, K2, S2, I2, L2, T2, Λ2, e1, e2, e3⟩ := c_power (xs (nI (6 * i) + nI 1).toNatClampNeg) (xs (nI (6 * i) + nI 2).toNatClampNeg) (xs (nI (6 * i) + nI 3).toNatClampNeg) K S I M T Λ hinv
  unfold fL_law_b913 fL_law_b1685
  simp only [if_neg (ix_in h (show 1 < 6 by decide) hL), if_neg (ix_in h (show 2 < 6 by decide) hL), if_neg (ix_in h (show 3 < 6 by decide) hL), e1, e2, Option.bind_some]
  rw [if_pos (by trivial), nI_add]
  exact ih _ _ _ _ _ _ e3
theorem st_line {L i : Nat} (xs : Nat → Int32) (k18 : Nat → Nat → Int32 → e_H → Option Bool) (h : 6 * i + 6 ≤ L) (hL : L ≤ 3072) (ih : ∀ (K : Nat) (S I : Nat → Nat → Int32) (L : Nat → Nat → Int64) (T : Nat → Nat → Option Nat) (Λ : Nat → p_Lw), p_inv K S I T Λ → k18 0 96 (nI (6 * (i + 1))) (p_H K S I L T Λ) = some true) {K : Nat} {S I : Nat → Nat → Int32} {M : Nat → Nat → Int64} {T : Nat → Nat → Option Nat} {Λ : Nat → p_Lw} (hinv : p_inv K S I T Λ) : fL_law_b956 L xs k18 0 96 (nI (6 * i)) (p_H K S I M T Λ) = some true := by
  obtain ⟨r, g1, K2, S2, I2, L2, T2, Λ2, e1, e2, e3⟩ := c_line (xs (nI (6 * i) + nI 1).toNatClampNeg) (xs (nI (6 * i) + nI 2).toNatClampNeg) (xs (nI (6 * i) + nI 3).toNatClampNeg) K S I M T Λ hinv
  unfold fL_law_b956 fL_law_b1685
  simp only [if_neg (ix_in h (show 1 < 6 by decide) hL), if_neg (ix_in h (show 2 < 6 by decide) hL), if_neg (ix_in h (show 3 < 6 by decide) hL), e1, e2, Option.bind_some]
  rw [if_pos (by trivial), nI_add]
  exact ih _ _ _ _ _ _ e3
theorem st_all {L i : Nat} (xs : Nat → Int32) (k18 : Nat → Nat → Int32 → e_H → Option Bool) (h : 6 * i + 6 ≤ L) (hL : L ≤ 3072) (ih : ∀ (K : Nat) (S I : Nat → Nat → Int32) (L : Nat → Nat → Int64) (T : Nat → Nat → Option Nat) (Λ : Nat → p_Lw), p_inv K S I T Λ → k18 0 96 (nI (6 * (i + 1))) (p_H K S I L T Λ) = some true) {K : Nat} {S I : Nat → Nat → Int32} {M : Nat → Nat → Int64} {T : Nat → Nat → Option Nat} {Λ : Nat → p_Lw} (hinv : p_inv K S I T Λ) : fL_law_b999 L xs k18 0 96 (nI (6 * i)) (p_H K S I M T Λ) = some true := by
  obtain ⟨r, g1, K2, S2, I2, L2, T2, Λ2, e1, e2, e3⟩ := c_all (xs (nI (6 * i) + nI 1).toNatClampNeg) (xs (nI (6 * i) + nI 2).toNatClampNeg) K S I M T Λ hinv
  unfold fL_law_b999 fL_law_b1685
  simp only [if_neg (ix_in h (show 1 < 6 by decide) hL), if_neg (ix_in h (show 2 < 6 by decide) hL), e1, e2, Option.bind_some]
  rw [if_pos (by trivial), nI_add]
  exact ih _ _ _ _ _ _ e3
theorem st_on {L i : Nat} (xs : Nat → Int32) (k18 : Nat → Nat → Int32 → e_H → Option Bool) (h : 6 * i + 6 ≤ L) (hL : L ≤ 3072) (ih : ∀ (K : Nat) (S I : Nat → Nat → Int32) (L : Nat → Nat → Int64) (T : Nat → Nat → Option Nat) (Λ : Nat → p_Lw), p_inv K S I T Λ → k18 0 96 (nI (6 * (i + 1))) (p_H K S I L T Λ) = some true) {K : Nat} {S I : Nat → Nat → Int32} {M : Nat → Nat → Int64} {T : Nat → Nat → Option Nat} {Λ : Nat → p_Lw} (hinv : p_inv K S I T Λ) : fL_law_b1032 L xs k18 0 96 (nI (6 * i)) (p_H K S I M T Λ) = some true := by
  obtain ⟨r, g1, K2, S2, I2, L2, T2, Λ2, e1, e2, e3⟩ := c_on (xs (nI (6 * i) + nI 1).toNatClampNeg) (xs (nI (6 * i) + nI 2).toNatClampNeg) K S I M T Λ hinv
  unfold fL_law_b1032 fL_law_b1685
  simp only [if_neg (ix_in h (show 1 < 6 by decide) hL), if_neg (ix_in h (show 2 < 6 by decide) hL), e1, e2, Option.bind_some]
  rw [if_pos (by trivial), nI_add]
  exact ih _ _ _ _ _ _ e3
theorem st_genus {L i : Nat} (xs : Nat → Int32) (k18 : Nat → Nat → Int32 → e_H → Option Bool) (h : 6 * i + 6 ≤ L) (hL : L ≤ 3072) (ih : ∀ (K : Nat) (S I : Nat → Nat → Int32) (L : Nat → Nat → Int64) (T : Nat → Nat → Option Nat) (Λ : Nat → p_Lw), p_inv K S I T Λ → k18 0 96 (nI (6 * (i + 1))) (p_H K S I L T Λ) = some true) {K : Nat} {S I : Nat → Nat → Int32} {M : Nat → Nat → Int64} {T : Nat → Nat → Option Nat} {Λ : Nat → p_Lw} (hinv : p_inv K S I T Λ) : fL_law_b1065 L xs k18 0 96 (nI (6 * i)) (p_H K S I M T Λ) = some true := by
  obtain ⟨r, g1, K2, S2, I2, L2, T2, Λ2, e1, e2, e3⟩ := c_genus (xs (nI (6 * i) + nI 1).toNatClampNeg) K S I M T Λ hinv
  unfold fL_law_b1065 fL_law_b1685
  simp only [if_neg (ix_in h (show 1 < 6 by decide) hL), e1, e2, Option.bind_some]
  rw [if_pos (by trivial), nI_add]
  exact ih _ _ _ _ _ _ e3
theorem st_both {L i : Nat} (xs : Nat → Int32) (k18 : Nat → Nat → Int32 → e_H → Option Bool) (h : 6 * i + 6 ≤ L) (hL : L ≤ 3072) (ih : ∀ (K : Nat) (S I : Nat → Nat → Int32) (L : Nat → Nat → Int64) (T : Nat → Nat → Option Nat) (Λ : Nat → p_Lw), p_inv K S I T Λ → k18 0 96 (nI (6 * (i + 1))) (p_H K S I L T Λ) = some true) {K : Nat} {S I : Nat → Nat → Int32} {M : Nat → Nat → Int64} {T : Nat → Nat → Option Nat} {Λ : Nat → p_Lw} (hinv : p_inv K S I T Λ) : fL_law_b1088 L xs k18 0 96 (nI (6 * i)) (p_H K S I M T Λ) = some true := by
  obtain ⟨r, g1, K2, S2, I2, L2, T2, Λ2, e1, e2, e3⟩ := c_both (xs (nI (6 * i) + nI 1).toNatClampNeg) (xs (nI (6 * i) + nI 2).toNatClampNeg) K S I M T Λ hinv
  unfold fL_law_b1088 fL_law_b1685
  simp only [if_neg (ix_in h (show 1 < 6 by decide) hL), if_neg (ix_in h (show 2 < 6 by decide) hL), e1, e2, Option.bind_some]
  rw [if_pos (by trivial), nI_add]
  exact ih _ _ _ _ _ _ e3
theorem st_feed {L i : Nat} (xs : Nat → Int32) (k18 : Nat → Nat → Int32 → e_H → Option Bool) (h : 6 * i + 6 ≤ L) (hL : L ≤ 3072) (ih : ∀ (K : Nat) (S I : Nat → Nat → Int32) (L : Nat → Nat → Int64) (T : Nat → Nat → Option Nat) (Λ : Nat → p_Lw), p_inv K S I T Λ → k18 0 96 (nI (6 * (i + 1))) (p_H K S I L T Λ) = some true) {K : Nat} {S I : Nat → Nat → Int32} {M : Nat → Nat → Int64} {T : Nat → Nat → Option Nat} {Λ : Nat → p_Lw} (hinv : p_inv K S I T Λ) : fL_law_b1121 L xs k18 0 96 (nI (6 * i)) (p_H K S I M T Λ) = some true := by
  obtain ⟨r, g1, K2, S2, I2, L2, T2, Λ2, e1, e2, e3⟩ := c_feed (xs (nI (6 * i) + nI 1).toNatClampNeg) (xs (nI (6 * i) + nI 2).toNatClampNeg) (xs (nI (6 * i) + nI 3).toNatClampNeg) K S I M T Λ hinv
  unfold fL_law_b1121 fL_law_b1685
  simp only [if_neg (ix_in h (show 1 < 6 by decide) hL), if_neg (ix_in h (show 2 < 6 by decide) hL), if_neg (ix_in h (show 3 < 6 by decide) hL), e1, e2, Option.bind_some]
  rw [if_pos (by trivial), nI_add]
  exact ih _ _ _ _ _ _ e3
theorem st_trim {L i : Nat} (xs : Nat → Int32) (k18 : Nat → Nat → Int32 → e_H → Option Bool) (h : 6 * i + 6 ≤ L) (hL : L ≤ 3072) (ih : ∀ (K : Nat) (S I : Nat → Nat → Int32) (L : Nat → Nat → Int64) (T : Nat → Nat → Option Nat) (Λ : Nat → p_Lw), p_inv K S I T Λ → k18 0 96 (nI (6 * (i + 1))) (p_H K S I L T Λ) = some true) {K : Nat} {S I : Nat → Nat → Int32} {M : Nat → Nat → Int64} {T : Nat → Nat → Option Nat} {Λ : Nat → p_Lw} (hinv : p_inv K S I T Λ) : fL_law_b1164 L xs k18 0 96 (nI (6 * i)) (p_H K S I M T Λ) = some true := by
  obtain ⟨r, g1, K2, S2, I2, L2, T2, Λ2, e1, e2, e3⟩ := c_trim (xs (nI (6 * i) + nI 1).toNatClampNeg) K S I M T Λ hinv
  unfold fL_law_b1164 fL_law_b1685
  simp only [if_neg (ix_in h (show 1 < 6 by decide) hL), e1, e2, Option.bind_some]
  rw [if_pos (by trivial), nI_add]
  exact ih _ _ _ _ _ _ e3
theorem st_text {L i : Nat} (xs : Nat → Int32) (k18 : Nat → Nat → Int32 → e_H → Option Bool) (h : 6 * i + 6 ≤ L) (hL : L ≤ 3072) (ih : ∀ (K : Nat) (S I : Nat → Nat → Int32) (L : Nat → Nat → Int64) (T : Nat → Nat → Option Nat) (Λ : Nat → p_Lw), p_inv K S I T Λ → k18 0 96 (nI (6 * (i + 1))) (p_H K S I L T Λ) = some true) {K : Nat} {S I : Nat → Nat → Int32} {M : Nat → Nat → Int64} {T : Nat → Nat → Option Nat} {Λ : Nat → p_Lw} (hinv : p_inv K S I T Λ) : fL_law_b1187 L xs k18 0 96 (nI (6 * i)) (p_H K S I M T Λ) = some true := by
  obtain ⟨r, g1, K2, S2, I2, L2, T2, Λ2, e1, e2, e3⟩ := c_text  K S I M T Λ hinv
  unfold fL_law_b1187 fL_law_b1685
  simp only [e1, e2, Option.bind_some]
  rw [if_pos (by trivial), nI_add]
  exact ih _ _ _ _ _ _ e3
theorem st_textTold {L i : Nat} (xs : Nat → Int32) (k18 : Nat → Nat → Int32 → e_H → Option Bool) (h : 6 * i + 6 ≤ L) (hL : L ≤ 3072) (ih : ∀ (K : Nat) (S I : Nat → Nat → Int32) (L : Nat → Nat → Int64) (T : Nat → Nat → Option Nat) (Λ : Nat → p_Lw), p_inv K S I T Λ → k18 0 96 (nI (6 * (i + 1))) (p_H K S I L T Λ) = some true) {K : Nat} {S I : Nat → Nat → Int32} {M : Nat → Nat → Int64} {T : Nat → Nat → Option Nat} {Λ : Nat → p_Lw} (hinv : p_inv K S I T Λ) : fL_law_b1200 L xs k18 0 96 (nI (6 * i)) (p_H K S I M T Λ) = some true := by
  obtain ⟨r, e1, e2⟩ := c_textTold (xs (nI (6 * i) + nI 1).toNatClampNeg) (xs (nI (6 * i) + nI 2).toNatClampNeg) K S I M T Λ hinv
  unfold fL_law_b1200 fL_law_b1685
  simp only [if_neg (ix_in h (show 1 < 6 by decide) hL), if_neg (ix_in h (show 2 < 6 by decide) hL), e1, e2, Option.bind_some]
  rw [if_pos (by trivial), nI_add]
  exact ih _ _ _ _ _ _ hinv
theorem st_why {L i : Nat} (xs : Nat → Int32) (k18 : Nat → Nat → Int32 → e_H → Option Bool) (h : 6 * i + 6 ≤ L) (hL : L ≤ 3072) (ih : ∀ (K : Nat) (S I : Nat → Nat → Int32) (L : Nat → Nat → Int64) (T : Nat → Nat → Option Nat) (Λ : Nat → p_Lw), p_inv K S I T Λ → k18 0 96 (nI (6 * (i + 1))) (p_H K S I L T Λ) = some true) {K : Nat} {S I : Nat → Nat → Int32} {M : Nat → Nat → Int64} {T : Nat → Nat → Option Nat} {Λ : Nat → p_Lw} (hinv : p_inv K S I T Λ) : fL_law_b1233 L xs k18 0 96 (nI (6 * i)) (p_H K S I M T Λ) = some true := by
  obtain ⟨r, e1, e2⟩ := c_why (xs (nI (6 * i) + nI 1).toNatClampNeg) K S I M T Λ hinv
  unfold fL_law_b1233 fL_law_b1685
  simp only [if_neg (ix_in h (show 1 < 6 by decide) hL), e1, e2, Option.bind_some]
  rw [if_pos (by trivial), nI_add]
  exact ih _ _ _ _ _ _ hinv
theorem st_sheet {L i : Nat} (xs : Nat → Int32) (k18 : Nat → Nat → Int32 → e_H → Option Bool) (h : 6 * i + 6 ≤ L) (hL : L ≤ 3072) (ih : ∀ (K : Nat) (S I : Nat → Nat → Int32) (L : Nat → Nat → Int64) (T : Nat → Nat → Option Nat) (Λ : Nat → p_Lw), p_inv K S I T Λ → k18 0 96 (nI (6 * (i + 1))) (p_H K S I L T Λ) = some true) {K : Nat} {S I : Nat → Nat → Int32} {M : Nat → Nat → Int64} {T : Nat → Nat → Option Nat} {Λ : Nat → p_Lw} (hinv : p_inv K S I T Λ) : fL_law_b1256 L xs k18 0 96 (nI (6 * i)) (p_H K S I M T Λ) = some true := by
  obtain ⟨r, g1, K2, S2, I2, L2, T2, Λ2, e1, e2, e3⟩ := c_sheet (xs (nI (6 * i) + nI 1).toNatClampNeg) (xs (nI (6 * i) + nI 2).toNatClampNeg) (xs (nI (6 * i) + nI 3).toNatClampNeg) K S I M T Λ hinv
  unfold fL_law_b1256 fL_law_b1685
  simp only [if_neg (ix_in h (show 1 < 6 by decide) hL), if_neg (ix_in h (show 2 < 6 by decide) hL), if_neg (ix_in h (show 3 < 6 by decide) hL), e1, e2, Option.bind_some]
  rw [if_pos (by trivial), nI_add]
  exact ih _ _ _ _ _ _ e3
theorem st_mark {L i : Nat} (xs : Nat → Int32) (k18 : Nat → Nat → Int32 → e_H → Option Bool) (h : 6 * i + 6 ≤ L) (hL : L ≤ 3072) (ih : ∀ (K : Nat) (S I : Nat → Nat → Int32) (L : Nat → Nat → Int64) (T : Nat → Nat → Option Nat) (Λ : Nat → p_Lw), p_inv K S I T Λ → k18 0 96 (nI (6 * (i + 1))) (p_H K S I L T Λ) = some true) {K : Nat} {S I : Nat → Nat → Int32} {M : Nat → Nat → Int64} {T : Nat → Nat → Option Nat} {Λ : Nat → p_Lw} (hinv : p_inv K S I T Λ) : fL_law_b1299 L xs k18 0 96 (nI (6 * i)) (p_H K S I M T Λ) = some true := by
  obtain ⟨r, g1, K2, S2, I2, L2, T2, Λ2, e1, e2, e3⟩ := c_mark (xs (nI (6 * i) + nI 1).toNatClampNeg) (xs (nI (6 * i) + nI 2).toNatClampNeg) (xs (nI (6 * i) + nI 3).toNatClampNeg) K S I M T Λ hinv
  unfold fL_law_b1299 fL_law_b1685
  simp only [if_neg (ix_in h (show 1 < 6 by decide) hL), if_neg (ix_in h (show 2 < 6 by decide) hL), if_neg (ix_in h (show 3 < 6 by decide) hL), e1, e2, Option.bind_some]
  rw [if_pos (by trivial), nI_add]
  exact ih _ _ _ _ _ _ e3
theorem st_pour {L i : Nat} (xs : Nat → Int32) (k18 : Nat → Nat → Int32 → e_H → Option Bool) (h : 6 * i + 6 ≤ L) (hL : L ≤ 3072) (ih : ∀ (K : Nat) (S I : Nat → Nat → Int32) (L : Nat → Nat → Int64) (T : Nat → Nat → Option Nat) (Λ : Nat → p_Lw), p_inv K S I T Λ → k18 0 96 (nI (6 * (i + 1))) (p_H K S I L T Λ) = some true) {K : Nat} {S I : Nat → Nat → Int32} {M : Nat → Nat → Int64} {T : Nat → Nat → Option Nat} {Λ : Nat → p_Lw} (hinv : p_inv K S I T Λ) : fL_law_b1342 L xs k18 0 96 (nI (6 * i)) (p_H K S I M T Λ) = some true := by
  obtain ⟨r, g1, K2, S2, I2, L2, T2, Λ2, e1, e2, e3⟩ := c_pour (xs (nI (6 * i) + nI 1).toNatClampNeg) (xs (nI (6 * i) + nI 2).toNatClampNeg) K S I M T Λ hinv
  unfold fL_law_b1342 fL_law_b1685
  simp only [if_neg (ix_in h (show 1 < 6 by decide) hL), if_neg (ix_in h (show 2 < 6 by decide) hL), e1, e2, Option.bind_some]
  rw [if_pos (by trivial), nI_add]
  exact ih _ _ _ _ _ _ e3
theorem st_copy {L i : Nat} (xs : Nat → Int32) (k18 : Nat → Nat → Int32 → e_H → Option Bool) (h : 6 * i + 6 ≤ L) (hL : L ≤ 3072) (ih : ∀ (K : Nat) (S I : Nat → Nat → Int32) (L : Nat → Nat → Int64) (T : Nat → Nat → Option Nat) (Λ : Nat → p_Lw), p_inv K S I T Λ → k18 0 96 (nI (6 * (i + 1))) (p_H K S I L T Λ) = some true) {K : Nat} {S I : Nat → Nat → Int32} {M : Nat → Nat → Int64} {T : Nat → Nat → Option Nat} {Λ : Nat → p_Lw} (hinv : p_inv K S I T Λ) : fL_law_b1375 L xs k18 0 96 (nI (6 * i)) (p_H K S I M T Λ) = some true := by
  obtain ⟨r, g1, K2, S2, I2, L2, T2, Λ2, e1, e2, e3⟩ := c_copy (xs (nI (6 * i) + nI 1).toNatClampNeg) (xs (nI (6 * i) + nI 2).toNatClampNeg) (xs (nI (6 * i) + nI 3).toNatClampNeg) (xs (nI (6 * i) + nI 4).toNatClampNeg) (xs (nI (6 * i) + nI 5).toNatClampNeg) K S I M T Λ hinv
  unfold fL_law_b1375 fL_law_b1685
  simp only [if_neg (ix_in h (show 1 < 6 by decide) hL), if_neg (ix_in h (show 2 < 6 by decide) hL), if_neg (ix_in h (show 3 < 6 by decide) hL), if_neg (ix_in h (show 4 < 6 by decide) hL), if_neg (ix_in h (show 5 < 6 by decide) hL), e1, e2, Option.bind_some]
  rw [if_pos (by trivial), nI_add]
  exact ih _ _ _ _ _ _ e3
theorem st_lay {L i : Nat} (xs : Nat → Int32) (k18 : Nat → Nat → Int32 → e_H → Option Bool) (h : 6 * i + 6 ≤ L) (hL : L ≤ 3072) (ih : ∀ (K : Nat) (S I : Nat → Nat → Int32) (L : Nat → Nat → Int64) (T : Nat → Nat → Option Nat) (Λ : Nat → p_Lw), p_inv K S I T Λ → k18 0 96 (nI (6 * (i + 1))) (p_H K S I L T Λ) = some true) {K : Nat} {S I : Nat → Nat → Int32} {M : Nat → Nat → Int64} {T : Nat → Nat → Option Nat} {Λ : Nat → p_Lw} (hinv : p_inv K S I T Λ) : fL_law_b1438 L xs k18 0 96 (nI (6 * i)) (p_H K S I M T Λ) = some true := by
  obtain ⟨r, g1, K2, S2, I2, L2, T2, Λ2, e1, e2, e3⟩ := c_lay (xs (nI (6 * i) + nI 1).toNatClampNeg) (xs (nI (6 * i) + nI 2).toNatClampNeg) (xs (nI (6 * i) + nI 3).toNatClampNeg) K S I M T Λ hinv
  unfold fL_law_b1438 fL_law_b1685
  simp only [if_neg (ix_in h (show 1 < 6 by decide) hL), if_neg (ix_in h (show 2 < 6 by decide) hL), if_neg (ix_in h (show 3 < 6 by decide) hL), e1, e2, Option.bind_some]
  rw [if_pos (by trivial), nI_add]
  exact ih _ _ _ _ _ _ e3
theorem st_ask {L i : Nat} (xs : Nat → Int32) (k18 : Nat → Nat → Int32 → e_H → Option Bool) (h : 6 * i + 6 ≤ L) (hL : L ≤ 3072) (ih : ∀ (K : Nat) (S I : Nat → Nat → Int32) (L : Nat → Nat → Int64) (T : Nat → Nat → Option Nat) (Λ : Nat → p_Lw), p_inv K S I T Λ → k18 0 96 (nI (6 * (i + 1))) (p_H K S I L T Λ) = some true) {K : Nat} {S I : Nat → Nat → Int32} {M : Nat → Nat → Int64} {T : Nat → Nat → Option Nat} {Λ : Nat → p_Lw} (hinv : p_inv K S I T Λ) : fL_law_b1481 L xs k18 0 96 (nI (6 * i)) (p_H K S I M T Λ) = some true := by
  obtain ⟨r, e1, e2⟩ := c_ask (xs (nI (6 * i) + nI 1).toNatClampNeg) (xs (nI (6 * i) + nI 2).toNatClampNeg) K S I M T Λ hinv
  unfold fL_law_b1481 fL_law_b1685
  simp only [if_neg (ix_in h (show 1 < 6 by decide) hL), if_neg (ix_in h (show 2 < 6 by decide) hL), e1, e2, Option.bind_some]
  rw [if_pos (by trivial), nI_add]
  exact ih _ _ _ _ _ _ hinv
theorem st_item {L i : Nat} (xs : Nat → Int32) (k18 : Nat → Nat → Int32 → e_H → Option Bool) (h : 6 * i + 6 ≤ L) (hL : L ≤ 3072) (ih : ∀ (K : Nat) (S I : Nat → Nat → Int32) (L : Nat → Nat → Int64) (T : Nat → Nat → Option Nat) (Λ : Nat → p_Lw), p_inv K S I T Λ → k18 0 96 (nI (6 * (i + 1))) (p_H K S I L T Λ) = some true) {K : Nat} {S I : Nat → Nat → Int32} {M : Nat → Nat → Int64} {T : Nat → Nat → Option Nat} {Λ : Nat → p_Lw} (hinv : p_inv K S I T Λ) : fL_law_b1514 L xs k18 0 96 (nI (6 * i)) (p_H K S I M T Λ) = some true := by
  obtain ⟨r, e1, e2⟩ := c_item (xs (nI (6 * i) + nI 1).toNatClampNeg) (xs (nI (6 * i) + nI 2).toNatClampNeg) K S I M T Λ hinv
  unfold fL_law_b1514 fL_law_b1685
  simp only [if_neg (ix_in h (show 1 < 6 by decide) hL), if_neg (ix_in h (show 2 < 6 by decide) hL), e1, e2, Option.bind_some]
  rw [if_pos (by trivial), nI_add]
  exact ih _ _ _ _ _ _ hinv
theorem st_rest {L i : Nat} (xs : Nat → Int32) (k18 : Nat → Nat → Int32 → e_H → Option Bool) (h : 6 * i + 6 ≤ L) (hL : L ≤ 3072) (ih : ∀ (K : Nat) (S I : Nat → Nat → Int32) (L : Nat → Nat → Int64) (T : Nat → Nat → Option Nat) (Λ : Nat → p_Lw), p_inv K S I T Λ → k18 0 96 (nI (6 * (i + 1))) (p_H K S I L T Λ) = some true) {K : Nat} {S I : Nat → Nat → Int32} {M : Nat → Nat → Int64} {T : Nat → Nat → Option Nat} {Λ : Nat → p_Lw} (hinv : p_inv K S I T Λ) : fL_law_b1547 L xs k18 0 96 (nI (6 * i)) (p_H K S I M T Λ) = some true := by
  obtain ⟨r, e1, e2⟩ := c_rest (xs (nI (6 * i) + nI 1).toNatClampNeg) (xs (nI (6 * i) + nI 2).toNatClampNeg) K S I M T Λ hinv
  unfold fL_law_b1547 fL_law_b1685
  simp only [if_neg (ix_in h (show 1 < 6 by decide) hL), if_neg (ix_in h (show 2 < 6 by decide) hL), e1, e2, Option.bind_some]
  rw [if_pos (by trivial), nI_add]
  exact ih _ _ _ _ _ _ hinv
theorem st_tell {L i : Nat} (xs : Nat → Int32) (k18 : Nat → Nat → Int32 → e_H → Option Bool) (h : 6 * i + 6 ≤ L) (hL : L ≤ 3072) (ih : ∀ (K : Nat) (S I : Nat → Nat → Int32) (L : Nat → Nat → Int64) (T : Nat → Nat → Option Nat) (Λ : Nat → p_Lw), p_inv K S I T Λ → k18 0 96 (nI (6 * (i + 1))) (p_H K S I L T Λ) = some true) {K : Nat} {S I : Nat → Nat → Int32} {M : Nat → Nat → Int64} {T : Nat → Nat → Option Nat} {Λ : Nat → p_Lw} (hinv : p_inv K S I T Λ) : fL_law_b1580 L xs k18 0 96 (nI (6 * i)) (p_H K S I M T Λ) = some true := by
  obtain ⟨r, g1, K2, S2, I2, L2, T2, Λ2, e1, e2, e3⟩ := c_tell (xs (nI (6 * i) + nI 1).toNatClampNeg) K S I M T Λ hinv
  unfold fL_law_b1580 fL_law_b1685
  simp only [if_neg (ix_in h (show 1 < 6 by decide) hL), e1, e2, Option.bind_some]
  rw [if_pos (by trivial), nI_add]
  exact ih _ _ _ _ _ _ e3
theorem st_check {L i : Nat} (xs : Nat → Int32) (k18 : Nat → Nat → Int32 → e_H → Option Bool) (h : 6 * i + 6 ≤ L) (hL : L ≤ 3072) (ih : ∀ (K : Nat) (S I : Nat → Nat → Int32) (L : Nat → Nat → Int64) (T : Nat → Nat → Option Nat) (Λ : Nat → p_Lw), p_inv K S I T Λ → k18 0 96 (nI (6 * (i + 1))) (p_H K S I L T Λ) = some true) {K : Nat} {S I : Nat → Nat → Int32} {M : Nat → Nat → Int64} {T : Nat → Nat → Option Nat} {Λ : Nat → p_Lw} (hinv : p_inv K S I T Λ) : fL_law_b1603 L xs k18 0 96 (nI (6 * i)) (p_H K S I M T Λ) = some true := by
  obtain ⟨r, g1, K2, S2, I2, L2, T2, Λ2, e1, e2, e3⟩ := c_check (xs (nI (6 * i) + nI 1).toNatClampNeg) (xs (nI (6 * i) + nI 2).toNatClampNeg) K S I M T Λ hinv
  unfold fL_law_b1603 fL_law_b1685
  simp only [if_neg (ix_in h (show 1 < 6 by decide) hL), if_neg (ix_in h (show 2 < 6 by decide) hL), e1, e2, Option.bind_some]
  rw [if_pos (by trivial), nI_add]
  exact ih _ _ _ _ _ _ e3
theorem st_keep {L i : Nat} (xs : Nat → Int32) (k18 : Nat → Nat → Int32 → e_H → Option Bool) (h : 6 * i + 6 ≤ L) (hL : L ≤ 3072) (ih : ∀ (K : Nat) (S I : Nat → Nat → Int32) (L : Nat → Nat → Int64) (T : Nat → Nat → Option Nat) (Λ : Nat → p_Lw), p_inv K S I T Λ → k18 0 96 (nI (6 * (i + 1))) (p_H K S I L T Λ) = some true) {K : Nat} {S I : Nat → Nat → Int32} {M : Nat → Nat → Int64} {T : Nat → Nat → Option Nat} {Λ : Nat → p_Lw} (hinv : p_inv K S I T Λ) : fL_law_b1636 L xs k18 0 96 (nI (6 * i)) (p_H K S I M T Λ) = some true := by
  obtain ⟨r, g1, K2, S2, I2, L2, T2, Λ2, e1, e2, e3⟩ := c_keep  K S I M T Λ hinv
  unfold fL_law_b1636 fL_law_b1685
  simp only [e1, e2, Option.bind_some]
  rw [if_pos (by trivial), nI_add]
  exact ih _ _ _ _ _ _ e3
theorem st_back {L i : Nat} (xs : Nat → Int32) (k18 : Nat → Nat → Int32 → e_H → Option Bool) (h : 6 * i + 6 ≤ L) (hL : L ≤ 3072) (ih : ∀ (K : Nat) (S I : Nat → Nat → Int32) (L : Nat → Nat → Int64) (T : Nat → Nat → Option Nat) (Λ : Nat → p_Lw), p_inv K S I T Λ → k18 0 96 (nI (6 * (i + 1))) (p_H K S I L T Λ) = some true) {K : Nat} {S I : Nat → Nat → Int32} {M : Nat → Nat → Int64} {T : Nat → Nat → Option Nat} {Λ : Nat → p_Lw} (hinv : p_inv K S I T Λ) : fL_law_b1649 L xs k18 0 96 (nI (6 * i)) (p_H K S I M T Λ) = some true := by
  obtain ⟨r, g1, K2, S2, I2, L2, T2, Λ2, e1, e2, e3⟩ := c_back  K S I M T Λ hinv
  unfold fL_law_b1649 fL_law_b1685
  simp only [e1, e2, Option.bind_some]
  rw [if_pos (by trivial), nI_add]
  exact ih _ _ _ _ _ _ e3
theorem st_count {L i : Nat} (xs : Nat → Int32) (k18 : Nat → Nat → Int32 → e_H → Option Bool) (h : 6 * i + 6 ≤ L) (hL : L ≤ 3072) (ih : ∀ (K : Nat) (S I : Nat → Nat → Int32) (L : Nat → Nat → Int64) (T : Nat → Nat → Option Nat) (Λ : Nat → p_Lw), p_inv K S I T Λ → k18 0 96 (nI (6 * (i + 1))) (p_H K S I L T Λ) = some true) {K : Nat} {S I : Nat → Nat → Int32} {M : Nat → Nat → Int64} {T : Nat → Nat → Option Nat} {Λ : Nat → p_Lw} (hinv : p_inv K S I T Λ) : fL_law_b1662 L xs k18 0 96 (nI (6 * i)) (p_H K S I M T Λ) = some true := by
  obtain ⟨r, e1, e2⟩ := c_count (xs (nI (6 * i) + nI 1).toNatClampNeg) K S I M T Λ hinv
  unfold fL_law_b1662 fL_law_b1685
  simp only [if_neg (ix_in h (show 1 < 6 by decide) hL), e1, e2, Option.bind_some]
  rw [if_pos (by trivial), nI_add]
  exact ih _ _ _ _ _ _ hinv
