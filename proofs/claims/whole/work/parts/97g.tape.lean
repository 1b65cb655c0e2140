-- a tape, by itself: bytes bt, n of them
def p_tb (bt : Nat → Int32) (n : Nat) : Prop := n ≤ 96 ∧ ∀ x, x < n → ∃ y, y < 256 ∧ bt x = nI y
def p_by (bt : Nat → Int32) (n i : Nat) : Int32 := if i < n then bt i else -1
def p_rn (P : Int32 → Bool) (bt : Nat → Int32) : Nat → Nat → Nat
  | 0, i => i
  | d + 1, i => if P (bt i) then p_rn P bt d (i + 1) else i
def p_re (P : Int32 → Bool) (bt : Nat → Int32) (n i : Nat) : Nat := p_rn P bt (n - i) i
def p_blk (b : Int32) : Bool := decide (b = nI 32)
def p_dig (b : Int32) : Bool := decide (¬ b < nI 48 ∧ ¬ nI 57 < b)
def p_ltr (b : Int32) : Bool := decide (¬ b < nI 97 ∧ ¬ nI 122 < b)
theorem p_rn_ok (P : Int32 → Bool) (bt : Nat → Int32) : ∀ d i, i ≤ p_rn P bt d i ∧ p_rn P bt d i ≤ i + d ∧ (∀ j, i ≤ j → j < p_rn P bt d i → P (bt j) = true) ∧ (p_rn P bt d i < i + d → P (bt (p_rn P bt d i)) = false)
  | 0, i => ⟨Nat.le_refl _, Nat.le_refl _, fun j h1 h2 => absurd h2 (by show ¬ j < i; omega), fun h => absurd h (Nat.lt_irrefl _)⟩
  | d + 1, i => by
    obtain ⟨h1, h2, h3, h4⟩ := p_rn_ok P bt d (i + 1)
    unfold p_rn
    cases e : P (bt i)
    · rw [if_neg (by decide)]
      exact ⟨Nat.le_refl _, by omega, fun j z1 z2 => absurd z2 (by omega), fun _ => e⟩
    · rw [if_pos rfl]
      refine ⟨by omega, by omega, fun j z1 z2 => ?_, fun z => h4 (by omega)⟩
      by_cases ej : j = i
      · rw [ej]; exact e
      · exact h3 j (by omega) z2
theorem p_re_ok (P : Int32 → Bool) {bt : Nat → Int32} {n i : Nat} (hi : i ≤ n) : i ≤ p_re P bt n i ∧ p_re P bt n i ≤ n ∧ (∀ j, i ≤ j → j < p_re P bt n i → P (p_by bt n j) = true) ∧ (P (-1) = false → P (p_by bt n (p_re P bt n i)) = false) := by
  obtain ⟨h1, h2, h3, h4⟩ := p_rn_ok P bt (n - i) i
  unfold p_re
  refine ⟨h1, by omega, fun j z1 z2 => ?_, fun hm => ?_⟩
  · unfold p_by
    rw [if_pos (by omega)]
    exact h3 j z1 z2
  · unfold p_by
    by_cases e : p_rn P bt (n - i) i < n
    · rw [if_pos e]
      exact h4 (by omega)
    · rw [if_neg e]
      exact hm
def p_skp (bt : Nat → Int32) (n i : Nat) : Nat := p_re p_blk bt n i
theorem p_re_at {P : Int32 → Bool} {bt : Nat → Int32} {n i : Nat} (hi : i ≤ n) (hm : P (-1) = false) (h : P (p_by bt n i) = false) : p_re P bt n i = i := by
  obtain ⟨h1, h2, h3, h4⟩ := p_re_ok P (bt := bt) hi
  by_cases e : i < p_re P bt n i
  · rw [h3 i (Nat.le_refl _) e] at h
    exact absurd h (by decide)
  · omega
theorem p_re_s {P : Int32 → Bool} {bt : Nat → Int32} {n i : Nat} (hi : i < n) (h : P (bt i) = true) : p_re P bt n i = p_re P bt n (i + 1) := by
  unfold p_re
  rw [show n - i = (n - (i + 1)) + 1 by omega]
  show (if P (bt i) then _ else _) = _
  rw [if_pos h]
theorem p_skp_le {bt : Nat → Int32} {n i : Nat} (hi : i ≤ n) : i ≤ p_skp bt n i ∧ p_skp bt n i ≤ n := ⟨(p_re_ok p_blk hi).1, (p_re_ok p_blk hi).2.1⟩
theorem p_skp_nb {bt : Nat → Int32} {n i : Nat} (hi : i ≤ n) : p_blk (p_by bt n (p_skp bt n i)) = false := (p_re_ok p_blk hi).2.2.2 (by decide)
theorem p_skp_id {bt : Nat → Int32} {n i : Nat} (hi : i ≤ n) (h : p_blk (p_by bt n i) = false) : p_skp bt n i = i := p_re_at hi (by decide) h
theorem p_skp_skp {bt : Nat → Int32} {n i : Nat} (hi : i ≤ n) : p_skp bt n (p_skp bt n i) = p_skp bt n i := p_skp_id (p_skp_le hi).2 (p_skp_nb hi)
theorem p_by_or {bt : Nat → Int32} {n : Nat} (ht : p_tb bt n) (i : Nat) : (n ≤ i ∧ p_by bt n i = -1) ∨ (i < n ∧ ∃ y, y < 256 ∧ p_by bt n i = nI y ∧ bt i = nI y) := by
  unfold p_by
  by_cases h : i < n
  · rw [if_pos h]
    obtain ⟨y, hy, e⟩ := ht.2 i h
    exact Or.inr ⟨h, y, hy, e, e⟩
  · rw [if_neg h]
    exact Or.inl ⟨by omega, rfl⟩
-- signs and names in the String constants
theorem ix_3 : ∀ y, y < 256 → fJ0_indexOf_0f7a4 3 (((nI y).toUInt32 % 65536).toInt32) = some (if y = 33 then nI 0 else -1) := by decide +kernel
theorem ix_7 : ∀ y, y < 256 → fJ0_indexOf_0f7a4 7 (((nI y).toUInt32 % 65536).toInt32) = some (if y = 41 then nI 0 else -1) := by decide +kernel
theorem ix_8 : ∀ y, y < 256 → fJ0_indexOf_0f7a4 8 (((nI y).toUInt32 % 65536).toInt32) = some (if y = 124 then nI 0 else -1) := by decide +kernel
theorem ix_9 : ∀ y, y < 256 → fJ0_indexOf_0f7a4 9 (((nI y).toUInt32 % 65536).toInt32) = some (if y = 38 then nI 0 else -1) := by decide +kernel
theorem ix_10 : ∀ y, y < 256 → fJ0_indexOf_0f7a4 10 (((nI y).toUInt32 % 65536).toInt32) = some (if y = 60 then nI 0 else if y = 61 then nI 1 else if y = 62 then nI 2 else -1) := by decide +kernel
theorem ix_11 : ∀ y, y < 256 → fJ0_indexOf_0f7a4 11 (((nI y).toUInt32 % 65536).toInt32) = some (if y = 43 then nI 0 else if y = 45 then nI 1 else -1) := by decide +kernel
theorem ix_12 : ∀ y, y < 256 → fJ0_indexOf_0f7a4 12 (((nI y).toUInt32 % 65536).toInt32) = some (if y = 42 then nI 0 else if y = 47 then nI 1 else -1) := by decide +kernel
theorem ix_4 : ∀ y, y < 256 → fJ0_indexOf_0f7a4 4 (((nI y).toUInt32 % 65536).toInt32) = some (if y = 105 then nI 0 else if y = 106 then nI 1 else if y = 99 then nI 2 else -1) := by decide +kernel
theorem ix_5 : ∀ y, y < 256 → fJ0_indexOf_0f7a4 5 (((nI y).toUInt32 % 65536).toInt32) = some (if y = 116 then nI 0 else if y = 109 then nI 1 else -1) := by decide +kernel
theorem ix_6 : ∀ y, y < 256 → fJ0_indexOf_0f7a4 6 (((nI y).toUInt32 % 65536).toInt32) = some (if y = 120 then nI 0 else if y = 121 then nI 1 else if y = 109 then nI 2 else -1) := by decide +kernel
theorem ix_ch : ∀ s, s < 3 → ∀ j, j < o_sn s → fJ0_charAt_5068e s (nI j) = some (o_sb s j) := by decide +kernel
theorem ix_ln : ∀ s, s < 13 → fJ0_length_8abf5 s = some (nI (o_sn s)) := by decide +kernel
-- the signs of a row: 3 "!", 7 ")", 8 "|", 9 "&", 10 "<=>", 11 "+-", 12 "*/"
def p_sg (s : Nat) (b : Int32) : Bool := if s = 3 then decide (b = nI 33) else if s = 7 then decide (b = nI 41) else if s = 8 then decide (b = nI 124) else if s = 9 then decide (b = nI 38) else if s = 10 then decide (b = nI 60 ∨ b = nI 61 ∨ b = nI 62) else if s = 11 then decide (b = nI 43 ∨ b = nI 45) else decide (b = nI 42 ∨ b = nI 47)
def p_six (s : Nat) : Prop := s = 3 ∨ s = 7 ∨ s = 8 ∨ s = 9 ∨ s = 10 ∨ s = 11 ∨ s = 12
theorem sg_ix {s : Nat} (hs : p_six s) : ∀ y, y < 256 → ∃ v, fJ0_indexOf_0f7a4 s (((nI y).toUInt32 % 65536).toInt32) = some v ∧ (p_sg s (nI y) = true ↔ ¬ v < 0) := by
  intro y hy
  rcases hs with rfl | rfl | rfl | rfl | rfl | rfl | rfl
  · refine ⟨_, ix_3 y hy, ?_⟩
    revert y; decide +kernel
  · refine ⟨_, ix_7 y hy, ?_⟩
    revert y; decide +kernel
  · refine ⟨_, ix_8 y hy, ?_⟩
    revert y; decide +kernel
  · refine ⟨_, ix_9 y hy, ?_⟩
    revert y; decide +kernel
  · refine ⟨_, ix_10 y hy, ?_⟩
    revert y; decide +kernel
  · refine ⟨_, ix_11 y hy, ?_⟩
    revert y; decide +kernel
  · refine ⟨_, ix_12 y hy, ?_⟩
    revert y; decide +kernel
theorem sg_m1 (s : Nat) : p_sg s (-1) = false := by
  unfold p_sg
  split
  · decide
  · split
    · decide
    · split
      · decide
      · split
        · decide
        · split
          · decide
          · split <;> decide
def p_nm (ky : Nat) (b : Int32) : Int32 := if ky = 0 then (if b = nI 105 then nI 0 else if b = nI 106 then nI 1 else if b = nI 99 then nI 2 else -1) else if ky = 1 then (if b = nI 116 then nI 0 else if b = nI 109 then nI 1 else -1) else (if b = nI 120 then nI 0 else if b = nI 121 then nI 1 else if b = nI 109 then nI 2 else -1)
theorem nm_ix {ky : Nat} (hk : ky ≤ 2) : ∀ y, y < 256 → fJ0_indexOf_0f7a4 (4 + ky) (((nI y).toUInt32 % 65536).toInt32) = some (p_nm ky (nI y)) := by
  rcases (show ky = 0 ∨ ky = 1 ∨ ky = 2 by omega) with rfl | rfl | rfl
  · intro y hy
    refine (ix_4 y hy).trans ?_
    revert y; decide +kernel
  · intro y hy
    refine (ix_5 y hy).trans ?_
    revert y; decide +kernel
  · intro y hy
    refine (ix_6 y hy).trans ?_
    revert y; decide +kernel
theorem nm_or {ky : Nat} (hk : ky ≤ 2) (b : Int32) : p_nm ky b = -1 ∨ ∃ i, i < 3 ∧ p_nm ky b = nI i ∧ (i = 2 → ky ≠ 1) := by
  rcases (show ky = 0 ∨ ky = 1 ∨ ky = 2 by omega) with rfl | rfl | rfl
  · show (if b = nI 105 then nI 0 else if b = nI 106 then nI 1 else if b = nI 99 then nI 2 else -1) = -1 ∨ ∃ i, i < 3 ∧ (if b = nI 105 then nI 0 else if b = nI 106 then nI 1 else if b = nI 99 then nI 2 else -1) = nI i ∧ _
    split
    · exact Or.inr ⟨0, by decide, rfl, by decide⟩
    · split
      · exact Or.inr ⟨1, by decide, rfl, by decide⟩
      · split
        · exact Or.inr ⟨2, by decide, rfl, by decide⟩
        · exact Or.inl rfl
  · show (if b = nI 116 then nI 0 else if b = nI 109 then nI 1 else -1) = -1 ∨ ∃ i, i < 3 ∧ (if b = nI 116 then nI 0 else if b = nI 109 then nI 1 else -1) = nI i ∧ _
    split
    · exact Or.inr ⟨0, by decide, rfl, by decide⟩
    · split
      · exact Or.inr ⟨1, by decide, rfl, by decide⟩
      · exact Or.inl rfl
  · show (if b = nI 120 then nI 0 else if b = nI 121 then nI 1 else if b = nI 109 then nI 2 else -1) = -1 ∨ ∃ i, i < 3 ∧ (if b = nI 120 then nI 0 else if b = nI 121 then nI 1 else if b = nI 109 then nI 2 else -1) = nI i ∧ _
    split
    · exact Or.inr ⟨0, by decide, rfl, by decide⟩
    · split
      · exact Or.inr ⟨1, by decide, rfl, by decide⟩
      · split
        · exact Or.inr ⟨2, by decide, rfl, by decide⟩
        · exact Or.inl rfl
-- numbers
def p_nv (bt : Nat → Int32) (i : Nat) : Nat → Int32
  | 0 => nI 0
  | m + 1 => p_nv bt i m * nI 10 + bt (i + m) - nI 48
theorem dig_nat {b : Int32} (h : p_dig b = true) : ∃ d, d < 10 ∧ b = nI (48 + d) := by
  obtain ⟨h1, h2⟩ := of_decide_eq_true h
  obtain ⟨j, hj, rfl⟩ := nI_of (x := b) (fun z => h1 (Int32.lt_trans z (by decide)))
  have e1 : ¬ j < 48 := fun z => h1 (nI_lt z (by decide))
  have e2 : ¬ 57 < j := fun z => h2 (nI_lt z hj)
  exact ⟨j - 48, by omega, by congr 1; omega⟩
theorem nv_nat {bt : Nat → Int32} {i : Nat} : ∀ m, m ≤ 4 → (∀ j, j < m → p_dig (bt (i + j)) = true) → ∃ v, v < 10 ^ m ∧ p_nv bt i m = nI v
  | 0, _, _ => ⟨0, by decide, rfl⟩
  | m + 1, hm, h => by
    obtain ⟨v, h1, h2⟩ := nv_nat m (by omega) (fun j hj => h j (by omega))
    obtain ⟨d, h3, h4⟩ := dig_nat (h m (by omega))
    refine ⟨v * 10 + d, by rw [Nat.pow_succ]; omega, ?_⟩
    show p_nv bt i m * nI 10 + bt (i + m) - nI 48 = _
    rw [h2, h4, nI_mul, nI_add, pk_sub (by omega)]
    congr 1
    omega
