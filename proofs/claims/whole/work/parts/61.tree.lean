theorem b_dist (x y k : Int32) : ((x ||| y) >>> k) &&& nI 1 = ((x >>> k) &&& nI 1) ||| ((y >>> k) &&& nI 1) := by
  apply Int32.toBitVec_inj.mp
  simp only [Int32.toBitVec_and, Int32.toBitVec_or, Int32.toBitVec_shiftRight, BitVec.sshiftRight', BitVec.sshiftRight_or_distrib]
  ext i hi
  simp only [BitVec.getElem_and, BitVec.getElem_or, Bool.and_or_distrib_right]
theorem b_one : ∀ n, n < 11 → ∀ u, u < 11 → ((nI 1 <<< (nI n &&& 31)) >>> (nI u &&& 31)) &&& nI 1 = if u = n then nI 1 else nI 0 := by decide
theorem b_nil : ∀ u, u < 11 → (nI 0 >>> (nI u &&& 31)) &&& nI 1 = nI 0 := by decide
theorem p_bits_at (P : Nat → Bool) : ∀ n, n ≤ 11 → ∀ u, u < 11 → (p_bits P n >>> (nI u &&& 31)) &&& nI 1 = if u < n ∧ P u = true then nI 1 else nI 0
  | 0, _, u, hu => by
    rw [if_neg (by omega)]
    exact b_nil u hu
  | n + 1, hn, u, hu => by
    have ih := p_bits_at P n (by omega) u hu
    unfold p_bits
    cases hp : P n
    · rw [if_neg (by decide), ih]
      by_cases e : u = n
      · subst e; rw [if_neg (by omega), if_neg (by rw [hp]; simp)]
      · by_cases h : u < n ∧ P u = true
        · rw [if_pos h, if_pos ⟨by omega, h.2⟩]
        · rw [if_neg h, if_neg (fun z => h ⟨by omega, z.2⟩)]
    · rw [if_pos rfl, b_dist, ih, b_one n (by omega) u hu]
      by_cases e : u = n
      · subst e; rw [if_neg (by omega), if_pos rfl, if_pos ⟨by omega, hp⟩]; decide
      · rw [if_neg e]
        by_cases h : u < n ∧ P u = true
        · rw [if_pos h, if_pos ⟨by omega, h.2⟩]; decide
        · rw [if_neg h, if_neg (fun z => h ⟨by omega, z.2⟩)]; decide
