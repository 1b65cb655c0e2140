theorem cur_or (c : Int32) {n : Nat} (hn : n < 2 ^ 31) : (∃ k, k < n ∧ c = nI k) ∨ (c < 0 ∨ nI n ≤ c) := by
  by_cases h : c < 0
  · exact Or.inr (Or.inl h)
  · obtain ⟨j, hj, rfl⟩ := nI_of h
    by_cases h2 : j < n
    · exact Or.inl ⟨j, h2, rfl⟩
    · exact Or.inr (Or.inr (nI_le (by omega) hj))
theorem p_tv_eq {kd : Int32} {f f' : Nat → Int32} (h : ∀ x, x < 15 → f x = f' x) (g : Int32 → Int32 → Int32 → Int32) {i j : Nat} (hij : i + j ≤ 4) : p_tv kd f g i j = p_tv kd f' g i j := by
  unfold p_tv
  rw [h _ (p_ixn_lt hij), h _ (p_ixn_lt (show j + i ≤ 4 by omega))]
theorem p_t25_eq {t t' : Nat → Nat → Int32} (h : ∀ k l, k + l ≤ 4 → t k l = t' k l) : p_t25 t = p_t25 t' := by
  funext k
  unfold p_t25
  split
  · next e => exact h _ _ e
  · rfl
theorem i32_mul2 {a : Int32} {z : Int} (h : a.toInt = z) (hz : z = -2 ∨ z = -1 ∨ z = 0 ∨ z = 1 ∨ z = 2) {x : Int32} (hx : p_bd x) : -198 ≤ (a * x).toInt ∧ (a * x).toInt ≤ 198 := by
  obtain ⟨h1, h2⟩ := hx
  rw [Int32.toInt_mul, h]
  rcases hz with rfl | rfl | rfl | rfl | rfl <;> rw [Int.bmod_eq_of_le (by omega) (by omega)] <;> omega
theorem p_fac_bd (kd i j : Int32) : ∃ z : Int, (p_fac kd i j).toInt = z ∧ (z = -2 ∨ z = -1 ∨ z = 0 ∨ z = 1 ∨ z = 2) := by
  unfold p_fac
  split
  · split
    · exact ⟨1, by decide, by decide⟩
    · exact ⟨-1, by decide, by decide⟩
  · split
    · exact ⟨-1, by decide, by decide⟩
    · split
      · split
        · exact ⟨2, by decide, by decide⟩
        · exact ⟨-2, by decide, by decide⟩
      · split
        · split
          · exact ⟨1, by decide, by decide⟩
          · exact ⟨0, by decide, by decide⟩
        · exact ⟨1, by decide, by decide⟩
theorem p_tv_bd (kd : Int32) (f : Nat → Int32) (g : Int32 → Int32 → Int32 → Int32) (i j : Nat) : -198 ≤ (p_tv kd f g i j).toInt ∧ (p_tv kd f g i j).toInt ≤ 198 := by
  obtain ⟨z, h1, h2⟩ := p_fac_bd kd (nI i) (nI j)
  unfold p_tv
  split
  · exact i32_mul2 h1 h2 (p_held_bd _)
  · exact i32_mul2 h1 h2 (p_held_bd _)
def p_tt2 (S I : Nat → Nat → Int32) (Λ : Nat → p_Lw) (lw : Nat → Nat) (tn c : Nat) : Nat → Nat → Int32 := p_tv (S (5 + 2 * c) 0) (I (5 + 2 * c + 1)) (p_tg Λ lw tn)
section HELP
variable {K : Nat} {S I : Nat → Nat → Int32} {L : Nat → Nat → Int64} {T : Nat → Nat → Option Nat} {Λ : Nat → p_Lw}
theorem k_w9 {lw : Nat → Nat} {cn tn : Nat} (h : p_wr 1 97 S I T K Λ lw cn tn) : p_w9 I Λ lw tn := ⟨h.2.2.1, h.2.2.2.2.1, h.2.2.2.2.2.2.2, h.2.2.2.2.2.2.1⟩
theorem k_terms9 {lw : Nat → Nat} {cn tn c : Nat} (h : p_wr 1 97 S I T K Λ lw cn tn) (hc : c < 6) : ∃ I2, fX9_findTerms 96 (nI c) (p_H K S I L T Λ) = some (nI (p_cnt (p_t25 (p_tt2 S I Λ lw tn c)) 25), (p_H K S (I2) L T Λ)) ∧ p_fr [100, 111, 112] I I2 ∧ ∀ x, x < 25 → I2 100 x = p_t25 (p_tt2 S I Λ lw tn c) x := by
  obtain ⟨h1, ⟨k, hk, h2⟩, h3⟩ := h.2.1 c hc
  have e : p_t25 (p_tv (nI k) (fun x => I 97 (4 + 16 * c + x)) (p_tg Λ lw tn)) = p_t25 (p_tt2 S I Λ lw tn c) := p_t25_eq (fun i j hij => by
    unfold p_tt2
    rw [show 5 + 2 * c = 1 + 4 + 2 * c by omega, h1, h2]
    exact p_tv_eq (fun x hx => (h3 x hx).1.symm) _ hij)
  have := q9_findTerms (S := S) (L := L) (T := T) (K := K) (k_w9 h) hc hk h2 (fun x hx => (h3 x hx).2) rfl
  rw [e] at this
  exact this
end HELP
