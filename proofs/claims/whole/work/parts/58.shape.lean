theorem nI_div {a b : Nat} (ha : a < 2 ^ 31) (hb : b < 2 ^ 31) : nI a / nI b = nI (a / b) := by
  apply Int32.toInt_inj.mp
  have h : a / b ≤ a := Nat.div_le_self a b
  rw [Int32.toInt_div, nI_toInt ha, nI_toInt hb, nI_toInt (by omega), ← Int.ofNat_tdiv]
  generalize a / b = q at *
  rw [Int.bmod_eq_of_le (by omega) (by omega)]
theorem nI_mod {a b : Nat} (ha : a < 2 ^ 31) (hb : b < 2 ^ 31) : nI a - nI a / nI b * nI b = nI (a % b) := by
  have h := Nat.div_add_mod a b
  rw [nI_div ha hb, nI_mul, pk_sub (by rw [Nat.mul_comm]; omega)]
  congr 1
  rw [Nat.mul_comm]
  omega
-- a move by x of five numbers
def p_sf (x : Int64) (f : Nat → Int64) : Nat → Int64
  | 0 => f 0 + f 1 * x + f 2 * (x * x) + f 3 * (x * x * x) + f 4 * (x * x * x * x)
  | 1 => f 1 + 2 * f 2 * x + 3 * f 3 * (x * x) + 4 * f 4 * (x * x * x)
  | 2 => f 2 + 3 * f 3 * x + 6 * f 4 * (x * x)
  | 3 => f 3 + 4 * f 4 * x
  | n + 4 => f (n + 4)
def p_h1 (d : Int64) (j : Nat) (g : Nat → Int64) : Nat → Int64 := fun b => if b = j then g b + d * g (b + 1) else g b
def p_h9 (d : Int64) (g : Nat → Int64) : Nat → Int64 := p_h1 d 3 (p_h1 d 2 (p_h1 d 3 (p_h1 d 1 (p_h1 d 2 (p_h1 d 3 (p_h1 d 0 (p_h1 d 1 (p_h1 d 2 (p_h1 d 3 g)))))))))
theorem p_h9_sf (d : Int64) (g : Nat → Int64) {b : Nat} (hb : b < 5) : p_h9 d g b = p_sf d g b := by
  rcases (show b = 0 ∨ b = 1 ∨ b = 2 ∨ b = 3 ∨ b = 4 by omega) with rfl | rfl | rfl | rfl | rfl <;> simp [p_h9, p_h1, p_sf] <;> grind
def p_row (c : Nat → Int64) (r : Nat) (g : Nat → Int64) : Prop := ∀ b, b < 5 → c (5 * r + b) = g b
theorem p_row.st {c g : Nat → Int64} {r N j : Nat} (h : p_row c r g) (hr : r ≤ N) (hj : j ≤ 3) (d : Int64) : p_row (p_my d j (N + 1) c) r (p_h1 d j g) := by
  intro b hb
  simp only [p_my, p_h1]
  by_cases e : b = j
  · rw [if_pos (by omega), if_pos e, h b hb, show 5 * r + b + 1 = 5 * r + (b + 1) by omega, h (b + 1) (by omega)]
  · rw [if_neg (by omega), if_neg e, h b hb]
theorem p_mY_row {c : Nat → Int64} {r N : Nat} (hr : r ≤ N) (d : Int64) {b : Nat} (hb : b < 5) : p_mY d N 4 c (5 * r + b) = p_sf d (fun b => c (5 * r + b)) b := by
  have h : p_row (p_mY d N 4 c) r (p_h9 d (fun b => c (5 * r + b))) := by
    simp only [p_mY, p_mys, p_h9]
    refine .st (.st (.st (.st (.st (.st (.st (.st (.st (.st ?_ hr (by decide) d) hr (by decide) d) hr (by decide) d) hr (by decide) d) hr (by decide) d) hr (by decide) d) hr (by decide) d) hr (by decide) d) hr (by decide) d) hr (by decide) d
    exact fun b hb => rfl
  rw [h b hb, p_h9_sf d _ hb]
theorem p_my_out {c : Nat → Int64} {k N j : Nat} (h : N < k / 5) (d : Int64) : p_my d j (N + 1) c k = c k := by
  simp only [p_my]
  rw [if_neg (by omega)]
theorem p_mY_out {c : Nat → Int64} {k N : Nat} (h : N < k / 5) (d : Int64) : p_mY d N 4 c k = c k := by
  simp only [p_mY, p_mys, p_my_out h]
def p_col (c : Nat → Int64) (j : Nat) (g : Nat → Int64) : Prop := (∀ a, a < 5 → c (5 * a + j) = g a) ∧ ∀ a, a < 5 → 4 < a + j → g a = 0
theorem p_col.st {c g : Nat → Int64} {i j : Nat} (h : p_col c j g) (hj : j ≤ 4) (hi : i ≤ 3) (d : Int64) : p_col (p_mx d i (4 - i) c) j (p_h1 d i g) := by
  constructor
  · intro a ha
    simp only [p_mx, p_h1]
    by_cases e : a = i
    · by_cases e2 : j < 4 - i
      · rw [if_pos (by omega), if_pos e, h.1 a ha, show 5 * a + j + 5 = 5 * (a + 1) + j by omega, h.1 (a + 1) (by omega)]
      · rw [if_neg (by omega), if_pos e, h.1 a ha, h.2 (a + 1) (by omega) (by omega)]
        grind
    · rw [if_neg (by omega), if_neg e, h.1 a ha]
  · intro a ha h4
    simp only [p_h1]
    split
    · rw [h.2 a ha h4, h.2 (a + 1) (by omega) (by omega)]
      grind
    · exact h.2 a ha h4
theorem p_mX_col {c : Nat → Int64} {j : Nat} (hj : j ≤ 4) (h0 : ∀ a, a < 5 → 4 < a + j → c (5 * a + j) = 0) (d : Int64) {a : Nat} (ha : a < 5) : p_mX d 4 c (5 * a + j) = p_sf d (fun a => c (5 * a + j)) a := by
  have h : p_col (p_mX d 4 c) j (p_h9 d (fun a => c (5 * a + j))) := by
    simp only [p_mX, p_mxs, p_h9]
    refine .st (.st (.st (.st (.st (.st (.st (.st (.st (.st ?_ hj (by decide) d) hj (by decide) d) hj (by decide) d) hj (by decide) d) hj (by decide) d) hj (by decide) d) hj (by decide) d) hj (by decide) d) hj (by decide) d) hj (by decide) d
    exact ⟨fun b hb => rfl, h0⟩
  rw [h.1 a ha, p_h9_sf d _ ha]
theorem p_mx_out {c : Nat → Int64} {k i j : Nat} (h : 4 < k / 5) (hi : i ≤ 3) (d : Int64) : p_mx d i j c k = c k := by
  simp only [p_mx]
  rw [if_neg (by omega)]
theorem p_mX_out {c : Nat → Int64} {k : Nat} (h : 4 < k / 5) (d : Int64) : p_mX d 4 c k = c k := by
  simp only [p_mX, p_mxs]
  rw [p_mx_out h (by decide), p_mx_out h (by decide), p_mx_out h (by decide), p_mx_out h (by decide), p_mx_out h (by decide), p_mx_out h (by decide), p_mx_out h (by decide), p_mx_out h (by decide), p_mx_out h (by decide), p_mx_out h (by decide)]
-- a shape blown at t
def p_blw (c : Nat → Int64) (m : Nat) (t : Int64) : Nat → Int64 := fun k => p_sf t (fun j => p_dg c (k / 5 + m) j) (k % 5)
def p_shr (c : Nat → Int64) (m N : Nat) : Nat → Int64 := fun k => if k % 5 ≤ k / 5 + m ∧ 5 * (k / 5 + m - k % 5) + k % 5 < N then c (5 * (k / 5 + m - k % 5) + k % 5) else 0
theorem p_sf_eq {x : Int64} {f g : Nat → Int64} (h : ∀ b, b < 5 → f b = g b) {k : Nat} (hk : k < 5) : p_sf x f k = p_sf x g k := by
  have h0 := h 0 (by decide)
  have h1 := h 1 (by decide)
  have h2 := h 2 (by decide)
  have h3 := h 3 (by decide)
  have h4 := h 4 (by decide)
  rcases (show k = 0 ∨ k = 1 ∨ k = 2 ∨ k = 3 ∨ k = 4 by omega) with rfl | rfl | rfl | rfl | rfl <;> simp [p_sf, *]
section BLOW
variable {K : Nat} {S I : Nat → Nat → Int32} {L : Nat → Nat → Int64} {T : Nat → Nat → Option Nat} {Λ : Nat → p_Lw}
theorem blow_in {s s' m : Nat} (hs : p_isS s) (hs' : p_isS s') (hne : s ≠ s') (hm : m ≤ 16) (k7 : Nat → Nat → Int32 → Int32 → Int32 → e_H → Option e_H) (t : Int32) {i : Nat} (hi : i ≤ 16) : ∀ (d f j : Nat) (c : Nat → Int64), j + d = 5 → (∀ k, k < 85 → c k = p_shr (L (s + 1)) m (5 * i + j) k) → (∀ k, k < 85 → k / 5 + k % 5 < m → L (s + 1) k = 0) →
    ∃ c', (∀ k, k < 85 → c' k = p_shr (L (s + 1)) m (5 * (i + 1)) k) ∧ fX3_LlowInto_L17 k7 (d + 1 + f) s s' t (nI m) (nI i) (nI j) (p_H K S I (va_up L (s' + 1) c) T Λ) = k7 s s' t (nI m) (nI (i + 1)) (p_H K S I (va_up L (s' + 1) c') T Λ)
  | 0, f, j, c, hj, hc, h0 => by
    refine ⟨c, fun k hk => by rw [hc k hk, show 5 * (i + 1) = 5 * i + j by omega], ?_⟩
    rw [show 0 + 1 + f = f + 1 by omega]
    show fX3_blowInto_b17 _ _ _ _ _ _ _ _ _ = _
    unfold fX3_blowInto_b17
    rw [if_pos (nI_lt (by omega) (by omega)), nI_s]
  | d + 1, f, j, c, hj, hc, h0 => by
    rw [show d + 1 + 1 + f = (d + 1 + f) + 1 by omega]
    have hL : (va_up L (s' + 1) c) (s + 1) = L (s + 1) := va_up_n (by omega)
    obtain ⟨c', g1, g2⟩ := blow_in hs hs' hne hm k7 t hi d f (j + 1) (if m ≤ i + j ∧ i + j ≤ m + 16 then vp_updL c (5 * (i + j - m) + j) (c (5 * (i + j - m) + j) + L (s + 1) (5 * i + j)) else c) (by omega) (fun k hk => by
      by_cases h1 : m ≤ i + j ∧ i + j ≤ m + 16
      · rw [if_pos h1]
        simp only [vp_updL]
        by_cases h2 : k = 5 * (i + j - m) + j
        · rw [if_pos h2, hc _ (by omega)]
          have e1 : k / 5 = i + j - m := by omega
          have e2 : k % 5 = j := by omega
          simp only [p_shr]
          rw [← h2, e1, e2, if_neg (by omega), if_pos (by omega), show i + j - m + m - j = i by omega]
          grind
        · rw [if_neg h2, hc k hk]
          simp only [p_shr]
          by_cases h3 : k % 5 ≤ k / 5 + m ∧ 5 * (k / 5 + m - k % 5) + k % 5 < 5 * i + j
          · rw [if_pos h3, if_pos (by omega)]
          · rw [if_neg h3, if_neg (by omega)]
      · rw [if_neg h1, hc k hk]
        simp only [p_shr]
        by_cases h3 : k % 5 ≤ k / 5 + m ∧ 5 * (k / 5 + m - k % 5) + k % 5 < 5 * i + j
        · rw [if_pos h3, if_pos (by omega)]
        · rw [if_neg h3, if_neg (by omega)]) h0
    refine ⟨c', g1, ?_⟩
    rw [← g2]
    show fX3_blowInto_b17 _ _ _ _ _ _ _ _ _ = _
    unfold fX3_blowInto_b17
    rw [if_neg (nI_nlt (by omega) (by omega)), q_num hs (by omega) (by omega), Option.bind_some, nI_add, q_addm hs' (by omega) (by omega) (by omega), Option.bind_some, nI_s, hL, va_up_up, va_up_s]
theorem blow_out {s s' m : Nat} (hs : p_isS s) (hs' : p_isS s') (hne : s ≠ s') (hm : m ≤ 16) (t : Int32) : ∀ (d f i : Nat) (c : Nat → Int64), i + d = 17 → (∀ k, k < 85 → c k = p_shr (L (s + 1)) m (5 * i) k) → (∀ k, k < 85 → k / 5 + k % 5 < m → L (s + 1) k = 0) →
    ∃ c', (∀ k, k < 85 → c' k = p_shr (L (s + 1)) m 85 k) ∧ fX3_LlowInto_L7 (d + 1 + f) s s' t (nI m) (nI i) (p_H K S I (va_up L (s' + 1) c) T Λ) = some (p_H K S I (va_up L (s' + 1) (p_mY t.toInt64 16 4 c')) T Λ)
  | 0, f, i, c, hi, hc, h0 => by
    refine ⟨c, fun k hk => by rw [hc k hk, show 5 * i = 85 by omega], ?_⟩
    rw [show 0 + 1 + f = f + 1 by omega]
    show fX3_blowInto_b7 _ _ _ _ _ _ _ = _
    unfold fX3_blowInto_b7
    rw [if_pos (nI_lt (by omega) (by omega)), q_moveY hs' t (by decide), Option.bind_some, va_up_up, va_up_s]
  | d + 1, f, i, c, hi, hc, h0 => by
    rw [show d + 1 + 1 + f = (d + 1 + f) + 1 by omega]
    obtain ⟨c1, g1, g2⟩ := blow_in (S := S) (I := I) (T := T) (Λ := Λ) (K := K) hs hs' hne hm (fX3_LlowInto_L7 (d + 1 + f)) t (show i ≤ 16 by omega) 5 194 0 c (by omega) hc h0
    obtain ⟨c2, g3, g4⟩ := blow_out hs hs' hne hm t d f (i + 1) c1 (by omega) g1 h0
    refine ⟨c2, g3, ?_⟩
    show fX3_blowInto_b7 _ _ _ _ _ _ _ = _
    unfold fX3_blowInto_b7
    rw [if_neg (nI_nlt (by omega) (by omega)), ← g4, ← g2]
theorem q_blowInto {s s' m : Nat} (hs : p_isS s) (hs' : p_isS s') (hne : s ≠ s') (hm : m ≤ 16) (t : Int32) (h0 : ∀ k, k < 85 → k / 5 + k % 5 < m → L (s + 1) k = 0) : ∃ c, (∀ k, k < 85 → c k = p_blw (L (s + 1)) m t.toInt64 k) ∧ fX3_blowInto s s' t (nI m) (p_H K S I L T Λ) = some (p_H K S I (va_up L (s' + 1) c) T Λ) := by
  obtain ⟨f, hf, hcl⟩ := q_clear (S := S) (I := I) (L := L) (T := T) (Λ := Λ) (K := K) hs'
  obtain ⟨c, hc, hg⟩ := blow_out (S := S) (I := I) (L := L) (T := T) (Λ := Λ) (K := K) hs hs' hne hm t 17 182 0 f (by omega) (fun k hk => by
    rw [hf k hk]
    simp only [p_shr]
    rw [if_neg (by omega)]) h0
  refine ⟨p_mY t.toInt64 16 4 c, fun k hk => ?_, ?_⟩
  rotate_left
  · unfold fX3_blowInto
    rw [gS_o hs, Option.bind_some, hcl, Option.bind_some]
    exact hg
  · rw [show k = 5 * (k / 5) + k % 5 by omega, p_mY_row (by omega) _ (by omega)]
    unfold p_blw
    rw [show (5 * (k / 5) + k % 5) / 5 = k / 5 by omega, show (5 * (k / 5) + k % 5) % 5 = k % 5 by omega]
    refine p_sf_eq (fun b hb => ?_) (by omega)
    rw [hc _ (by omega)]
    simp only [p_shr, p_dg]
    rw [show (5 * (k / 5) + b) / 5 = k / 5 by omega, show (5 * (k / 5) + b) % 5 = b by omega]
    by_cases h : b ≤ k / 5 + m ∧ k / 5 + m ≤ b + 16
    · rw [if_pos h, if_pos (by omega)]
    · rw [if_neg h, if_neg (by omega)]
end BLOW
