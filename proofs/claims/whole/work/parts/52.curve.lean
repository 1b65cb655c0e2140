theorem nI_s (k : Nat) : nI k + nI 1 = nI (k + 1) := nI_1 k
theorem va_up_up {α : Type} (f : Nat → α) (k : Nat) (v w : α) : va_up (va_up f k v) k w = va_up f k w := by
  funext j
  by_cases h : j = k
  · subst h; rw [va_up_s, va_up_s]
  · rw [va_up_n h, va_up_n h, va_up_n h]
theorem p_up_id {α : Type} (f : Nat → α) (k : Nat) : va_up f k (f k) = f := by
  funext j
  by_cases h : j = k
  · subst h; rw [va_up_s]
  · rw [va_up_n h]
def p_fill (n : Nat) (x : Int32) (f : Nat → Int32) : Nat → Int32 := fun j => if j < n then x else f j
def p_cnt (f : Nat → Int32) : Nat → Nat
  | 0 => 0
  | n + 1 => p_cnt f n + (if f n = 0 then 0 else 1)
theorem p_cnt_le (f : Nat → Int32) : ∀ n, p_cnt f n ≤ n
  | 0 => Nat.le_refl 0
  | n + 1 => by
    have := p_cnt_le f n
    unfold p_cnt
    split <;> omega
section CURVE
variable {K : Nat} {S I : Nat → Nat → Int32} {L : Nat → Nat → Int64} {T : Nat → Nat → Option Nat} {Λ : Nat → p_Lw}
theorem fill_go {a n : Nat} (h : p_ia 0 n a) (hn : n < 2 ^ 31) (x : Int32) : ∀ (d m k : Nat) (I : Nat → Nat → Int32), k + d = n → fJ7_fill_53178_L5 (d + 1 + m) a x (nI k) (nI n) (p_H K S I L T Λ) = some (p_H K S (va_up I a (fun j => if k ≤ j ∧ j < n then x else I a j)) L T Λ)
  | 0, m, k, I, hk => by
    rw [show 0 + 1 + m = m + 1 by omega]
    show fJ7_fill_53178_b5 _ _ _ _ _ _ = _
    unfold fJ7_fill_53178_b5
    rw [if_pos (nI_le (by omega) (by omega))]
    congr 2
    funext j
    by_cases hj : j = a
    · subst hj
      rw [va_up_s]
      funext q
      rw [if_neg (by omega)]
    · rw [va_up_n hj]
  | d + 1, m, k, I, hk => by
    rw [show d + 1 + 1 + m = (d + 1 + m) + 1 by omega]
    show fJ7_fill_53178_b5 _ _ _ _ _ _ = _
    unfold fJ7_fill_53178_b5
    rw [if_neg (nI_ge (by omega) hn), p_stI h (by omega) hn, Option.bind_some, nI_s, fill_go h hn x d m (k + 1) _ (by omega)]
    rw [va_up_up, va_up_s]
    congr 3
    funext q
    simp only [upd]
    by_cases h1 : q = k
    · subst h1; rw [if_neg (by omega), if_pos rfl, if_pos (by omega)]
    · by_cases h2 : k + 1 ≤ q ∧ q < n
      · rw [if_pos h2, if_pos (by omega)]
      · rw [if_neg h2, if_neg h1, if_neg (by omega)]
theorem q_fill {a n : Nat} (h : p_ia 0 n a) (hn : n < 200) (x : Int32) : fJ7_fill_53178 a x (p_H K S I L T Λ) = some (p_H K S (va_up I a (p_fill n x (I a))) L T Λ) := by
  unfold fJ7_fill_53178
  rw [p_lenI h, Option.bind_some]
  have := fill_go (K := K) (S := S) (L := L) (T := T) (Λ := Λ) h (by omega) x n (199 - n) 0 I (by omega)
  rw [show n + 1 + (199 - n) = 200 by omega] at this
  refine this.trans ?_
  congr 3
  funext j
  simp only [p_fill]
  by_cases hj : j < n
  · rw [if_pos ⟨Nat.zero_le _, hj⟩, if_pos hj]
  · rw [if_neg (fun z => hj z.2), if_neg hj]
-- a curve at a, its numbers at a + 1
theorem q_becomesZero {a : Nat} (hc : p_isC a) (x : Int32) : fX0_becomesZero a x (p_H K S I L T Λ) = some (p_H K (p_s S a 0 x) (va_up I (a + 1) (p_fill 15 0 (I (a + 1)))) L T Λ) := by
  unfold fX0_becomesZero
  simp only [gC_o hc, gC_0 hc, gC_1 hc, gC_p0 hc, p_lenI hc.2, Option.bind_some, e_on]
  rw [q_fill hc.2 (by decide)]
  rfl
theorem q_numberAt {a k : Nat} (hc : p_isC a) (hk : k < 15) : fX0_numberAt a (nI k) (p_H K S I L T Λ) = some (I (a + 1) k) := by
  unfold fX0_numberAt
  simp only [gC_o hc, gC_0 hc, gC_1 hc, gC_p0 hc, p_lenI hc.2, Option.bind_some, e_on, p_ldI hc.2 hk (by decide)]
  rw [if_neg (nI_pos (by omega)), if_pos (nI_lt hk (by decide))]
theorem q_setNumber {a k : Nat} (hc : p_isC a) (hk : k < 15) (x : Int32) : fX0_setNumber a (nI k) x (p_H K S I L T Λ) = some (p_H K S (va_up I (a + 1) (upd (I (a + 1)) k x)) L T Λ) := by
  unfold fX0_setNumber
  simp only [gC_o hc, gC_0 hc, gC_1 hc, gC_p0 hc, p_lenI hc.2, Option.bind_some, e_on, p_stI hc.2 hk (by decide)]
  rw [if_neg (nI_pos (by omega)), if_neg (nI_ge hk (by decide))]
theorem notZero_go {a : Nat} (hc : p_isC a) : ∀ (d m k : Nat), k + d = 15 → fX0_notZero_L4 (p_H K S I L T Λ) (d + 1 + m) a (nI (p_cnt (I (a + 1)) k)) (nI k) = some (nI (p_cnt (I (a + 1)) 15))
  | 0, m, k, hk => by
    rw [show 0 + 1 + m = m + 1 by omega]
    show fX0_notZero_b4 _ _ _ _ _ = _
    unfold fX0_notZero_b4
    simp only [gC_o hc, gC_0 hc, gC_1 hc, gC_p0 hc, p_lenI hc.2, Option.bind_some, e_on]
    rw [if_pos (nI_le (by omega) (by omega)), show k = 15 by omega]
  | d + 1, m, k, hk => by
    rw [show d + 1 + 1 + m = (d + 1 + m) + 1 by omega]
    show fX0_notZero_b4 _ _ _ _ _ = _
    unfold fX0_notZero_b4 fX0_notZero_b25
    simp only [gC_o hc, gC_0 hc, gC_1 hc, gC_p0 hc, p_lenI hc.2, Option.bind_some, e_on, p_ldI hc.2 (show k < 15 by omega) (by decide)]
    rw [if_neg (nI_ge (by omega) (by decide)), nI_s, nI_s]
    have ih := notZero_go hc d m (k + 1) (by omega)
    rw [p_cnt] at ih
    by_cases h0 : I (a + 1) k = 0
    · rw [if_pos h0] at ih ⊢; exact ih
    · rw [if_neg h0] at ih ⊢; exact ih
theorem q_notZero {a : Nat} (hc : p_isC a) : fX0_notZero a (p_H K S I L T Λ) = some (nI (p_cnt (I (a + 1)) 15)) := by
  unfold fX0_notZero
  rw [gC_o hc, Option.bind_some]
  exact notZero_go hc 15 184 0 (by omega)
def p_under (kd k : Int32) : Bool := decide (k = 0) || (decide (k = kd) || ((decide (k = nI 1) && decide (kd = nI 3)) || (decide (k = nI 2) && decide (kd = nI 4))))
theorem q_isOf {a : Nat} (hc : p_isC a) (k : Int32) : fX0_isOf a k (p_H K S I L T Λ) = some (p_under (S a 0) k) := by
  unfold fX0_isOf fX0_isOf_b27
  simp only [gC_o hc, gC_0 hc, gC_1 hc, gC_p0 hc, p_lenI hc.2, Option.bind_some, e_on, p_under]
  have n12 : ¬ nI 1 = nI 2 := by decide
  by_cases h0 : k = 0
  · simp [h0]
  · by_cases h1 : k = S a 0
    · simp [h0, h1]
    · by_cases h2 : k = nI 1
      · subst h2
        by_cases h3 : S a 0 = nI 3
        · simp [h0, h3]
        · simp [h0, h1, h3, n12]
      · by_cases h4 : k = nI 2
        · subst h4
          by_cases h5 : S a 0 = nI 4 <;> simp [h0, h1, h2, h5]
        · simp [h0, h1, h2, h4]
def p_ixn (i j : Nat) : Nat := (if i = 0 then 0 else if i = 1 then 5 else if i = 2 then 9 else if i = 3 then 12 else 14) + j
def p_ok (i j : Int32) : Prop := 0 ≤ i.toInt ∧ 0 ≤ j.toInt ∧ i.toInt + j.toInt ≤ 4
theorem p_ixn_lt {i j : Nat} (h : i + j ≤ 4) : p_ixn i j < 15 := by
  unfold p_ixn
  rcases (show i = 0 ∨ i = 1 ∨ i = 2 ∨ i = 3 ∨ i = 4 by omega) with rfl | rfl | rfl | rfl | rfl <;> simp <;> omega
theorem q_indexOf {i j : Nat} (h : i + j ≤ 4) : fX8_indexOf (nI i) (nI j) = some (nI (p_ixn i j)) := by
  rcases (show i = 0 ∨ i = 1 ∨ i = 2 ∨ i = 3 ∨ i = 4 by omega) with rfl | rfl | rfl | rfl | rfl <;> rcases (show j = 0 ∨ j = 1 ∨ j = 2 ∨ j = 3 ∨ j = 4 by omega) with rfl | rfl | rfl | rfl | rfl <;> first | omega | decide +kernel
theorem q_number {a i j : Nat} (hc : p_isC a) (h : i + j ≤ 4) : fX0_number a (nI i) (nI j) (p_H K S I L T Λ) = some (I (a + 1) (p_ixn i j)) := by
  unfold fX0_number
  simp only [gC_o hc, Option.bind_some, q_indexOf h, q_numberAt hc (p_ixn_lt h)]
def p_worth (kd : Int32) (f : Nat → Int32) : Int32 := if kd = nI 1 then nI (p_cnt f 15) + f 5 else if kd = nI 2 then nI 2 * nI (p_cnt f 15) else if kd = nI 3 then -(nI (p_cnt f 15) + f 5) else if kd = nI 4 then nI 2 * nI (p_cnt f 15) + nI 1 else if kd = nI 5 then f 0 else nI (p_cnt f 15)
theorem q_worth {a : Nat} (hc : p_isC a) : fX0_worth a (p_H K S I L T Λ) = some (p_worth (S a 0) (I (a + 1))) := by
  unfold fX0_worth
  have h1 : fX0_number a (nI 1) (nI 0) (p_H K S I L T Λ) = some (I (a + 1) 5) := q_number (i := 1) (j := 0) hc (by decide)
  have h2 : fX0_number a (nI 0) (nI 0) (p_H K S I L T Λ) = some (I (a + 1) 0) := q_number (i := 0) (j := 0) hc (by decide)
  simp only [gC_o hc, gC_0 hc, Option.bind_some, q_notZero hc, h1, h2, p_worth]
  split
  · rfl
  · split
    · rfl
    · split
      · rfl
      · split
        · rfl
        · split <;> rfl
def p_fac (kd i j : Int32) : Int32 := if kd = nI 2 then (if i - i / nI 2 * nI 2 = 0 then nI 1 else -1) else if kd = nI 3 then -1 else if kd = nI 4 then (if i - i / nI 2 * nI 2 = 0 then nI 2 else -2) else if kd = nI 5 then (if j = 0 then nI 1 else nI 0) else nI 1
theorem q_factor {a : Nat} (hc : p_isC a) (i j : Int32) : fX0_factor a i j (p_H K S I L T Λ) = some (p_fac (S a 0) i j) := by
  unfold fX0_factor
  simp only [gC_o hc, gC_0 hc, Option.bind_some, p_fac]
  split
  · split <;> rfl
  · split
    · rfl
    · split
      · split <;> rfl
      · split
        · split <;> rfl
        · rfl
theorem p_cpyI {a b n : Nat} {n0 n1 : Nat} (ha : p_ia 0 n0 a) (hb : p_ia 0 n1 b) {sp dp : Nat} (h1 : sp + n ≤ n0) (h2 : dp + n ≤ n1) (h3 : n0 < 2 ^ 31) (h4 : n1 < 2 ^ 31) : o_cpy (p_H K S I L T Λ) a (nI sp) b (nI dp) (nI n) = some (p_H K S (va_up I b (va_cpy (I a) (I b) sp dp n)) L T Λ) := by
  unfold o_cpy
  simp only [p_rowI ha, p_rowI hb, Option.bind_some]
  rw [nI_clamp (show sp < 2 ^ 31 by omega), nI_clamp (show dp < 2 ^ 31 by omega), nI_clamp (show n < 2 ^ 31 by omega)]
  rw [if_neg (fun z => ?_), p_setI hb]
  rcases z with z | z | z | z | z
  · exact nI_pos (show sp < 2 ^ 31 by omega) z
  · exact nI_pos (show dp < 2 ^ 31 by omega) z
  · exact nI_pos (show n < 2 ^ 31 by omega) z
  · omega
  · omega
theorem p_s_n {S : Nat → Nat → Int32} {a b k : Nat} {x : Int32} (h : b ≠ a) : p_s S a k x b = S b := va_up_n h
theorem p_s_s {S : Nat → Nat → Int32} {a k : Nat} {x : Int32} : p_s S a k x a = upd (S a) k x := va_up_s _ _ _
theorem q_becomes {a b : Nat} (hc : p_isC a) (hd : p_isC b) : fX0_becomes a b (p_H K S I L T Λ) = some (p_H K (p_s S a 0 (S b 0)) (va_up I (a + 1) (va_cpy (I (b + 1)) (I (a + 1)) 0 0 15)) L T Λ) := by
  unfold fX0_becomes
  simp only [gC_o hc, gC_0 hc, gC_1 hc, gC_p0 hc, p_lenI hc.2, gC_0 hd, gC_1 hd, Option.bind_some, e_on]
  rw [p_cpyI hd.2 hc.2 (by decide) (by decide) (by decide) (by decide)]
  rfl
end CURVE
