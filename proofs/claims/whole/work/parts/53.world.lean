-- what a text is worked out to
def ev_arg (a b c x : Int32) : Int32 := if 0 ≤ x then x else if x = -1 then a else if x = -2 then b else c
def ev_two (o a b : Int32) : Int32 := if o = nI 38 then (if a = 0 then nI 0 else if b = 0 then nI 0 else nI 1) else if o = nI 42 then a * b else if o = nI 43 then a + b else if o = nI 45 then a - b else if o = nI 47 then (if b = 0 then nI 0 else a / b) else if o = nI 60 then (if b ≤ a then nI 0 else nI 1) else if o = nI 61 then (if a = b then nI 1 else nI 0) else if o = nI 62 then (if a ≤ b then nI 0 else nI 1) else if o = nI 124 then (if a = 0 then (if b = 0 then nI 0 else nI 1) else nI 1) else nI 0
def ev_step (a b c : Int32) (s : List Int32) (x : Int32) : List Int32 := if -3 ≤ x then ev_arg a b c x :: s else if x = -33 then (match s with
  | y :: r => (if y = 0 then nI 1 else nI 0) :: r
  | [] => []) else match s with
  | y :: z :: r => ev_two (-x) z y :: r
  | _ => []
def ev_stk (a b c : Int32) (f : Nat → Int32) : Nat → List Int32
  | 0 => []
  | k + 1 => ev_step a b c (ev_stk a b c f k) (f k)
def ev_dep (f : Nat → Int32) : Nat → Nat
  | 0 => 0
  | k + 1 => if -3 ≤ f k then ev_dep f k + 1 else if f k = -33 then ev_dep f k else ev_dep f k - 1
def ev_wf (f : Nat → Int32) (n : Nat) : Prop := n ≤ 96 ∧ (∀ k, k < n → if -3 ≤ f k then True else if f k = -33 then 1 ≤ ev_dep f k else 2 ≤ ev_dep f k) ∧ ev_dep f n = 1
def ev_of (a b c : Int32) (f : Nat → Int32) (n : Nat) : Int32 := (ev_stk a b c f n).headD 0
theorem ev_dep_le (f : Nat → Int32) : ∀ k, ev_dep f k ≤ k
  | 0 => Nat.le_refl 0
  | k + 1 => by
    have := ev_dep_le f k
    unfold ev_dep
    split
    · omega
    · split <;> omega
theorem ev_len (a b c : Int32) {f : Nat → Int32} {n : Nat} (h : ev_wf f n) : ∀ k, k ≤ n → (ev_stk a b c f k).length = ev_dep f k
  | 0, _ => rfl
  | k + 1, hk => by
    have ih := ev_len a b c h k (by omega)
    have hw := h.2.1 k (by omega)
    unfold ev_stk ev_dep ev_step
    by_cases h1 : -3 ≤ f k
    · simp only [h1, if_true]; simp [ih]
    · rw [if_neg h1] at hw
      simp only [h1, if_false]
      by_cases h2 : f k = -33
      · rw [if_pos h2] at hw
        simp only [h2, if_true]
        cases hs : ev_stk a b c f k with
        | nil => rw [hs] at ih; simp at ih; omega
        | cons y r => rw [hs] at ih; simpa using ih
      · rw [if_neg h2] at hw
        simp only [h2, if_false]
        cases hs : ev_stk a b c f k with
        | nil => rw [hs] at ih; simp at ih; omega
        | cons y r =>
          cases r with
          | nil => rw [hs] at ih; simp at ih; omega
          | cons z r => rw [hs] at ih; simp at ih ⊢; omega
def p_last (ks : Nat → Int32) (key : Int32) : Nat → Int32
  | 0 => -1
  | n + 1 => if ks n = key then nI n else p_last ks key n
theorem p_last_or (ks : Nat → Int32) (key : Int32) : ∀ n, p_last ks key n = -1 ∨ ∃ t, t < n ∧ p_last ks key n = nI t ∧ ks t = key
  | 0 => Or.inl rfl
  | n + 1 => by
    unfold p_last
    split
    · next h => exact Or.inr ⟨n, by omega, rfl, h⟩
    · rcases p_last_or ks key n with h | ⟨t, h1, h2⟩
      · exact Or.inl h
      · exact Or.inr ⟨t, by omega, h2⟩
-- the laws that a world at w has
def p_laws (T : Nat → Nat → Option Nat) (K w n : Nat) (lw : Nat → Nat) : Prop := n ≤ 14 ∧ ∀ t, t < n → T (w + 2) t = some (122 + 2 * lw t) ∧ lw t < K
def p_keys (Λ : Nat → p_Lw) (lw : Nat → Nat) (t : Nat) : Int32 := (Λ (lw t)).1.1
def p_lg (Λ : Nat → p_Lw) (lw : Nat → Nat) (n : Nat) (key a b c d : Int32) : Int32 := if p_last (p_keys Λ lw) key n = -1 then d else ev_of a b c (Λ (lw (p_last (p_keys Λ lw) key n).toNatClampNeg)).2.2 (Λ (lw (p_last (p_keys Λ lw) key n).toNatClampNeg)).2.1
def p_held (v : Int32) : Int32 := if -99 < (if v < nI 99 then v else nI 99) then (if v < nI 99 then v else nI 99) else -99
theorem q_held (v : Int32) : fX8_held v = some (p_held v) := rfl
section WORLD
variable {K : Nat} {S I : Nat → Nat → Int32} {L : Nat → Nat → Int64} {T : Nat → Nat → Option Nat} {Λ : Nat → p_Lw}
theorem q_curveOf {w n : Nat} (hw : p_isW w) (hn : n ≤ 6) (h0 : S w 0 = nI n) {c : Nat} (hc : c < n) : fX7_curveOf w (nI c) (p_H K S I L T Λ) = some (some (w + 4 + 2 * c)) := by
  unfold fX7_curveOf
  simp only [gW_o hw, gW_0 hw, gW_1 hw, gW_2 hw, gW_3 hw, gW_4 hw, gW_5 hw, gW_p0 hw, gW_p1 hw, gW_p2 hw, p_lenF (pk_wc hw), p_lenR (pk_wl hw), p_lenI (pk_ws hw), Option.bind_some, e_on, h0, p_ldF (pk_wc hw) (show c < 6 by omega) (by decide), if_pos (show c < 6 by omega)]
  rw [if_neg (nI_pos (by omega)), if_neg (nI_ge hc (by omega)), if_pos (nI_lt (show c < 6 by omega) (by decide))]
theorem q_curveOf_no {w n : Nat} (hw : p_isW w) (hn : n ≤ 6) (h0 : S w 0 = nI n) {c : Int32} (hc : c < 0 ∨ nI n ≤ c) : fX7_curveOf w c (p_H K S I L T Λ) = some none := by
  unfold fX7_curveOf
  simp only [gW_o hw, gW_0 hw, gW_1 hw, gW_2 hw, gW_3 hw, gW_4 hw, gW_5 hw, gW_p0 hw, gW_p1 hw, gW_p2 hw, p_lenF (pk_wc hw), p_lenR (pk_wl hw), p_lenI (pk_ws hw), Option.bind_some, e_on, h0]
  by_cases h1 : c < 0
  · rw [if_pos h1]
  · rw [if_neg h1, if_pos (hc.resolve_left h1)]
theorem q_lawAt {w n : Nat} {lw : Nat → Nat} (hw : p_isW w) (hl : p_laws T K w n lw) (h1 : S w 1 = nI n) {t : Nat} (ht : t < n) : fX7_lawAt w (nI t) (p_H K S I L T Λ) = some (some (122 + 2 * lw t)) := by
  unfold fX7_lawAt
  have h14 := hl.1
  simp only [gW_o hw, gW_0 hw, gW_1 hw, gW_2 hw, gW_3 hw, gW_4 hw, gW_5 hw, gW_p0 hw, gW_p1 hw, gW_p2 hw, p_lenF (pk_wc hw), p_lenR (pk_wl hw), p_lenI (pk_ws hw), Option.bind_some, e_on, h1, p_ldR (pk_wl hw) (show t < 14 by omega) (by decide), (hl.2 t ht).1]
  rw [if_neg (nI_pos (by omega)), if_neg (nI_ge ht (by omega)), if_pos (nI_lt (show t < 14 by omega) (by decide))]
theorem q_lawAt_no {w n : Nat} (hw : p_isW w) (h1 : S w 1 = nI n) {c : Int32} (hc : c < 0 ∨ nI n ≤ c) : fX7_lawAt w c (p_H K S I L T Λ) = some none := by
  unfold fX7_lawAt
  simp only [gW_o hw, gW_0 hw, gW_1 hw, gW_2 hw, gW_3 hw, gW_4 hw, gW_5 hw, gW_p0 hw, gW_p1 hw, gW_p2 hw, p_lenF (pk_wc hw), p_lenR (pk_wl hw), p_lenI (pk_ws hw), Option.bind_some, e_on, h1]
  by_cases h1 : c < 0
  · rw [if_pos h1]
  · rw [if_neg h1, if_pos (hc.resolve_left h1)]
theorem lastLaw_go {w n : Nat} {lw : Nat → Nat} (hw : p_isW w) (hl : p_laws T K w n lw) (h1 : S w 1 = nI n) (key : Int32) : ∀ (t m : Nat), t ≤ n → fX7_lastLawOf_L7 (p_H K S I L T Λ) (t + 1 + m) w key (nI t - nI 1) = some (p_last (p_keys Λ lw) key t)
  | 0, m, ht => by
    rw [show 0 + 1 + m = m + 1 by omega]
    show fX7_lastLawOf_b7 _ _ _ _ _ = _
    unfold fX7_lastLawOf_b7
    rw [if_pos (by decide)]
    rfl
  | t + 1, m, ht => by
    rw [show t + 1 + 1 + m = (t + 1 + m) + 1 by omega, show nI (t + 1) - nI 1 = nI t from nI_pred t]
    show fX7_lastLawOf_b7 _ _ _ _ _ = _
    unfold fX7_lastLawOf_b7
    have h14 := hl.1
    rw [if_neg (nI_pos (by omega)), q_lawAt hw hl h1 (by omega)]
    simp only [Option.bind_some, e_on, gX_0 (hl.2 t (by omega)).2]
    unfold p_last
    by_cases hk : (Λ (lw t)).1.1 = key
    · rw [if_pos hk, if_pos (show p_keys Λ lw t = key from hk)]
    · rw [if_neg hk, if_neg (show ¬ p_keys Λ lw t = key from hk)]
      show fX7_lastLawOf_L7 _ _ _ _ (nI t + (-1 : Int32)) = _
      rw [show nI t + (-1 : Int32) = nI t - nI 1 from (Int32.sub_eq_add_neg _ _).symm]
      exact lastLaw_go hw hl h1 key t m (by omega)
theorem q_lastLawOf {w n : Nat} {lw : Nat → Nat} (hw : p_isW w) (hl : p_laws T K w n lw) (h1 : S w 1 = nI n) (key : Int32) : fX7_lastLawOf w key (p_H K S I L T Λ) = some (p_last (p_keys Λ lw) key n) := by
  unfold fX7_lastLawOf
  simp only [gW_o hw, gW_0 hw, gW_1 hw, gW_2 hw, gW_3 hw, gW_4 hw, gW_5 hw, gW_p0 hw, gW_p1 hw, gW_p2 hw, p_lenF (pk_wc hw), p_lenR (pk_wl hw), p_lenI (pk_ws hw), Option.bind_some, e_on, h1]
  have := lastLaw_go (S := S) (I := I) (L := L) (Λ := Λ) hw hl h1 key n (199 - n) (Nat.le_refl n)
  have h14 := hl.1
  rw [show n + 1 + (199 - n) = 200 by omega] at this
  exact this
theorem q_joined (o a b : Int32) : fX1_joined o a b = some (ev_two o a b) := by
  unfold fX1_joined ev_two
  repeat' split
  all_goals first | rfl | contradiction
end WORLD
