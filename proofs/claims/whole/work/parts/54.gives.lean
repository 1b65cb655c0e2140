def p_sk (st : Nat → Int32) (s : List Int32) : Prop := ∀ i, i < s.length → s[i]? = some (st (s.length - 1 - i))
theorem p_sk.push {st : Nat → Int32} {s : List Int32} (h : p_sk st s) (x : Int32) : p_sk (upd st s.length x) (x :: s) := by
  intro i hi
  cases i with
  | zero => simp [upd]
  | succ i =>
    simp only [List.length_cons] at hi
    rw [List.getElem?_cons_succ, h i (by omega)]
    simp only [upd, List.length_cons]
    rw [if_neg (by omega), show s.length + 1 - 1 - (i + 1) = s.length - 1 - i by omega]
theorem p_sk.top {st : Nat → Int32} {y : Int32} {r : List Int32} (h : p_sk st (y :: r)) : st r.length = y ∧ p_sk st r := by
  constructor
  · have := h 0 (by simp)
    simp at this
    exact this.symm
  · intro i hi
    have := h (i + 1) (by simp; omega)
    rw [List.getElem?_cons_succ] at this
    rw [this]
    simp only [List.length_cons]
    rw [show r.length + 1 - 1 - (i + 1) = r.length - 1 - i by omega]
theorem p_upd_n {st : Nat → Int32} {k j : Nat} (h : j ≠ k) {x : Int32} : upd st k x j = st j := by simp [upd, h]
theorem p_sk.upd {st : Nat → Int32} {r : List Int32} (h : p_sk st r) {k : Nat} (hk : r.length ≤ k) (x : Int32) : p_sk (upd st k x) r := by
  intro i hi
  rw [h i hi]
  rw [p_upd_n (by omega)]
theorem i32_nlt {x y : Int32} (h : x ≤ y) : ¬ y < x := Int32.not_lt.mpr h
theorem i32_lt {x y : Int32} (h : ¬ x ≤ y) : y < x := Int32.not_le.mp h
section GIVES
variable {K : Nat} {S I : Nat → Nat → Int32} {L : Nat → Nat → Int64} {T : Nat → Nat → Option Nat} {Λ : Nat → p_Lw}
set_option maxHeartbeats 1000000 in
theorem gives_go {q sa : Nat} (hq : q < K) (hs : p_ia 0 96 sa) (hw : ev_wf (Λ q).2.2 (Λ q).2.1) (a b c : Int32) : ∀ (d m k : Nat) (st : Nat → Int32), k + d = (Λ q).2.1 → p_sk st (ev_stk a b c (Λ q).2.2 k) →
    ∃ st', fX1_gives_L6 (d + 1 + m) (122 + 2 * q) a b c sa (nI (ev_dep (Λ q).2.2 k)) (nI k) (p_H K S (va_up I sa st) L T Λ) = some (ev_of a b c (Λ q).2.2 (Λ q).2.1, (p_H K S (va_up I sa st') L T Λ))
  | 0, m, k, st, hk, hsk => by
    refine ⟨st, ?_⟩
    rw [show 0 + 1 + m = m + 1 by omega]
    show fX1_gives_b6 _ _ _ _ _ _ _ _ _ = _
    unfold fX1_gives_b6
    have hkl : k = (Λ q).2.1 := by omega
    have h96 := hw.1
    simp only [gX_2 hq, gX_l hq, Option.bind_some, e_on, p_lenI hs]
    rw [if_pos (nI_le (by omega) (by omega)), hkl, hw.2.2, if_pos rfl, if_neg (by decide), p_ldI hs (by decide) (by decide), Option.bind_some, va_up_s]
    have hlen := ev_len a b c hw (Λ q).2.1 (Nat.le_refl _)
    rw [hw.2.2] at hlen
    rw [hkl] at hsk
    unfold ev_of
    have h0 := hsk 0 (by omega)
    rw [hlen] at h0
    cases hst : ev_stk a b c (Λ q).2.2 (Λ q).2.1 with
    | nil => rw [hst] at hlen; simp at hlen
    | cons y r => rw [hst] at h0; simp at h0; rw [← h0]; rfl
  | d + 1, m, k, st, hk, hsk => by
    have h96 := hw.1
    have hwk := hw.2.1 k (by omega)
    have hlen := ev_len a b c hw k (by omega)
    have hdk := ev_dep_le (Λ q).2.2 k
    rw [show d + 1 + 1 + m = (d + 1 + m) + 1 by omega]
    have ih := gives_go hq hs hw a b c d m (k + 1)
    unfold ev_stk ev_dep ev_step at ih
    show ∃ st', fX1_gives_b6 _ _ _ _ _ _ _ _ _ = _
    unfold fX1_gives_b6
    simp only [gX_2 hq, gX_l hq, Option.bind_some, e_on, p_lenI hs, gX_i hq (show k < (Λ q).2.1 by omega) (by omega)]
    rw [if_neg (nI_ge (by omega) (by omega))]
    by_cases h1 : -3 ≤ (Λ q).2.2 k
    · simp only [h1, if_true] at ih
      rw [if_neg (i32_nlt h1), if_pos (nI_lt (by omega) (by decide))]
      have go : ∀ x, x = ev_arg a b c ((Λ q).2.2 k) → ∃ st', fX1_gives_b78 (fX1_gives_L6 (d + 1 + m)) (122 + 2 * q) a b c sa (nI (ev_dep (Λ q).2.2 k)) (nI k) x (nI (ev_dep (Λ q).2.2 k)) sa (p_H K S (va_up I sa st) L T Λ) = some (ev_of a b c (Λ q).2.2 (Λ q).2.1, (p_H K S (va_up I sa st') L T Λ)) := by
        intro x hx
        unfold fX1_gives_b78 fX1_gives_b177
        rw [p_stI hs (by omega) (by decide), Option.bind_some, va_up_up, va_up_s, nI_s, nI_s, ← hlen]
        rw [← hlen] at ih
        rw [hx]
        exact ih _ (by omega) (hsk.push _)
      by_cases h2 : (Λ q).2.2 k < 0
      · rw [if_pos h2]
        by_cases h3 : (Λ q).2.2 k = -1
        · rw [if_pos h3]; exact go _ (by rw [h3]; rfl)
        · rw [if_neg h3]
          by_cases h4 : (Λ q).2.2 k = -2
          · rw [if_pos h4]; exact go _ (by rw [h4]; rfl)
          · rw [if_neg h4]
            exact go _ (by unfold ev_arg; rw [if_neg (Int32.not_le.mpr h2), if_neg h3, if_neg h4])
      · rw [if_neg h2]
        exact go _ (by unfold ev_arg; rw [if_pos (Int32.not_lt.mp h2)])
    · simp only [h1, if_false] at ih hwk
      rw [if_pos (i32_lt h1)]
      by_cases h2 : (Λ q).2.2 k = -33
      · simp only [h2, if_true] at ih hwk
        rw [if_pos h2, if_neg (nI_nlt hwk (by omega)), if_pos (nI_le (by omega) (by decide))]
        have hp : nI (ev_dep (Λ q).2.2 k) - nI 1 = nI (ev_dep (Λ q).2.2 k - 1) := pk_sub (b := 1) hwk
        rw [hp, p_ldI hs (by omega) (by decide), Option.bind_some, va_up_s]
        cases hst : ev_stk a b c (Λ q).2.2 k with
        | nil => rw [hst] at hlen; simp at hlen; omega
        | cons y r =>
          rw [hst] at hsk hlen ih
          simp only [List.length_cons] at hlen
          obtain ⟨ht, hr⟩ := hsk.top
          have hd1 : ev_dep (Λ q).2.2 k - 1 = r.length := by omega
          rw [hd1, ht]
          unfold fX1_gives_b129 fX1_gives_b177
          simp only [p_stI hs (show r.length < 96 by omega) (by decide), Option.bind_some, e_on, va_up_up, va_up_s, nI_s]
          by_cases h5 : y = 0
          · simp only [h5, if_true] at ih ⊢
            exact ih _ (by omega) ((hr).push _)
          · simp only [h5, if_false] at ih ⊢
            exact ih _ (by omega) ((hr).push _)
      · simp only [h2, if_false] at ih hwk
        rw [if_neg h2, if_neg (nI_nlt hwk (by omega)), if_pos (nI_le (by omega) (by decide))]
        have hp : nI (ev_dep (Λ q).2.2 k) + (-1 : Int32) = nI (ev_dep (Λ q).2.2 k - 1) := by rw [← Int32.sub_eq_add_neg]; exact pk_sub (b := 1) (by omega)
        have hp2 : nI (ev_dep (Λ q).2.2 k - 1) - nI 1 = nI (ev_dep (Λ q).2.2 k - 2) := pk_sub (b := 1) (by omega)
        rw [hp, hp2, p_ldI hs (by omega) (by decide), Option.bind_some, p_ldI hs (by omega) (by decide), Option.bind_some, va_up_s, q_joined, Option.bind_some, p_stI hs (by omega) (by decide), Option.bind_some, va_up_up, va_up_s]
        unfold fX1_gives_b177
        cases hst : ev_stk a b c (Λ q).2.2 k with
        | nil => rw [hst] at hlen; simp at hlen; omega
        | cons y r =>
          cases r with
          | nil => rw [hst] at hlen; simp at hlen; omega
          | cons z r =>
            rw [hst] at hsk hlen ih
            simp only [List.length_cons] at hlen
            obtain ⟨ht, hr⟩ := hsk.top
            obtain ⟨ht2, hr2⟩ := hr.top
            simp only [List.length_cons] at ht
            rw [show ev_dep (Λ q).2.2 k - 1 = r.length + 1 by omega, show ev_dep (Λ q).2.2 k - 2 = r.length by omega, ht, ht2, nI_s]
            rw [show ev_dep (Λ q).2.2 k - 1 = r.length + 1 by omega] at ih
            exact ih _ (by omega) (hr2.push _)
theorem q_gives {q sa : Nat} (hq : q < K) (hs : p_ia 0 96 sa) (hw : ev_wf (Λ q).2.2 (Λ q).2.1) (a b c : Int32) : ∃ st', fX1_gives (122 + 2 * q) a b c sa (p_H K S I L T Λ) = some (ev_of a b c (Λ q).2.2 (Λ q).2.1, (p_H K S (va_up I sa st') L T Λ)) := by
  unfold fX1_gives
  rw [gX_o hq, Option.bind_some]
  have h96 := hw.1
  obtain ⟨st', h⟩ := gives_go (S := S) (I := I) (L := L) (T := T) hq hs hw a b c (Λ q).2.1 (199 - (Λ q).2.1) 0 (I sa) (by omega) (fun i hi => by simp [ev_stk] at hi)
  rw [show va_up I sa (I sa) = I from p_up_id _ _, show (Λ q).2.1 + 1 + (199 - (Λ q).2.1) = 200 by omega] at h
  exact ⟨st', h⟩
def p_lwf (Λ : Nat → p_Lw) (lw : Nat → Nat) (n : Nat) : Prop := ∀ t, t < n → ev_wf (Λ (lw t)).2.2 (Λ (lw t)).2.1
theorem q_lawGives {w n : Nat} {lw : Nat → Nat} (hw : p_isW w) (hl : p_laws T K w n lw) (h1 : S w 1 = nI n) (hf : p_lwf Λ lw n) (key a b c d : Int32) : ∃ st', fX7_lawGives w key a b c d (p_H K S I L T Λ) = some (p_lg Λ lw n key a b c d, (p_H K S (va_up I (w + 3) st') L T Λ)) := by
  unfold fX7_lawGives p_lg
  have h14 := hl.1
  simp only [gW_o hw, gW_0 hw, gW_1 hw, gW_2 hw, gW_3 hw, gW_4 hw, gW_5 hw, gW_p0 hw, gW_p1 hw, gW_p2 hw, p_lenF (pk_wc hw), p_lenR (pk_wl hw), p_lenI (pk_ws hw), Option.bind_some, e_on, q_lastLawOf hw hl h1]
  rcases p_last_or (p_keys Λ lw) key n with h | ⟨t, ht, h, -⟩
  · rw [h, q_lawAt_no hw h1 (Or.inl (by decide)), Option.bind_some, if_pos rfl]
    exact ⟨I (w + 3), by rw [show va_up I (w + 3) (I (w + 3)) = I from p_up_id _ _]⟩
  · rw [h, q_lawAt hw hl h1 ht, Option.bind_some, if_neg (by rw [← show nI 0 - 1 = (-1 : Int32) from rfl]; intro z; exact nI_pos (n := t) (by omega) (by rw [z]; decide)), nI_clamp (by omega)]
    obtain ⟨st', hg⟩ := q_gives (S := S) (I := I) (L := L) (T := T) (hl.2 t ht).2 (pk_ws hw) (hf t ht) a b c
    exact ⟨st', by simp only [hg, Option.bind_some]⟩
end GIVES
