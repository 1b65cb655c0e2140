def p_rk (w : Int32) : Nat := if w = -1 then 1 else if w = -2 then 2 else if w < -5 then (if w < -7 then (if w < -9 then 6 else 5) else 4) else 3
theorem q9_rank (w : Int32) : fX9_rank w = some (nI (p_rk w)) := by
  unfold fX9_rank p_rk
  by_cases h1 : w = -1
  · rw [if_pos h1, if_pos h1]
  · rw [if_neg h1, if_neg h1]
    by_cases h2 : w = -2
    · rw [if_pos h2, if_pos h2]
    · rw [if_neg h2, if_neg h2]
      by_cases h3 : w < -5
      · rw [if_pos h3, if_pos h3]
        by_cases h4 : w < -7
        · rw [if_pos h4, if_pos h4]
          by_cases h5 : w < -9
          · rw [if_pos h5, if_pos h5]
          · rw [if_neg h5, if_neg h5]
        · rw [if_neg h4, if_neg h4]
      · rw [if_neg h3, if_neg h3]
theorem p_rk_le (w : Int32) : p_rk w ≤ 6 := by
  unfold p_rk
  repeat' split
  all_goals decide
def p_stl (r : Nat) : List Int32 → List Int32 → List Int32 × List Int32
  | [], D => ([], D)
  | w :: W, D => if w = -11 then (w :: W, D) else if p_rk w < r then (w :: W, D) else p_stl r W (w :: D)
def p_sh (b : Int32) : Int32 := if b = nI 38 then -2 else if b = nI 42 then -8 else if b = nI 43 then -6 else if b = nI 45 then -7 else if b = nI 47 then -9 else if b = nI 60 then -3 else if b = nI 61 then -4 else if b = nI 62 then -5 else if b = nI 124 then -1 else nI 0
def p_fI (I I' : Nat → Nat → Int32) : Prop := ∀ a, a ≠ 108 → a ≠ 109 → a ≠ 110 → I' a = I a
theorem p_fI.rf (I : Nat → Nat → Int32) : p_fI I I := fun _ _ _ _ => rfl
theorem p_fI.tr {I I' I'' : Nat → Nat → Int32} (h : p_fI I I') (h' : p_fI I' I'') : p_fI I I'' := fun a h1 h2 h3 => (h' a h1 h2 h3).trans (h a h1 h2 h3)
theorem p_fI.up {I I' : Nat → Nat → Int32} (h : p_fI I I') {k : Nat} (hk : k = 108 ∨ k = 109 ∨ k = 110) (f : Nat → Int32) : p_fI I (va_up I' k f) := fun a h1 h2 h3 => by
  rw [va_up_n (by omega)]
  exact h a h1 h2 h3
def p_cu (st : Nat → Int32) : Nat → Nat
  | 0 => 0
  | k + 1 => p_cu st k + if st k = -10 then 1 else 0
theorem p_cu_N {st : Nat → Int32} : ∀ W : List Int32, p_sk st W → p_cu st W.length = p_cN W
  | [], _ => rfl
  | w :: W, h => by
    obtain ⟨h1, h2⟩ := h.top
    show p_cu st W.length + (if st W.length = -10 then 1 else 0) = p_cN W + _
    rw [h1, p_cu_N W h2]
theorem p_cu_le (st : Nat → Int32) : ∀ k, p_cu st k ≤ k
  | 0 => Nat.le_refl 0
  | k + 1 => by
    have := p_cu_le st k
    unfold p_cu
    split <;> omega
section PART9
variable {K : Nat} {L : Nat → Nat → Int64} {T : Nat → Nat → Option Nat} {Λ : Nat → p_Lw}
variable {bt : Nat → Int32} {n ky : Nat}
theorem settle_go {r : Nat} (hr : r ≤ 6) {a : Nat} {τ : Nat → Bool} : ∀ (W D : List Int32) (m : Nat) (S I : Nat → Nat → Int32), D.length + W.length ≤ 96 → p_q9 bt n ky S I W D a τ → ∃ S' I', fX9_settle_L0 (W.length + 1 + m) 96 (nI r) (p_H K S I L T Λ) = some (p_H K S' I' L T Λ) ∧ p_q9 bt n ky S' I' (p_stl r W D).1 (p_stl r W D).2 a τ ∧ p_fk [23, 26] S S' ∧ p_fI I I'
  | [], D, m, S, I, hl, h => by
    refine ⟨S, I, ?_, h, p_fk.rf _ _, p_fI.rf _⟩
    rw [show ([] : List Int32).length + 1 + m = m + 1 by simp; omega]
    show fX9_settle_b0 _ _ _ _ = _
    unfold fX9_settle_b0
    rw [gM_26, Option.bind_some, h.2.2.2.2.2.2.1]
    rw [if_pos (by decide)]
  | w :: W, D, m, S, I, hl, h => by
    obtain ⟨h1, h2, h3, h4, h5, h6, h7, h8, h9⟩ := id h
    obtain ⟨t1, t2⟩ := h8.top
    have hl2 : D.length + (W.length + 1) ≤ 96 := hl
    rw [show (w :: W).length + 1 + m = (W.length + 1 + m) + 1 by simp; omega]
    show ∃ S' I', fX9_settle_b0 _ _ _ _ = _ ∧ _
    unfold fX9_settle_b0
    have e7 : S 96 26 = nI (W.length + 1) := h7
    simp only [gM_26, gM_25, Option.bind_some, e_on, e7]
    rw [if_neg (nI_nle (by omega) (by omega)), pk_sub (by omega), show W.length + 1 - 1 = W.length by omega, p_ldI pk_109 (by omega) (by decide), Option.bind_some, t1]
    unfold p_stl
    by_cases h11 : w = -11
    · rw [if_pos h11, if_pos h11]
      exact ⟨S, I, rfl, h, p_fk.rf _ _, p_fI.rf _⟩
    · rw [if_neg h11, if_neg h11, Option.bind_some, q9_rank, Option.bind_some]
      have h6w := p_rk_le w
      by_cases hk : p_rk w < r
      · rw [if_pos (nI_lt hk (by omega)), if_pos hk]
        exact ⟨S, I, rfl, h, p_fk.rf _ _, p_fI.rf _⟩
      · rw [if_neg (nI_nlt (by omega) (by omega)), if_neg hk]
        simp only [gM_p26, gM_22, gM_23, gM_25, gM_26, gM_p23, Option.bind_some, e_on, p_s_at, p_s_ne (show (23 : Nat) ≠ 26 by decide), h4, p_ldI pk_109 (show W.length < 96 by omega) (show 96 < 2 ^ 31 by decide), t1, p_stI pk_108 (show D.length < 96 by omega) (show 96 < 2 ^ 31 by decide), nI_s]
        obtain ⟨S', I', g1, g2, g3, g4⟩ := settle_go hr (a := a) (τ := τ) W (w :: D) m (p_s (p_s S 96 26 (nI W.length)) 96 23 (nI (D.length + 1))) (va_up I 108 (upd (I 108) D.length w)) (by simp; omega) ⟨by rw [p_s_ne (by decide), p_s_ne (by decide)]; exact h1, by rw [va_up_n (by decide)]; exact h2, by rw [p_s_ne (by decide), p_s_ne (by decide)]; exact h3, by rw [p_s_at]; rfl, by rw [va_up_s]; exact h5.push w, by rw [p_s_ne (by decide), p_s_ne (by decide)]; exact h6, by rw [p_s_ne (by decide), p_s_at], by rw [va_up_n (by decide)]; exact t2, fun i hi => by
          rw [va_up_n (by decide)]
          exact h9 i (by show i ≤ p_cO W + _; omega)⟩
        exact ⟨S', I', g1, g2, (((p_fk.rf _ S).put (by decide) _).put (by decide) _).tr g3, ((p_fI.rf I).up (Or.inl rfl) _).tr g4⟩
theorem q9_settle {r : Nat} (hr : r ≤ 6) {a : Nat} {τ : Nat → Bool} {W D : List Int32} {S I : Nat → Nat → Int32} (hl : D.length + W.length ≤ 96) (h : p_q9 bt n ky S I W D a τ) : ∃ S' I', fX9_settle 96 (nI r) (p_H K S I L T Λ) = some (p_H K S' I' L T Λ) ∧ p_q9 bt n ky S' I' (p_stl r W D).1 (p_stl r W D).2 a τ ∧ p_fk [23, 26] S S' ∧ p_fI I I' := by
  obtain ⟨S', I', g1, g2⟩ := settle_go (K := K) (L := L) (T := T) (Λ := Λ) hr W D (199 - W.length) S I hl h
  refine ⟨S', I', ?_, g2⟩
  unfold fX9_settle
  rw [gM_o, Option.bind_some, ← g1, show W.length + 1 + (199 - W.length) = 200 by omega]
theorem nots_go {a : Nat} {τ : Nat → Bool} {W D : List Int32} {S I : Nat → Nat → Int32} (hl : W.length ≤ 96) (h : p_q9 bt n ky S I W D a τ) : ∀ (d m k : Nat), k + d = W.length → fX9_notsOpen_L4 (p_H K S I L T Λ) (d + 1 + m) 96 (nI (p_cu (I 109) k)) (nI k) = some (nI (p_cu (I 109) W.length))
  | 0, m, k, hk => by
    rw [show 0 + 1 + m = m + 1 by omega]
    show fX9_notsOpen_b4 _ _ _ _ _ = _
    unfold fX9_notsOpen_b4
    rw [gM_26, Option.bind_some, h.2.2.2.2.2.2.1, if_pos (nI_le (by omega) (by omega)), show k = W.length by omega]
  | d + 1, m, k, hk => by
    rw [show d + 1 + 1 + m = (d + 1 + m) + 1 by omega, ← nots_go hl h d m (k + 1) (by omega)]
    show fX9_notsOpen_b4 _ _ _ _ _ = _
    unfold fX9_notsOpen_b4 fX9_notsOpen_b29
    simp only [gM_26, gM_25, Option.bind_some, e_on, h.2.2.2.2.2.2.1, p_ldI pk_109 (show k < 96 by omega) (show 96 < 2 ^ 31 by decide), nI_s]
    rw [if_neg (nI_ge (by omega) (by omega)), nI_add]
    show _ = fX9_notsOpen_L4 _ _ _ (nI (p_cu (I 109) k + if I 109 k = -10 then 1 else 0)) _
    split <;> rfl
theorem q9_nots {a : Nat} {τ : Nat → Bool} {W D : List Int32} {S I : Nat → Nat → Int32} (hl : W.length ≤ 96) (h : p_q9 bt n ky S I W D a τ) : fX9_notsOpen 96 (p_H K S I L T Λ) = some (nI (p_cN W)) := by
  unfold fX9_notsOpen
  rw [gM_o, Option.bind_some, ← p_cu_N W h.2.2.2.2.2.2.2.1, ← nots_go (K := K) (L := L) (T := T) (Λ := Λ) hl h W.length (199 - W.length) 0 (by omega), show W.length + 1 + (199 - W.length) = 200 by omega]
  rfl
theorem q9_sign {S I : Nat → Nat → Int32} {q : Nat} {e : Int32} (h : p_t9 bt n S q e) : fX9_signHere 96 (p_H K S I L T Λ) = some (if p_tkn bt n (p_skp bt n q) e = 3 then p_sh (p_by bt n (p_skp bt n q)) else nI 0) := by
  obtain ⟨h1, h2, h3, h4, h5⟩ := h
  have h7 : p_tkn bt n (p_skp bt n q) e < 2 ^ 31 := by
    unfold p_tkn
    repeat' split
    all_goals decide
  unfold fX9_signHere
  rw [gM_o, Option.bind_some, gM_16, Option.bind_some, h3]
  by_cases hk : p_tkn bt n (p_skp bt n q) e = 3
  · rw [if_pos (by rw [hk]), if_pos hk, gM_17, Option.bind_some]
    have hlt : p_skp bt n q < n := by
      unfold p_tkn at hk
      by_cases z : n ≤ p_skp bt n q
      · rw [if_pos z] at hk
        exact absurd hk (by decide)
      · omega
    have hv : p_tvl bt n (p_skp bt n q) = p_by bt n (p_skp bt n q) := by
      unfold p_tkn at hk
      rw [if_neg (by omega)] at hk
      unfold p_tvl
      cases hd : p_dig (p_by bt n (p_skp bt n q))
      · rw [if_neg (by decide)]
      · rw [hd] at hk
        revert hk
        repeat' split
        all_goals (intro z; first | exact absurd z (by decide) | skip)
        all_goals (first | (rename_i y; exact absurd rfl y) | skip)
    rw [h4 hlt, hv]
    unfold p_sh
    by_cases c1 : p_by bt n (p_skp bt n q) = nI 38
    · rw [if_pos c1, if_pos c1]
    · rw [if_neg c1, if_neg c1]
      by_cases c2 : p_by bt n (p_skp bt n q) = nI 42
      · rw [if_pos c2, if_pos c2]
      · rw [if_neg c2, if_neg c2]
        by_cases c3 : p_by bt n (p_skp bt n q) = nI 43
        · rw [if_pos c3, if_pos c3]
        · rw [if_neg c3, if_neg c3]
          by_cases c4 : p_by bt n (p_skp bt n q) = nI 45
          · rw [if_pos c4, if_pos c4]
          · rw [if_neg c4, if_neg c4]
            by_cases c5 : p_by bt n (p_skp bt n q) = nI 47
            · rw [if_pos c5, if_pos c5]
            · rw [if_neg c5, if_neg c5]
              by_cases c6 : p_by bt n (p_skp bt n q) = nI 60
              · rw [if_pos c6, if_pos c6]
              · rw [if_neg c6, if_neg c6]
                by_cases c7 : p_by bt n (p_skp bt n q) = nI 61
                · rw [if_pos c7, if_pos c7]
                · rw [if_neg c7, if_neg c7]
                  by_cases c8 : p_by bt n (p_skp bt n q) = nI 62
                  · rw [if_pos c8, if_pos c8]
                  · rw [if_neg c8, if_neg c8]
                    by_cases c9 : p_by bt n (p_skp bt n q) = nI 124
                    · rw [if_pos c9, if_pos c9]
                    · rw [if_neg c9, if_neg c9]
  · rw [if_neg (fun z => hk ((nI_eq h7 (by decide)).mp z)), if_neg hk]
theorem q9_nameOf {S I : Nat → Nat → Int32} (hk : ky ≤ 2) (h : S 96 19 = nI ky) (b : Int32) : fX9_nameOf 96 b (p_H K S I L T Λ) = some (p_nm ky b) := by
  unfold fX9_nameOf
  rw [gM_o, Option.bind_some, gM_19, Option.bind_some, h]
  rcases (show ky = 0 ∨ ky = 1 ∨ ky = 2 by omega) with rfl | rfl | rfl
  · rw [if_pos rfl]
    show _ = some (if b = nI 105 then nI 0 else if b = nI 106 then nI 1 else if b = nI 99 then nI 2 else -1)
    by_cases c1 : b = nI 105
    · rw [if_pos c1, if_pos c1]
    · rw [if_neg c1, if_neg c1]
      by_cases c2 : b = nI 106
      · rw [if_pos c2, if_pos c2]
      · rw [if_neg c2, if_neg c2]
        by_cases c3 : b = nI 99
        · rw [if_pos c3, if_pos c3]
        · rw [if_neg c3, if_neg c3]
  · rw [if_neg (show ¬ nI 1 = nI 0 by decide), if_pos rfl]
    show _ = some (if b = nI 116 then nI 0 else if b = nI 109 then nI 1 else -1)
    by_cases c1 : b = nI 116
    · rw [if_pos c1, if_pos c1]
    · rw [if_neg c1, if_neg c1]
      by_cases c2 : b = nI 109
      · rw [if_pos c2, if_pos c2]
      · rw [if_neg c2, if_neg c2]
  · rw [if_neg (show ¬ nI 2 = nI 0 by decide), if_neg (show ¬ nI 2 = nI 1 by decide)]
    show _ = some (if b = nI 120 then nI 0 else if b = nI 121 then nI 1 else if b = nI 109 then nI 2 else -1)
    by_cases c1 : b = nI 120
    · rw [if_pos c1, if_pos c1]
    · rw [if_neg c1, if_neg c1]
      by_cases c2 : b = nI 121
      · rw [if_pos c2, if_pos c2]
      · rw [if_neg c2, if_neg c2]
        by_cases c3 : b = nI 109
        · rw [if_pos c3, if_pos c3]
        · rw [if_neg c3, if_neg c3]
end PART9
