-- a text's words as the reference keeps them
def p_c9 (x : Int32) : Int32 := if 0 ≤ x then x else if x = -1 then nI 10000 else if x = -2 then nI 10001 else if x = -3 then nI 10002 else if x = -33 then -10 else if x = -124 then -1 else if x = -38 then -2 else if x = -60 then -3 else if x = -61 then -4 else if x = -62 then -5 else if x = -43 then -6 else if x = -45 then -7 else if x = -42 then -8 else -9
def p_okc (k : Nat) (x : Int32) : Prop := (∃ n, n < 10000 ∧ x = nI n) ∨ x = -1 ∨ x = -2 ∨ (x = -3 ∧ k ≠ 1) ∨ x = -33 ∨ x = -124 ∨ x = -38 ∨ x = -60 ∨ x = -61 ∨ x = -62 ∨ x = -43 ∨ x = -45 ∨ x = -42 ∨ x = -47
def p_txt (A : Nat → Int32) (p : p_Lw) (t : Nat) : Prop := ∃ k, k ≤ 2 ∧ p.1.1 = nI k ∧ A (99 + 2 * t) = nI (1000 * k + p.2.1) ∧ A (100 + 2 * t) = p.1.2 ∧ ∀ i, i < p.2.1 → A (127 + 96 * t + i) = p_c9 (p.2.2 i) ∧ p_okc k (p.2.2 i)
def p_rt (A : Nat → Int32) (Λ : Nat → p_Lw) (lw : Nat → Nat) (n : Nat) : Prop := ∀ t, t < n → p_txt A (Λ (lw t)) t
theorem c9_two {k : Nat} {x : Int32} (h : p_okc k x) (h3 : ¬ -3 ≤ x) (h33 : ¬ x = -33) (a b : Int32) : p_c9 x < 0 ∧ p_c9 x ≠ -10 ∧ fX9_two (p_c9 x) a b = some (ev_two (-x) a b) := by
  rcases h with ⟨n, hn, rfl⟩ | rfl | rfl | ⟨rfl, -⟩ | rfl | rfl | rfl | rfl | rfl | rfl | rfl | rfl | rfl | rfl
  · exact absurd (Int32.le_trans (show (-3 : Int32) ≤ 0 by decide) (nI_pos' (by omega))) h3
  · exact absurd (by decide) h3
  · exact absurd (by decide) h3
  · exact absurd (by decide) h3
  · exact absurd rfl h33
  all_goals refine ⟨by decide, by decide, ?_⟩
  · show fX9_two (-1) a b = some (ev_two (nI 124) a b)
    unfold fX9_two ev_two
    simp only [show ¬ ((-1 : Int32) = -8) by decide, show ¬ ((-1 : Int32) = -7) by decide, show ¬ ((-1 : Int32) = -6) by decide, show ¬ ((-1 : Int32) = -5) by decide, show ¬ ((-1 : Int32) = -4) by decide, show ¬ ((-1 : Int32) = -3) by decide, show ¬ ((-1 : Int32) = -2) by decide, show ¬ (nI 124 = nI 38) by decide, show ¬ (nI 124 = nI 42) by decide, show ¬ (nI 124 = nI 43) by decide, show ¬ (nI 124 = nI 45) by decide, show ¬ (nI 124 = nI 47) by decide, show ¬ (nI 124 = nI 60) by decide, show ¬ (nI 124 = nI 61) by decide, show ¬ (nI 124 = nI 62) by decide, if_false, if_true]
    repeat' split
    all_goals first | rfl | contradiction
  · show fX9_two (-2) a b = some (ev_two (nI 38) a b)
    unfold fX9_two ev_two
    simp only [show ¬ ((-2 : Int32) = -8) by decide, show ¬ ((-2 : Int32) = -7) by decide, show ¬ ((-2 : Int32) = -6) by decide, show ¬ ((-2 : Int32) = -5) by decide, show ¬ ((-2 : Int32) = -4) by decide, show ¬ ((-2 : Int32) = -3) by decide, if_false, if_true]
    repeat' split
    all_goals first | rfl | contradiction
  · show fX9_two (-3) a b = some (ev_two (nI 60) a b)
    unfold fX9_two ev_two
    simp only [show ¬ ((-3 : Int32) = -8) by decide, show ¬ ((-3 : Int32) = -7) by decide, show ¬ ((-3 : Int32) = -6) by decide, show ¬ ((-3 : Int32) = -5) by decide, show ¬ ((-3 : Int32) = -4) by decide, show ¬ (nI 60 = nI 38) by decide, show ¬ (nI 60 = nI 42) by decide, show ¬ (nI 60 = nI 43) by decide, show ¬ (nI 60 = nI 45) by decide, show ¬ (nI 60 = nI 47) by decide, if_false, if_true]
    repeat' split
    all_goals first | rfl | contradiction
  · show fX9_two (-4) a b = some (ev_two (nI 61) a b)
    unfold fX9_two ev_two
    simp only [show ¬ ((-4 : Int32) = -8) by decide, show ¬ ((-4 : Int32) = -7) by decide, show ¬ ((-4 : Int32) = -6) by decide, show ¬ ((-4 : Int32) = -5) by decide, show ¬ (nI 61 = nI 38) by decide, show ¬ (nI 61 = nI 42) by decide, show ¬ (nI 61 = nI 43) by decide, show ¬ (nI 61 = nI 45) by decide, show ¬ (nI 61 = nI 47) by decide, show ¬ (nI 61 = nI 60) by decide, if_false, if_true]
    repeat' split
    all_goals first | rfl | contradiction
  · show fX9_two (-5) a b = some (ev_two (nI 62) a b)
    unfold fX9_two ev_two
    simp only [show ¬ ((-5 : Int32) = -8) by decide, show ¬ ((-5 : Int32) = -7) by decide, show ¬ ((-5 : Int32) = -6) by decide, show ¬ (nI 62 = nI 38) by decide, show ¬ (nI 62 = nI 42) by decide, show ¬ (nI 62 = nI 43) by decide, show ¬ (nI 62 = nI 45) by decide, show ¬ (nI 62 = nI 47) by decide, show ¬ (nI 62 = nI 60) by decide, show ¬ (nI 62 = nI 61) by decide, if_false, if_true]
    repeat' split
    all_goals first | rfl | contradiction
  · rfl
  · rfl
  · rfl
  · show fX9_two (-9) a b = some (ev_two (nI 47) a b)
    unfold fX9_two ev_two
    simp only [show ¬ ((-9 : Int32) = -8) by decide, show ¬ ((-9 : Int32) = -7) by decide, show ¬ ((-9 : Int32) = -6) by decide, show ¬ ((-9 : Int32) = -5) by decide, show ¬ ((-9 : Int32) = -4) by decide, show ¬ ((-9 : Int32) = -3) by decide, show ¬ ((-9 : Int32) = -2) by decide, show ¬ ((-9 : Int32) = -1) by decide, show ¬ (nI 47 = nI 38) by decide, show ¬ (nI 47 = nI 42) by decide, show ¬ (nI 47 = nI 43) by decide, show ¬ (nI 47 = nI 45) by decide, if_false, if_true]
    by_cases h : b = 0
    · simp [h]
    · simp [h]
theorem c9_leaf {k : Nat} {x : Int32} (h : p_okc k x) (h3 : -3 ≤ x) : (∃ n, n < 10000 ∧ x = nI n ∧ p_c9 x = nI n) ∨ ∃ i, i < 3 ∧ p_c9 x = nI (10000 + i) ∧ ∀ a b c, ev_arg a b c x = if i = 0 then a else if i = 1 then b else c := by
  rcases h with ⟨n, hn, rfl⟩ | rfl | rfl | ⟨rfl, -⟩ | rfl | rfl | rfl | rfl | rfl | rfl | rfl | rfl | rfl | rfl
  · exact Or.inl ⟨n, hn, rfl, by unfold p_c9; rw [if_pos (nI_pos' (by omega))]⟩
  · exact Or.inr ⟨0, by decide, by decide, fun _ _ _ => rfl⟩
  · exact Or.inr ⟨1, by decide, by decide, fun _ _ _ => rfl⟩
  · exact Or.inr ⟨2, by decide, by decide, fun _ _ _ => rfl⟩
  all_goals exact absurd h3 (by decide)
section LAW9
variable {K : Nat} {S I : Nat → Nat → Int32} {L : Nat → Nat → Int64} {T : Nat → Nat → Option Nat} {Λ : Nat → p_Lw}
theorem q9_two_ix (t : Nat) : nI 99 + nI 2 * nI t = nI (99 + 2 * t) := by rw [nI_mul, nI_add]
theorem counts_go {n : Nat} {lw : Nat → Nat} (hn : n ≤ 14) (hr : p_rt (I 97) Λ lw n) (hf : p_lwf Λ lw n) {key : Nat} (hk : key ≤ 2) : ∀ (t m : Nat), t ≤ n → fX9_counts_L9 (p_H K S I L T Λ) (t + 1 + m) 96 (nI key) (nI t - nI 1) = some (p_last (p_keys Λ lw) (nI key) t)
  | 0, m, ht => by
    rw [show 0 + 1 + m = m + 1 by omega]
    show fX9_counts_b9 _ _ _ _ _ = _
    unfold fX9_counts_b9
    rw [if_pos (by decide)]
    rfl
  | t + 1, m, ht => by
    rw [show t + 1 + 1 + m = (t + 1 + m) + 1 by omega, show nI (t + 1) - nI 1 = nI t from nI_pred t]
    show fX9_counts_b9 _ _ _ _ _ = _
    unfold fX9_counts_b9
    obtain ⟨k, h1, h2, h3, -⟩ := hr t (by omega)
    have h96 := (hf t (by omega)).1
    simp only [gM_o, gM_0, gM_1, gM_2, gM_3, gM_4, gM_5, gM_6, gM_7, gM_8, gM_9, gM_10, gM_11, gM_12, gM_13, gM_14, gM_15, gM_16, gM_17, gM_18, gM_19, gM_20, gM_21, gM_22, gM_23, gM_24, gM_25, gM_26, gM_27, gM_28, gM_29, gM_30, gM_31, gM_32, gM_33, gM_34, gM_35, gM_36, gM_37, gM_38, gM_39, gM_p3, gM_p7, gM_p8, gM_p9, gM_p13, gM_p14, gM_p15, gM_p16, gM_p17, gM_p18, gM_p19, gM_p23, gM_p24, gM_p26, gM_p39, Option.bind_some, e_on, q9_two_ix, p_ldI pk_97 (show 99 + 2 * t < 1471 by omega) (by decide), h3, nI_div (show 1000 * k + (Λ (lw t)).2.1 < 2 ^ 31 by omega) (show 1000 < 2 ^ 31 by decide)]
    rw [if_neg (nI_pos (by omega)), show (1000 * k + (Λ (lw t)).2.1) / 1000 = k by omega, show nI t + (-1 : Int32) = nI t - nI 1 from (Int32.sub_eq_add_neg _ _).symm]
    unfold p_last
    by_cases e : nI k = nI key
    · rw [if_pos e, if_pos (show p_keys Λ lw t = nI key from h2.trans e)]
    · rw [if_neg e, if_neg (show ¬ p_keys Λ lw t = nI key from fun z => e (h2.symm.trans z))]
      exact counts_go hn hr hf hk t m (by omega)
theorem q9_counts {n : Nat} {lw : Nat → Nat} (hn : n ≤ 14) (h2 : I 97 2 = nI n) (hr : p_rt (I 97) Λ lw n) (hf : p_lwf Λ lw n) {key : Nat} (hk : key ≤ 2) : fX9_counts 96 (nI key) (p_H K S I L T Λ) = some (p_last (p_keys Λ lw) (nI key) n) := by
  unfold fX9_counts
  simp only [gM_o, gM_0, gM_1, gM_2, gM_3, gM_4, gM_5, gM_6, gM_7, gM_8, gM_9, gM_10, gM_11, gM_12, gM_13, gM_14, gM_15, gM_16, gM_17, gM_18, gM_19, gM_20, gM_21, gM_22, gM_23, gM_24, gM_25, gM_26, gM_27, gM_28, gM_29, gM_30, gM_31, gM_32, gM_33, gM_34, gM_35, gM_36, gM_37, gM_38, gM_39, gM_p3, gM_p7, gM_p8, gM_p9, gM_p13, gM_p14, gM_p15, gM_p16, gM_p17, gM_p18, gM_p19, gM_p23, gM_p24, gM_p26, gM_p39, Option.bind_some, e_on, p_ldI pk_97 (show 2 < 1471 by omega) (by decide), h2]
  have := counts_go (S := S) (L := L) (T := T) (K := K) hn hr hf hk n (199 - n) (Nat.le_refl n)
  rw [show n + 1 + (199 - n) = 200 by omega] at this
  exact this
set_option maxHeartbeats 1000000 in
theorem works_go {p : p_Lw} {t : Nat} (ht : t < 14) (hx : p_txt (I 97) p t) (hw : ev_wf p.2.2 p.2.1) : ∀ (d m k : Nat) (st : Nat → Int32), k + d = p.2.1 → p_sk st (ev_stk (I 112 0) (I 112 1) (I 112 2) p.2.2 k) →
    ∃ st', fX9_worksOut_L21 (d + 1 + m) 96 (nI t) (nI (ev_dep p.2.2 k)) (nI p.2.1) (nI k) (p_H K S (va_up I 111 st) L T Λ) = some (ev_of (I 112 0) (I 112 1) (I 112 2) p.2.2 p.2.1, (p_H K S (va_up I 111 st') L T Λ))
  | 0, m, k, st, hk, hsk => by
    refine ⟨st, ?_⟩
    rw [show 0 + 1 + m = m + 1 by omega]
    show fX9_worksOut_b21 _ _ _ _ _ _ _ = _
    unfold fX9_worksOut_b21
    have hkl : k = p.2.1 := by omega
    have h96 := hw.1
    rw [if_pos (nI_le (by omega) (by omega)), gM_28, Option.bind_some]
    simp only [e_on]
    rw [p_ldI pk_111 (by decide) (by decide), Option.bind_some, va_up_s]
    have hlen := ev_len (I 112 0) (I 112 1) (I 112 2) hw p.2.1 (Nat.le_refl _)
    rw [hw.2.2] at hlen
    rw [hkl] at hsk
    unfold ev_of
    have h0 := hsk 0 (by omega)
    rw [hlen] at h0
    cases hst : ev_stk (I 112 0) (I 112 1) (I 112 2) p.2.2 p.2.1 with
    | nil => rw [hst] at hlen; simp at hlen
    | cons y r => rw [hst] at h0; simp at h0; rw [← h0]; rfl
  | d + 1, m, k, st, hk, hsk => by
    have h96 := hw.1
    have hwk := hw.2.1 k (by omega)
    have hlen := ev_len (I 112 0) (I 112 1) (I 112 2) hw k (by omega)
    have hdk := ev_dep_le p.2.2 k
    rw [show d + 1 + 1 + m = (d + 1 + m) + 1 by omega]
    have ih := works_go ht hx hw d m (k + 1)
    unfold ev_stk ev_dep ev_step at ih
    obtain ⟨ky, hk2, -, -, -, hcode⟩ := hx
    obtain ⟨hc1, hc2⟩ := hcode k (by omega)
    have e97 : (va_up I 111 st) 97 = I 97 := va_up_n (by decide)
    have e112 : (va_up I 111 st) 112 = I 112 := va_up_n (by decide)
    show ∃ st', fX9_worksOut_b21 _ _ _ _ _ _ _ = _
    unfold fX9_worksOut_b21
    rw [if_neg (nI_ge (by omega) (by omega)), gM_0, Option.bind_some]
    simp only [e_on]
    rw [nI_mul, nI_add, nI_add, p_ldI pk_97 (by omega) (by decide), Option.bind_some, e97, hc1]
    simp only [gM_28, gM_29, Option.bind_some, e_on]
    by_cases h1 : -3 ≤ p.2.2 k
    · simp only [h1, if_true] at ih
      have go : ∀ x, x = ev_arg (I 112 0) (I 112 1) (I 112 2) (p.2.2 k) → ∃ st', fX9_worksOut_b78x1 (fX9_worksOut_L21 (d + 1 + m)) 96 (nI t) (nI (ev_dep p.2.2 k)) (nI p.2.1) (nI k) x (nI (ev_dep p.2.2 k)) 111 (p_H K S (va_up I 111 st) L T Λ) = some (ev_of (I 112 0) (I 112 1) (I 112 2) p.2.2 p.2.1, (p_H K S (va_up I 111 st') L T Λ)) := by
        intro x hx
        unfold fX9_worksOut_b78x1 fX9_worksOut_b149
        rw [p_stI pk_111 (by omega) (by decide), Option.bind_some, va_up_up, va_up_s, nI_s, nI_s, ← hlen]
        rw [← hlen] at ih
        rw [hx]
        exact ih _ (by omega) (hsk.push _)
      rcases c9_leaf hc2 h1 with ⟨n, hn, e1, e2⟩ | ⟨i, hi, e1, e2⟩
      · rw [e2, if_neg (nI_pos (by omega)), if_neg (nI_ge (by omega) (by decide))]
        exact go _ (by rw [e1]; unfold ev_arg; rw [if_pos (nI_pos' (by omega))])
      · rw [e1, if_neg (nI_pos (by omega)), if_pos (nI_le (by omega) (by omega)), pk_sub (by omega), show 10000 + i - 10000 = i by omega, p_ldI pk_112 (by omega) (by decide), Option.bind_some, e112]
        refine go _ ?_
        rw [e2]
        rcases (show i = 0 ∨ i = 1 ∨ i = 2 by omega) with rfl | rfl | rfl <;> rfl
    · simp only [h1, if_false] at ih hwk
      by_cases h2 : p.2.2 k = -33
      · simp only [h2, if_true] at ih hwk
        rw [show p_c9 (p.2.2 k) = -10 by rw [h2]; decide, if_pos (by decide), if_pos rfl]
        have hp : nI (ev_dep p.2.2 k) - nI 1 = nI (ev_dep p.2.2 k - 1) := pk_sub (b := 1) hwk
        rw [hp, p_ldI pk_111 (by omega) (by decide), Option.bind_some, va_up_s]
        cases hst : ev_stk (I 112 0) (I 112 1) (I 112 2) p.2.2 k with
        | nil => rw [hst] at hlen; simp at hlen; omega
        | cons y r =>
          rw [hst] at hsk hlen ih
          simp only [List.length_cons] at hlen
          obtain ⟨hy, hr⟩ := hsk.top
          have hd1 : ev_dep p.2.2 k - 1 = r.length := by omega
          rw [hd1, hy]
          unfold fX9_worksOut_b115x1 fX9_worksOut_b149
          simp only [p_stI pk_111 (show r.length < 96 by omega) (by decide), Option.bind_some, e_on, va_up_up, va_up_s, nI_s]
          by_cases h5 : y = 0
          · simp only [h5, if_true] at ih ⊢
            exact ih _ (by omega) ((hr).push _)
          · simp only [h5, if_false] at ih ⊢
            exact ih _ (by omega) ((hr).push _)
      · simp only [h2, if_false] at ih hwk
        have hp : nI (ev_dep p.2.2 k) + (-1 : Int32) = nI (ev_dep p.2.2 k - 1) := by rw [← Int32.sub_eq_add_neg]; exact pk_sub (b := 1) (by omega)
        have hp2 : nI (ev_dep p.2.2 k - 1) - nI 1 = nI (ev_dep p.2.2 k - 2) := pk_sub (b := 1) (by omega)
        have h9 := fun a b => c9_two hc2 h1 h2 a b
        rw [if_pos (h9 0 0).1, if_neg (h9 0 0).2.1, hp, hp2, p_ldI pk_111 (by omega) (by decide), Option.bind_some, p_ldI pk_111 (by omega) (by decide), Option.bind_some, va_up_s, (h9 _ _).2.2, Option.bind_some, p_stI pk_111 (by omega) (by decide), Option.bind_some, va_up_up, va_up_s]
        unfold fX9_worksOut_b149
        cases hst : ev_stk (I 112 0) (I 112 1) (I 112 2) p.2.2 k with
        | nil => rw [hst] at hlen; simp at hlen; omega
        | cons y r =>
          cases r with
          | nil => rw [hst] at hlen; simp at hlen; omega
          | cons z r =>
            rw [hst] at hsk hlen ih
            simp only [List.length_cons] at hlen
            obtain ⟨hy, hr⟩ := hsk.top
            obtain ⟨hz, hr2⟩ := hr.top
            simp only [List.length_cons] at hy
            rw [show ev_dep p.2.2 k - 1 = r.length + 1 by omega, show ev_dep p.2.2 k - 2 = r.length by omega, hy, hz, nI_s]
            rw [show ev_dep p.2.2 k - 1 = r.length + 1 by omega] at ih
            exact ih _ (by omega) (hr2.push _)
theorem q9_works {p : p_Lw} {t : Nat} (ht : t < 14) (hx : p_txt (I 97) p t) (hw : ev_wf p.2.2 p.2.1) : ∃ st', fX9_worksOut 96 (nI t) (p_H K S I L T Λ) = some (ev_of (I 112 0) (I 112 1) (I 112 2) p.2.2 p.2.1, (p_H K S (va_up I 111 st') L T Λ)) := by
  have h96 := hw.1
  obtain ⟨st', h⟩ := works_go (S := S) (I := I) (L := L) (T := T) (K := K) (Λ := Λ) ht hx hw p.2.1 (199 - p.2.1) 0 (I 111) (by omega) (fun i hi => by simp [ev_stk] at hi)
  rw [p_up_id, show p.2.1 + 1 + (199 - p.2.1) = 200 by omega] at h
  refine ⟨st', ?_⟩
  obtain ⟨k, hk, -, hk2, -⟩ := hx
  unfold fX9_worksOut
  simp only [gM_o, gM_0, gM_1, gM_2, gM_3, gM_4, gM_5, gM_6, gM_7, gM_8, gM_9, gM_10, gM_11, gM_12, gM_13, gM_14, gM_15, gM_16, gM_17, gM_18, gM_19, gM_20, gM_21, gM_22, gM_23, gM_24, gM_25, gM_26, gM_27, gM_28, gM_29, gM_30, gM_31, gM_32, gM_33, gM_34, gM_35, gM_36, gM_37, gM_38, gM_39, gM_p3, gM_p7, gM_p8, gM_p9, gM_p13, gM_p14, gM_p15, gM_p16, gM_p17, gM_p18, gM_p19, gM_p23, gM_p24, gM_p26, gM_p39, Option.bind_some, e_on, q9_two_ix, p_ldI pk_97 (show 99 + 2 * t < 1471 by omega) (by decide), hk2, nI_mod (show 1000 * k + p.2.1 < 2 ^ 31 by omega) (show 1000 < 2 ^ 31 by decide)]
  rw [show (1000 * k + p.2.1) % 1000 = p.2.1 by omega]
  exact h
end LAW9
