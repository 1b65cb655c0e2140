def p_both0 {R : Type} (f8 f9 : e_H → Option R) : Prop := ∀ (K : Nat) (S I : Nat → Nat → Int32) (L : Nat → Nat → Int64) (T : Nat → Nat → Option Nat) (Λ : Nat → p_Lw), p_inv K S I T Λ → ∃ r, f8 (p_H K S I L T Λ) = some r ∧ f9 (p_H K S I L T Λ) = some r
theorem q9_isUnder (kd k : Int32) : fX9_isUnder kd k = some (p_under kd k) := by
  unfold fX9_isUnder fX9_isUnder_b19 p_under
  by_cases h0 : k = 0
  · rw [if_pos h0]; simp [h0]
  · rw [if_neg h0]
    by_cases h1 : kd = k
    · rw [if_pos h1]; simp [h1]
    · have h1' : ¬ k = kd := fun z => h1 z.symm
      rw [if_neg h1]
      by_cases h2 : k = nI 1
      · rw [if_pos h2]
        by_cases h3 : kd = nI 3
        · rw [if_pos h3]; simp [h2, h3]
        · rw [if_neg h3, if_neg (by rw [h2]; decide)]
          simp only [decide_eq_false h0, decide_eq_false h1', decide_eq_false h3, decide_eq_false (show ¬ k = nI 2 by rw [h2]; decide)]
          simp
      · rw [if_neg h2]
        by_cases h3 : k = nI 2
        · rw [if_pos h3]
          by_cases h4 : kd = nI 4
          · rw [if_pos h4]; simp [h3, h4]
          · rw [if_neg h4]; simp only [decide_eq_false h0, decide_eq_false h1', decide_eq_false h2, decide_eq_false h4]; simp
        · rw [if_neg h3]; simp only [decide_eq_false h0, decide_eq_false h1', decide_eq_false h2, decide_eq_false h3]; simp
theorem c_as (c w : Int32) : p_both0 (fX8_as 0 c w) (fX9_as 96 c w) := by
  intro K S I L T Λ hinv
  obtain ⟨lw, cn, tn, hwr⟩ := hinv.1
  have hcn := hwr.1.1
  have h97 := hwr.1.2.2.1
  rcases cur_or c (n := cn) (by omega) with ⟨k, hk, rfl⟩ | hc
  · have hk6 : k < 6 := by omega
    rcases kind_or w with ⟨j, hj, -, h1, h2⟩ | ⟨h1, h2⟩
    · refine ⟨if p_under (S (5 + 2 * k) 0) w then I (5 + 2 * k + 1) (p_ixn 0 0) else -1000000012, ?_, ?_⟩
      · unfold fX8_as
        simp only [gB_o, gB_0, gB_1, gB_2, gB_3, gB_4, gB_5, gB_6, gB_7, gB_8, gB_9, gB_p8, gB_p9, p_lenF pk_60, p_lenF pk_61, p_lenI pk_62, Option.bind_some, e_on, k_cur hwr hk, h1, if_neg eb_t, q_isOf (pk_c hk6), q_number (pk_c hk6) (show 0 + 0 ≤ 4 by decide)]
        cases p_under (S (5 + 2 * k) 0) w
        · rw [if_pos eb_f]; rfl
        · rw [if_neg eb_t]; rfl
      · unfold fX9_as
        simp only [gM_o, Option.bind_some, e_on, k_isCurve h97 hcn hk, if_neg eb_t, h2, q9_kindOf hk6, q9_isUnder, gM_0, q9_spot (c := k) (i := 0) (j := 0) (by decide), p_ldI pk_97 (show 4 + 16 * k + p_ixn 0 0 < 1471 by have z : p_ixn 0 0 = 0 := rfl; omega) (by decide)]
        rw [(hwr.ca hk6).1, ((hwr.ca hk6).2.2 (p_ixn 0 0) (by decide)).1]
        cases p_under (I 97 (3 + 16 * k)) w
        · rw [if_pos eb_f]; rfl
        · rw [if_neg eb_t]; rfl
    · refine ⟨-1000000001, ?_, ?_⟩
      · unfold fX8_as
        simp only [gB_o, gB_0, gB_1, gB_2, gB_3, gB_4, gB_5, gB_6, gB_7, gB_8, gB_9, gB_p8, gB_p9, p_lenF pk_60, p_lenF pk_61, p_lenI pk_62, Option.bind_some, e_on, k_cur hwr hk, h1, if_pos eb_f]
      · unfold fX9_as
        simp only [gM_o, Option.bind_some, e_on, k_isCurve h97 hcn hk, if_neg eb_t, h2, if_pos eb_f]
  · refine ⟨-1000000001, ?_, ?_⟩
    · unfold fX8_as
      simp only [gB_o, gB_0, gB_1, gB_2, gB_3, gB_4, gB_5, gB_6, gB_7, gB_8, gB_9, gB_p8, gB_p9, p_lenF pk_60, p_lenF pk_61, p_lenI pk_62, Option.bind_some, e_on, k_cur_no hwr hc]
    · unfold fX9_as
      simp only [gM_o, Option.bind_some, e_on, k_isCurve_no h97 hcn hc, if_pos eb_f]
section CURVES
variable {K : Nat} {S I : Nat → Nat → Int32} {L : Nat → Nat → Int64} {T : Nat → Nat → Option Nat} {Λ : Nat → p_Lw}
theorem k_kind {lw : Nat → Nat} {cn tn c j : Nat} (hinv : p_inv K S I T Λ) (h : p_wr 1 97 S I T K Λ lw cn tn) (hc : c < 6) (hj : j ≤ 5) : p_inv K (p_s S (5 + 2 * c) 0 (nI j)) (va_up I 97 (upd (I 97) (3 + 16 * c) (nI j))) T Λ := by
  refine hinv.now (fun a ha => p_s_n (by omega)) (by rw [p_s_n (by omega)]) (by rw [p_s_n (by omega)]) (by rw [p_s_n (by omega)]) (by rw [p_s_n (by omega)]) (fun a h1 h2 h3 => va_up_n h2) (h.mk h.1.1 (by rw [p_s_n (by omega)]; exact h.1.2.1) ?_ ?_ (by rw [p_s_n (by omega)]) (fun k hk => ?_) (fun c' hc' => ?_))
  · rw [va_up_s]
    simp only [upd]
    rw [if_neg (by omega)]
    exact h.1.2.2.1
  · rw [va_up_s, p_s_n (by omega)]
    simp only [upd]
    rw [if_neg (by omega)]
    exact h.1.2.2.2
  · rw [va_up_s]
    simp only [upd]
    rw [if_neg (by omega)]
  · obtain ⟨h1, h2, h3⟩ := h.ca hc'
    unfold p_ca
    rw [va_up_s, va_up_n (show 5 + 2 * c' + 1 ≠ 97 by omega)]
    by_cases e : c' = c
    · subst e
      rw [p_s_at]
      refine ⟨by simp [upd], ⟨j, hj, by simp [upd]⟩, fun x hx => ?_⟩
      simp only [upd]
      rw [if_neg (show ¬ 4 + 16 * c' + x = 3 + 16 * c' by omega)]
      exact h3 x hx
    · rw [p_s_n (show 5 + 2 * c' ≠ 5 + 2 * c by omega)]
      simp only [upd]
      rw [if_neg (show ¬ 3 + 16 * c' = 3 + 16 * c by omega)]
      refine ⟨h1, h2, fun x hx => ?_⟩
      rw [if_neg (show ¬ 4 + 16 * c' + x = 3 + 16 * c by omega)]
      exact h3 x hx
end CURVES
theorem c_turns (c w : Int32) : p_both (fX8_turns 0 c w) (fX9_turns 96 c w) := by
  intro K S I L T Λ hinv
  obtain ⟨lw, cn, tn, hwr⟩ := hinv.1
  have hcn := hwr.1.1
  have h97 := hwr.1.2.2.1
  rcases cur_or c (n := cn) (by omega) with ⟨k, hk, rfl⟩ | hc
  · have hk6 : k < 6 := by omega
    rcases kind_or w with ⟨j, hj, rfl, h1, h2⟩ | ⟨h1, h2⟩
    · refine both_go (h1 := p_H K (p_s S (5 + 2 * k) 0 (nI j)) I L T Λ) (L2 := L) (S (5 + 2 * k) 0) ?_ ?_ (k_kind hinv hwr hk6 hj)
      · unfold fX8_turns
        simp only [gB_o, gB_0, gB_1, gB_2, gB_3, gB_4, gB_5, gB_6, gB_7, gB_8, gB_9, gB_p8, gB_p9, p_lenF pk_60, p_lenF pk_61, p_lenI pk_62, Option.bind_some, e_on, k_cur hwr hk, h1, if_neg eb_t, gC_0 (pk_c hk6), gC_p0 (pk_c hk6)]
      · unfold fX9_turns
        simp only [gM_o, Option.bind_some, e_on, k_isCurve h97 hcn hk, if_neg eb_t, h2, q9_kindOf hk6, gM_0, nI_mul, nI_add, p_stI pk_97 (show 3 + 16 * k < 1471 by omega) (by decide)]
        rw [(hwr.ca hk6).1]
    · refine both_bad (r := -1000000001) hinv ?_ ?_
      · unfold fX8_turns
        simp only [gB_o, gB_0, gB_1, gB_2, gB_3, gB_4, gB_5, gB_6, gB_7, gB_8, gB_9, gB_p8, gB_p9, p_lenF pk_60, p_lenF pk_61, p_lenI pk_62, Option.bind_some, e_on, k_cur hwr hk, h1, if_pos eb_f]
      · unfold fX9_turns
        simp only [gM_o, Option.bind_some, e_on, k_isCurve h97 hcn hk, if_neg eb_t, h2, if_pos eb_f]
  · refine both_bad (r := -1000000001) hinv ?_ ?_
    · unfold fX8_turns
      simp only [gB_o, gB_0, gB_1, gB_2, gB_3, gB_4, gB_5, gB_6, gB_7, gB_8, gB_9, gB_p8, gB_p9, p_lenF pk_60, p_lenF pk_61, p_lenI pk_62, Option.bind_some, e_on, k_cur_no hwr hc]
    · unfold fX9_turns
      simp only [gM_o, Option.bind_some, e_on, k_isCurve_no h97 hcn hc, if_pos eb_f]
theorem pk_w1 : p_isW 1 := Or.inl rfl
theorem c_seed (v : Int32) : p_both (fX8_seed 0 v) (fX9_seed 96 v) := by
  intro K S I L T Λ hinv
  obtain ⟨lw, cn, tn, h⟩ := hinv.1
  refine both_go (h1 := p_H K (p_s S 1 2 v) I L T Λ) (L2 := L) (S2 := p_s S 1 2 v) (I2 := va_up I 97 (upd (I 97) 0 v)) (S 1 2) ?_ ?_ (hinv.now (fun a ha => p_s_n (by omega)) (by rw [p_s_n (by omega)]) (by rw [p_s_n (by omega)]) (by rw [p_s_n (by omega)]) (by rw [p_s_n (by omega)]) (fun a h1 h2 h3 => va_up_n h2) (h.mk h.1.1 ?_ ?_ ?_ ?_ (fun k hk => ?_) (fun c' hc' => ?_)))
  · unfold fX8_seed
    simp only [gB_o, gB_0, gB_1, gB_2, gB_3, gB_4, gB_5, gB_6, gB_7, gB_8, gB_9, gB_p8, gB_p9, p_lenF pk_60, p_lenF pk_61, p_lenI pk_62, Option.bind_some, e_on, gW_2 pk_w1, gW_p2 pk_w1]
  · unfold fX9_seed
    simp only [gM_o, Option.bind_some, e_on, gM_0, p_ldI pk_97 (show 0 < 1471 by omega) (by decide), p_stI pk_97 (show 0 < 1471 by omega) (by decide)]
    rw [h.1.2.2.2]
  · rw [p_s_ne (by decide)]; exact h.1.2.1
  · rw [va_up_s]
    exact h.1.2.2.1
  · rw [va_up_s, p_s_at]
    simp [upd]
  · rw [p_s_ne (by decide)]
  · rw [va_up_s]
    simp only [upd]
    rw [if_neg (by omega)]
  · obtain ⟨h1, h2, h3⟩ := h.ca hc'
    unfold p_ca
    rw [va_up_s, va_up_n (show 5 + 2 * c' + 1 ≠ 97 by omega), p_s_n (show 5 + 2 * c' ≠ 1 by omega)]
    simp only [upd]
    rw [if_neg (show ¬ 3 + 16 * c' = 0 by omega)]
    refine ⟨h1, h2, fun x hx => ?_⟩
    rw [if_neg (show ¬ 4 + 16 * c' + x = 0 by omega)]
    exact h3 x hx
section CURVES2
variable {K : Nat} {S I : Nat → Nat → Int32} {L : Nat → Nat → Int64} {T : Nat → Nat → Option Nat} {Λ : Nat → p_Lw}
theorem q_addCurve {n : Nat} (hn : n < 6) (h0 : S 1 0 = nI n) (kd : Int32) : fX7_addCurve 1 kd (p_H K S I L T Λ) = some (some (5 + 2 * n), p_H K (p_s (p_s S (5 + 2 * n) 0 kd) 1 0 (nI (n + 1))) (va_up I (5 + 2 * n + 1) (p_fill 15 0 (I (5 + 2 * n + 1)))) L T Λ) := by
  have e : (if n < 6 then some (1 + 4 + 2 * n) else none) = some (5 + 2 * n) := by
    rw [if_pos hn]
  unfold fX7_addCurve
  simp only [gW_o pk_w1, gW_0 pk_w1, gW_3 pk_w1, p_lenF (pk_wc pk_w1), Option.bind_some, e_on, h0]
  rw [if_neg (nI_pos (by omega)), if_pos (nI_lt hn (by decide)), p_ldF (pk_wc pk_w1) hn (by decide), Option.bind_some, e]
  show (fX0_becomesZero (5 + 2 * n) kd _).bind _ = _
  rw [q_becomesZero (pk_c hn), Option.bind_some, gW_0 pk_w1, Option.bind_some, gW_p0 pk_w1, Option.bind_some, p_s_n (by omega), h0, nI_s]
theorem q_addCurve_no (h0 : S 1 0 = nI 6) (kd : Int32) : fX7_addCurve 1 kd (p_H K S I L T Λ) = some (none, p_H K S I L T Λ) := by
  unfold fX7_addCurve
  simp only [gW_o pk_w1, gW_0 pk_w1, gW_3 pk_w1, p_lenF (pk_wc pk_w1), Option.bind_some, e_on, h0]
  rw [if_neg (nI_pos (by decide)), if_neg (by decide)]
def p_cm (A : Nat → Int32) (n : Nat) (kd : Int32) (k : Nat) : Int32 := if k = 1 then nI (n + 1) else if k = 3 + 16 * n then kd else if 4 + 16 * n ≤ k ∧ k < 19 + 16 * n then 0 else A k
theorem comes_go {n : Nat} (hn : n < 6) (kd : Int32) (A : Nat → Int32) (h1 : A 1 = nI n) : ∀ (d m x : Nat) (B : Nat → Int32), x + d = 15 → (∀ k, B k = if 4 + 16 * n ≤ k ∧ k < 4 + 16 * n + x then 0 else A k) → fX9_comes_L14 (d + 1 + m) 96 kd (nI (3 + 16 * n)) (nI (x + 1)) (p_H K S (va_up I 97 B) L T Λ) = some (nI n, p_H K S (va_up I 97 (p_cm A n kd)) L T Λ)
  | 0, m, x, B, hx, hB => by
    rw [show 0 + 1 + m = m + 1 by omega]
    show fX9_comes_b14 _ _ _ _ _ _ = _
    unfold fX9_comes_b14
    have e1 : upd B (3 + 16 * n) kd 1 = nI n := by
      simp only [upd]
      rw [if_neg (by omega), hB, if_neg (by omega), h1]
    simp only [gM_0, Option.bind_some, e_on, p_stI pk_97 (show 3 + 16 * n < 1471 by omega) (by decide), p_stI pk_97 (show 1 < 1471 by decide) (by decide), p_ldI pk_97 (show 1 < 1471 by decide) (by decide), va_up_s, va_up_up, e1]
    rw [if_pos (nI_le (by omega) (by omega))]
    have e2 : upd (upd B (3 + 16 * n) kd) 1 (nI n + nI 1) 1 = nI n + nI 1 := by simp [upd]
    rw [e2, nI_s, pk_sub (by omega), show n + 1 - 1 = n by omega]
    congr 3
    congr 1
    funext k
    simp only [upd, p_cm]
    by_cases h : k = 1
    · rw [if_pos h, if_pos h]
    · rw [if_neg h, if_neg h]
      by_cases h' : k = 3 + 16 * n
      · rw [if_pos h', if_pos h']
      · rw [if_neg h', if_neg h', hB]
        by_cases h3 : 4 + 16 * n ≤ k ∧ k < 19 + 16 * n
        · rw [if_pos h3, if_pos (by omega)]
        · rw [if_neg h3, if_neg (by omega)]
  | d + 1, m, x, B, hx, hB => by
    rw [show d + 1 + 1 + m = (d + 1 + m) + 1 by omega]
    show fX9_comes_b14 _ _ _ _ _ _ = _
    unfold fX9_comes_b14
    rw [if_neg (nI_ge (by omega) (by omega)), nI_add, show 3 + 16 * n + (x + 1) = 4 + 16 * n + x by omega]
    simp only [gM_0, Option.bind_some, e_on, p_stI pk_97 (show 4 + 16 * n + x < 1471 by omega) (by decide), va_up_s, va_up_up]
    rw [nI_s]
    refine comes_go hn kd A h1 d m (x + 1) _ (by omega) (fun k => ?_)
    simp only [upd]
    by_cases h : k = 4 + 16 * n + x
    · rw [if_pos h, if_pos (by omega)]; rfl
    · rw [if_neg h, hB]
      by_cases h3 : 4 + 16 * n ≤ k ∧ k < 4 + 16 * n + x
      · rw [if_pos h3, if_pos (by omega)]
      · rw [if_neg h3, if_neg (by omega)]
theorem q9_comes {n : Nat} (hn : n < 6) (h1 : I 97 1 = nI n) (kd : Int32) : fX9_comes 96 kd (p_H K S I L T Λ) = some (nI n, p_H K S (va_up I 97 (p_cm (I 97) n kd)) L T Λ) := by
  have h := comes_go (S := S) (I := I) (L := L) (T := T) (K := K) (Λ := Λ) hn kd (I 97) h1 15 184 0 (I 97) (by omega) (fun k => by rw [if_neg (by omega)])
  rw [p_up_id] at h
  unfold fX9_comes
  simp only [gM_o, gM_0, Option.bind_some, e_on, p_ldI pk_97 (show 1 < 1471 by decide) (by decide), h1, nI_mul, nI_add]
  exact h
theorem k_comes {lw : Nat → Nat} {cn tn j : Nat} (hinv : p_inv K S I T Λ) (h : p_wr 1 97 S I T K Λ lw cn tn) (hc : cn < 6) (hj : j ≤ 5) : p_wr 1 97 (p_s (p_s S (5 + 2 * cn) 0 (nI j)) 1 0 (nI (cn + 1))) (va_up (va_up I (5 + 2 * cn + 1) (p_fill 15 0 (I (5 + 2 * cn + 1)))) 97 (p_cm (I 97) cn (nI j))) T K Λ lw (cn + 1) tn := by
  refine h.mk (by omega) p_s_at ?_ ?_ ?_ (fun k hk => ?_) (fun c hc' => ?_)
  · rw [va_up_s]; rfl
  · rw [va_up_s, p_s_ne (by decide), p_s_n (by omega)]
    unfold p_cm
    rw [if_neg (by omega), if_neg (by omega), if_neg (by omega)]
    exact h.1.2.2.2
  · rw [p_s_ne (by decide), p_s_n (by omega)]
  · rw [va_up_s]
    unfold p_cm
    rw [if_neg (by omega), if_neg (by omega), if_neg (by omega)]
  · obtain ⟨h1, h2, h3⟩ := h.ca hc'
    unfold p_ca
    rw [va_up_s, va_up_n (show 5 + 2 * c + 1 ≠ 97 by omega), p_s_n (show 5 + 2 * c ≠ 1 by omega)]
    unfold p_cm
    by_cases e : c = cn
    · subst e
      rw [p_s_at, va_up_s, if_neg (show ¬ 3 + 16 * c = 1 by omega), if_pos rfl]
      refine ⟨rfl, ⟨j, hj, rfl⟩, fun x hx => ?_⟩
      rw [if_neg (show ¬ 4 + 16 * c + x = 1 by omega), if_neg (show ¬ 4 + 16 * c + x = 3 + 16 * c by omega), if_pos (by omega)]
      unfold p_fill
      rw [if_pos hx]
      exact ⟨rfl, by unfold p_bd; decide⟩
    · rw [p_s_n (show 5 + 2 * c ≠ 5 + 2 * cn by omega), va_up_n (show 5 + 2 * c + 1 ≠ 5 + 2 * cn + 1 by omega), if_neg (show ¬ 3 + 16 * c = 1 by omega), if_neg (show ¬ 3 + 16 * c = 3 + 16 * cn by omega), if_neg (show ¬ (4 + 16 * cn ≤ 3 + 16 * c ∧ 3 + 16 * c < 19 + 16 * cn) by omega)]
      refine ⟨h1, h2, fun x hx => ?_⟩
      rw [if_neg (show ¬ 4 + 16 * c + x = 1 by omega), if_neg (show ¬ 4 + 16 * c + x = 3 + 16 * cn by omega), if_neg (show ¬ (4 + 16 * cn ≤ 4 + 16 * c + x ∧ 4 + 16 * c + x < 19 + 16 * cn) by omega)]
      exact h3 x hx
end CURVES2
theorem c_curve (w : Int32) : p_both (fX8_curve 0 w) (fX9_curve 96 w) := by
  intro K S I L T Λ hinv
  obtain ⟨lw, cn, tn, h⟩ := hinv.1
  have hcn := h.1.1
  rcases kind_or w with ⟨j, hj, rfl, h1, h2⟩ | ⟨h1, h2⟩
  · by_cases h6 : cn = 6
    · subst h6
      refine both_bad (r := -1000000003) hinv ?_ ?_
      · unfold fX8_curve
        simp only [gB_o, gB_0, gB_1, gB_2, gB_3, gB_4, gB_5, gB_6, gB_7, gB_8, gB_9, gB_p8, gB_p9, p_lenF pk_60, p_lenF pk_61, p_lenI pk_62, Option.bind_some, e_on, h1, if_neg eb_t, q_addCurve_no h.1.2.1]
      · unfold fX9_curve
        simp only [gM_o, Option.bind_some, e_on, h2, if_neg eb_t, gM_0, p_ldI pk_97 (show 1 < 1471 by decide) (by decide), h.1.2.2.1]
        rw [if_pos trivial]
    · have hc6 : cn < 6 := by omega
      refine both_go (h1 := p_H K (p_s (p_s S (5 + 2 * cn) 0 (nI j)) 1 0 (nI (cn + 1))) (va_up I (5 + 2 * cn + 1) (p_fill 15 0 (I (5 + 2 * cn + 1)))) L T Λ) (L2 := L) (nI cn) ?_ ?_ (hinv.now (S' := p_s (p_s S (5 + 2 * cn) 0 (nI j)) 1 0 (nI (cn + 1))) (I' := va_up (va_up I (5 + 2 * cn + 1) (p_fill 15 0 (I (5 + 2 * cn + 1)))) 97 (p_cm (I 97) cn (nI j))) (fun a ha => by rw [p_s_n (by omega), p_s_n (by omega)]) (by rw [p_s_n (by omega), p_s_n (by omega)]) (by rw [p_s_n (by omega), p_s_n (by omega)]) (by rw [p_s_n (by omega), p_s_n (by omega)]) (by rw [p_s_n (by omega), p_s_n (by omega)]) (fun a z1 z2 z3 => by rw [va_up_n z2, va_up_n (by omega)]) (k_comes hinv h hc6 hj))
      · unfold fX8_curve
        simp only [gB_o, gB_0, gB_1, gB_2, gB_3, gB_4, gB_5, gB_6, gB_7, gB_8, gB_9, gB_p8, gB_p9, p_lenF pk_60, p_lenF pk_61, p_lenI pk_62, Option.bind_some, e_on, h1, if_neg eb_t, q_addCurve hc6 h.1.2.1, gW_0 pk_w1, p_s_at]
        rw [pk_sub (by omega), show cn + 1 - 1 = cn by omega]
      · have e97 : va_up I (5 + 2 * cn + 1) (p_fill 15 0 (I (5 + 2 * cn + 1))) 97 = I 97 := va_up_n (by omega)
        unfold fX9_curve
        simp only [gM_o, Option.bind_some, e_on, h2, if_neg eb_t, gM_0, p_ldI pk_97 (show 1 < 1471 by decide) (by decide), q9_comes hc6 (show va_up I (5 + 2 * cn + 1) (p_fill 15 0 (I (5 + 2 * cn + 1))) 97 1 = nI cn by rw [e97]; exact h.1.2.2.1), e97, h.1.2.2.1]
        rw [if_neg (fun z => h6 ((nI_eq (by omega) (by decide)).mp z))]
  · refine both_bad (r := -1000000001) hinv ?_ ?_
    · unfold fX8_curve
      simp only [gB_o, gB_0, gB_1, gB_2, gB_3, gB_4, gB_5, gB_6, gB_7, gB_8, gB_9, gB_p8, gB_p9, p_lenF pk_60, p_lenF pk_61, p_lenI pk_62, Option.bind_some, e_on, h1, if_pos eb_f]
    · unfold fX9_curve
      simp only [gM_o, Option.bind_some, e_on, h2, if_pos eb_f]
