section MIX
variable {K : Nat} {S I : Nat → Nat → Int32} {L : Nat → Nat → Int64} {T : Nat → Nat → Option Nat} {Λ : Nat → p_Lw}
theorem k_cells {S' : Nat → Nat → Int32} {lw : Nat → Nat} {cn tn c : Nat} {V F G : Nat → Int32} (h : p_wr 1 97 S I T K Λ lw cn tn) (hc : c < 6) (hS0 : S' 1 0 = S 1 0) (hS1 : S' 1 1 = S 1 1) (hSc : ∀ c, c < 6 → S' (5 + 2 * c) = S (5 + 2 * c)) (hz : S' 1 2 = G 0) (hF : ∀ x, x < 15 → F x = V x) (hG : ∀ k, k ≠ 0 → G k = if 4 + 16 * c ≤ k ∧ k < 19 + 16 * c then V (k - (4 + 16 * c)) else I 97 k) (hV : ∀ x, x < 15 → p_bd (V x)) : p_wr 1 97 S' (va_up (va_up I (5 + 2 * c + 1) F) 97 G) T K Λ lw cn tn := by
  refine h.mk h.1.1 (by rw [hS0]; exact h.1.2.1) ?_ (by rw [va_up_s]; exact hz) hS1 (fun k hk => ?_) (fun c' hc' => ?_)
  · rw [va_up_s, hG 1 (by decide), if_neg (by omega)]
    exact h.1.2.2.1
  · rw [va_up_s, hG k (by omega), if_neg (by omega)]
  · obtain ⟨h1, h2, h3⟩ := h.ca hc'
    unfold p_ca
    rw [va_up_s, va_up_n (show 5 + 2 * c' + 1 ≠ 97 by omega), hSc c' hc', hG (3 + 16 * c') (by omega), if_neg (by omega)]
    refine ⟨h1, h2, fun x hx => ?_⟩
    rw [hG (4 + 16 * c' + x) (by omega)]
    by_cases e : c' = c
    · subst e
      rw [va_up_s, if_pos (by omega), show 4 + 16 * c' + x - (4 + 16 * c') = x by omega, hF x hx]
      exact ⟨rfl, hV x hx⟩
    · rw [va_up_n (show 5 + 2 * c' + 1 ≠ 5 + 2 * c + 1 by omega), if_neg (by omega)]
      exact h3 x hx
def p_mV (f g : Nat → Int32) (sg : Int32) (x : Nat) : Int32 := p_held (g x + sg * f x)
theorem mix_go {k a b : Nat} (hk : k < 6) (ha : a < 6) (hb : b < 6) (sg : Int32) : ∀ (d m x : Nat) (B : Nat → Int32), x + d = 15 → (∀ y, B y = if y < x then p_mV (I (5 + 2 * a + 1)) (I (5 + 2 * b + 1)) sg y else I (5 + 2 * k + 1) y) → ∃ F, (∀ y, y < 15 → F y = p_mV (I (5 + 2 * a + 1)) (I (5 + 2 * b + 1)) sg y) ∧ fX8_mix_L74 (d + 1 + m) (5 + 2 * k) (5 + 2 * a) (5 + 2 * b) sg (nI x) (p_H K S (va_up I (5 + 2 * k + 1) B) L T Λ) = some (nI (p_cnt F 15), p_H K S (va_up I (5 + 2 * k + 1) F) L T Λ)
  | 0, m, x, B, hx, hB => by
    refine ⟨B, fun y hy => by rw [hB, if_pos (by omega)], ?_⟩
    rw [show 0 + 1 + m = m + 1 by omega]
    show fX8_mix_b74 _ _ _ _ _ _ _ = _
    unfold fX8_mix_b74
    rw [if_pos (nI_le (by omega) (by omega)), q_notZero (pk_c hk), Option.bind_some, va_up_s]
  | d + 1, m, x, B, hx, hB => by
    obtain ⟨F, hF, g⟩ := mix_go hk ha hb sg d m (x + 1) (upd B x (p_mV (I (5 + 2 * a + 1)) (I (5 + 2 * b + 1)) sg x)) (by omega) (fun y => by
      simp only [upd]
      by_cases e : y = x
      · rw [if_pos e, if_pos (by omega), e]
      · rw [if_neg e, hB]
        by_cases e2 : y < x
        · rw [if_pos e2, if_pos (by omega)]
        · rw [if_neg e2, if_neg (by omega)])
    refine ⟨F, hF, ?_⟩
    have rd : ∀ q, va_up I (5 + 2 * k + 1) B (5 + 2 * q + 1) x = I (5 + 2 * q + 1) x := fun q => by
      by_cases e : q = k
      · subst e
        rw [va_up_s, hB, if_neg (by omega)]
      · rw [va_up_n (by omega)]
    rw [show d + 1 + 1 + m = (d + 1 + m) + 1 by omega, ← g]
    show fX8_mix_b74 _ _ _ _ _ _ _ = _
    unfold fX8_mix_b74
    rw [if_neg (nI_ge (by omega) (by omega)), q_numberAt (pk_c hb) (by omega), Option.bind_some, q_numberAt (pk_c ha) (by omega), Option.bind_some, q_held, Option.bind_some, q_setNumber (pk_c hk) (by omega), Option.bind_some, rd, rd, va_up_up, va_up_s, nI_s]
    rfl
def p_mW (f g : Nat → Int32) (how : Int32) (x : Nat) : Int32 := if how = 0 then p_held (f x + g x) else p_held (g x - f x)
theorem mix9_go {k a b : Nat} (hk : k < 6) (ha : a < 6) (hb : b < 6) (how : Int32) : ∀ (d m x : Nat) (B : Nat → Int32), x + d = 15 → (∀ y, B y = if 4 + 16 * k ≤ y ∧ y < 4 + 16 * k + x then p_mW (fun y => I 97 (4 + 16 * a + y)) (fun y => I 97 (4 + 16 * b + y)) how (y - (4 + 16 * k)) else I 97 y) → ∃ G, (∀ y, G y = if 4 + 16 * k ≤ y ∧ y < 19 + 16 * k then p_mW (fun y => I 97 (4 + 16 * a + y)) (fun y => I 97 (4 + 16 * b + y)) how (y - (4 + 16 * k)) else I 97 y) ∧ fX9_mix_L40 (d + 1 + m) 96 (nI k) (nI a) (nI b) how (nI (x + 1)) (p_H K S (va_up I 97 B) L T Λ) = some (nI (p_cnt (fun y => G (4 + 16 * k + y)) 15), p_H K S (va_up I 97 G) L T Λ)
  | 0, m, x, B, hx, hB => by
    refine ⟨B, fun y => by rw [hB, show 4 + 16 * k + x = 19 + 16 * k by omega], ?_⟩
    rw [show 0 + 1 + m = m + 1 by omega]
    show fX9_mix_b40 _ _ _ _ _ _ _ _ = _
    unfold fX9_mix_b40
    rw [if_pos (nI_le (by omega) (by omega)), q9_many hk, Option.bind_some, va_up_s]
  | d + 1, m, x, B, hx, hB => by
    obtain ⟨G, hG, g⟩ := mix9_go hk ha hb how d m (x + 1) (upd B (4 + 16 * k + x) (p_mW (fun y => I 97 (4 + 16 * a + y)) (fun y => I 97 (4 + 16 * b + y)) how x)) (by omega) (fun y => by
      simp only [upd]
      by_cases e : y = 4 + 16 * k + x
      · rw [if_pos e, if_pos (by omega), e, show 4 + 16 * k + x - (4 + 16 * k) = x by omega]
      · rw [if_neg e, hB]
        by_cases e2 : 4 + 16 * k ≤ y ∧ y < 4 + 16 * k + x
        · rw [if_pos e2, if_pos (by omega)]
        · rw [if_neg e2, if_neg (by omega)])
    refine ⟨G, hG, ?_⟩
    have rd : ∀ q, B (4 + 16 * q + x) = I 97 (4 + 16 * q + x) := fun q => by
      rw [hB]
      by_cases e : q = k
      · subst e
        rw [if_neg (by omega)]
      · rw [if_neg (by omega)]
    rw [show d + 1 + 1 + m = (d + 1 + m) + 1 by omega, ← g]
    show fX9_mix_b40 _ _ _ _ _ _ _ _ = _
    unfold fX9_mix_b40 fX9_mix_b110x1
    rw [if_neg (nI_ge (by omega) (by omega))]
    simp only [nI_mul, nI_add, show ∀ q, 3 + 16 * q + (x + 1) = 4 + 16 * q + x by omega, gM_0, Option.bind_some, e_on, p_ldI pk_97 (show 4 + 16 * a + x < 1471 by omega) (by decide), p_ldI pk_97 (show 4 + 16 * b + x < 1471 by omega) (by decide), p_stI pk_97 (show 4 + 16 * k + x < 1471 by omega) (by decide), va_up_s, va_up_up, rd, q9_within, p_mW]
    split
    · rfl
    · rfl
end MIX
theorem p_mV_W {f g f' g' : Nat → Int32} {w : Nat} (hw : w ≤ 1) {x : Nat} (h1 : f x = f' x) (h2 : g x = g' x) : p_mV f g (if nI w = 0 then nI 1 else -1) x = p_mW f' g' (nI w) x := by
  unfold p_mV p_mW
  rw [h1, h2]
  split
  · rw [i32_one, Int32.add_comm]
  · rw [show g' x + -1 * f' x = g' x - f' x by grind]
theorem c_mix (c a b w : Int32) : p_both (fX8_mix 0 c a b w) (fX9_mix 96 c a b w) := by
  intro K S I L T Λ hinv
  obtain ⟨lw, cn, tn, h⟩ := hinv.1
  have hcn := h.1.1
  have h97 := h.1.2.2.1
  rcases cur_or c (n := cn) (by omega) with ⟨k, hk, rfl⟩ | hc
  · rcases cur_or a (n := cn) (by omega) with ⟨aa, ha, rfl⟩ | hc
    · rcases cur_or b (n := cn) (by omega) with ⟨bb, hb, rfl⟩ | hc
      · rcases rng_or w (n := 1) (by decide) with ⟨ww, hw, rfl⟩ | ⟨hno, hr⟩
        · have hk6 : k < 6 := by omega
          have ha6 : aa < 6 := by omega
          have hb6 : bb < 6 := by omega
          obtain ⟨F, hF, g1⟩ := mix_go (S := S) (I := I) (L := L) (T := T) (K := K) (Λ := Λ) hk6 ha6 hb6 (if nI ww = 0 then nI 1 else -1) 15 184 0 (I (5 + 2 * k + 1)) (by omega) (fun y => by rw [if_neg (by omega)])
          rw [p_up_id] at g1
          have e97 : va_up I (5 + 2 * k + 1) F 97 = I 97 := va_up_n (by omega)
          obtain ⟨G, hG, g2⟩ := mix9_go (S := S) (I := va_up I (5 + 2 * k + 1) F) (L := L) (T := T) (K := K) (Λ := Λ) hk6 ha6 hb6 (nI ww) 15 184 0 (I 97) (by omega) (fun y => by rw [if_neg (by omega), e97])
          rw [show va_up (va_up I (5 + 2 * k + 1) F) 97 (I 97) = va_up I (5 + 2 * k + 1) F by rw [← e97, p_up_id]] at g2
          rw [e97] at hG
          have hFV : ∀ x, x < 15 → F x = p_mW (fun y => I 97 (4 + 16 * aa + y)) (fun y => I 97 (4 + 16 * bb + y)) (nI ww) x := fun x hx => by
            rw [hF x hx]
            exact p_mV_W hw ((h.ca ha6).2.2 x hx).1 ((h.ca hb6).2.2 x hx).1
          have hcnt : p_cnt F 15 = p_cnt (fun y => G (4 + 16 * k + y)) 15 := p_cnt_eq 15 (fun x hx => by
            rw [hFV x hx, hG, if_pos (by omega), show 4 + 16 * k + x - (4 + 16 * k) = x by omega])
          refine both_go (h1 := p_H K S (va_up I (5 + 2 * k + 1) F) L T Λ) (L2 := L) (nI (p_cnt F 15)) ?_ ?_ (hinv.now (S' := S) (I' := va_up (va_up I (5 + 2 * k + 1) F) 97 G) (fun a _ => rfl) rfl rfl rfl rfl (fun a z1 z2 z3 => by rw [va_up_n z2, va_up_n (by omega)]) (k_cells h hk6 rfl rfl (fun _ _ => rfl) (by rw [hG, if_neg (by omega)]; exact h.1.2.2.2) hFV (fun y _ => hG y) (fun x hx => ?_)))
          · unfold fX8_mix fX8_mix_b69
            simp only [gB_o, gB_0, gB_1, gB_2, gB_3, gB_4, gB_5, gB_6, gB_7, gB_8, gB_9, gB_p8, gB_p9, p_lenF pk_60, p_lenF pk_61, p_lenI pk_62, Option.bind_some, e_on, k_cur h hk, k_cur h ha, k_cur h hb, up_yes hw (show 1 < 2 ^ 31 by decide)]
            rw [← g1]
            split <;> rfl
          · rw [hcnt]
            unfold fX9_mix
            simp only [gM_o, Option.bind_some, e_on, k_isCurve (I := va_up I (5 + 2 * k + 1) F) (by rw [e97]; exact h97) hcn hk, k_isCurve (I := va_up I (5 + 2 * k + 1) F) (by rw [e97]; exact h97) hcn ha, k_isCurve (I := va_up I (5 + 2 * k + 1) F) (by rw [e97]; exact h97) hcn hb, if_neg eb_t, in_yes hw (show 1 < 2 ^ 31 by decide)]
            exact g2
          · unfold p_mW
            split <;> exact p_held_bd _
        · refine both_bad (r := -1000000001) hinv ?_ ?_
          · unfold fX8_mix
            simp only [gB_o, gB_0, gB_1, gB_2, gB_3, gB_4, gB_5, gB_6, gB_7, gB_8, gB_9, gB_p8, gB_p9, p_lenF pk_60, p_lenF pk_61, p_lenI pk_62, Option.bind_some, e_on, k_cur h hk, k_cur h ha, k_cur h hb, up_no hr]
          · unfold fX9_mix
            simp only [gM_o, Option.bind_some, e_on, k_isCurve h97 hcn hk, k_isCurve h97 hcn ha, k_isCurve h97 hcn hb, if_neg eb_t, in_no hr, if_pos eb_f]
      · refine both_bad (r := -1000000001) hinv ?_ ?_
        · unfold fX8_mix
          simp only [gB_o, gB_0, gB_1, gB_2, gB_3, gB_4, gB_5, gB_6, gB_7, gB_8, gB_9, gB_p8, gB_p9, p_lenF pk_60, p_lenF pk_61, p_lenI pk_62, Option.bind_some, e_on, k_cur h hk, k_cur h ha, k_cur_no h hc]
        · unfold fX9_mix
          simp only [gM_o, Option.bind_some, e_on, k_isCurve h97 hcn hk, k_isCurve h97 hcn ha, k_isCurve_no h97 hcn hc, if_neg eb_t, if_pos eb_f]
    · refine both_bad (r := -1000000001) hinv ?_ ?_
      · unfold fX8_mix
        rcases cur_or b (n := cn) (by omega) with ⟨bb, hb, rfl⟩ | hc2
        · simp only [gB_o, gB_0, gB_1, gB_2, gB_3, gB_4, gB_5, gB_6, gB_7, gB_8, gB_9, gB_p8, gB_p9, p_lenF pk_60, p_lenF pk_61, p_lenI pk_62, Option.bind_some, e_on, k_cur h hk, k_cur_no h hc, k_cur h hb]
        · simp only [gB_o, gB_0, gB_1, gB_2, gB_3, gB_4, gB_5, gB_6, gB_7, gB_8, gB_9, gB_p8, gB_p9, p_lenF pk_60, p_lenF pk_61, p_lenI pk_62, Option.bind_some, e_on, k_cur h hk, k_cur_no h hc, k_cur_no h hc2]
      · unfold fX9_mix
        simp only [gM_o, Option.bind_some, e_on, k_isCurve h97 hcn hk, k_isCurve_no h97 hcn hc, if_neg eb_t, if_pos eb_f]
  · refine both_bad (r := -1000000001) hinv ?_ ?_
    · unfold fX8_mix
      rcases cur_or a (n := cn) (by omega) with ⟨aa, ha, rfl⟩ | hc2
      · rcases cur_or b (n := cn) (by omega) with ⟨bb, hb, rfl⟩ | hc3
        · simp only [gB_o, gB_0, gB_1, gB_2, gB_3, gB_4, gB_5, gB_6, gB_7, gB_8, gB_9, gB_p8, gB_p9, p_lenF pk_60, p_lenF pk_61, p_lenI pk_62, Option.bind_some, e_on, k_cur_no h hc, k_cur h ha, k_cur h hb]
        · simp only [gB_o, gB_0, gB_1, gB_2, gB_3, gB_4, gB_5, gB_6, gB_7, gB_8, gB_9, gB_p8, gB_p9, p_lenF pk_60, p_lenF pk_61, p_lenI pk_62, Option.bind_some, e_on, k_cur_no h hc, k_cur h ha, k_cur_no h hc3]
      · rcases cur_or b (n := cn) (by omega) with ⟨bb, hb, rfl⟩ | hc3
        · simp only [gB_o, gB_0, gB_1, gB_2, gB_3, gB_4, gB_5, gB_6, gB_7, gB_8, gB_9, gB_p8, gB_p9, p_lenF pk_60, p_lenF pk_61, p_lenI pk_62, Option.bind_some, e_on, k_cur_no h hc, k_cur_no h hc2, k_cur h hb]
        · simp only [gB_o, gB_0, gB_1, gB_2, gB_3, gB_4, gB_5, gB_6, gB_7, gB_8, gB_9, gB_p8, gB_p9, p_lenF pk_60, p_lenF pk_61, p_lenI pk_62, Option.bind_some, e_on, k_cur_no h hc, k_cur_no h hc2, k_cur_no h hc3]
    · unfold fX9_mix
      simp only [gM_o, Option.bind_some, e_on, k_isCurve_no h97 hcn hc, if_pos eb_f]
