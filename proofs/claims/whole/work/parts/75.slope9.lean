theorem t6_n {u : Nat} (h : u < 11) : ¬ nI 6 ≤ nI u - nI 5 := by revert u; decide
theorem t6_e : nI 6 ≤ nI 11 - nI 5 := by decide
def p_s9 (L : Nat → Nat → Int64) (s : Nat) : Nat → Int64 := fun k => L 101 (85 * s + k)
def p_rs (c : Nat → Int64) (m : Nat) (t : Int64) : Nat → Int64
  | 0 => 0
  | n + 1 => p_rs c m t n + p_dg c m n * p_pow t n
theorem p_rs_sl (c : Nat → Int64) (m : Nat) (t : Int64) : p_rs c m t 5 = p_sl c m t := by
  simp only [p_rs, p_sl, p_hs, p_pow]
  generalize p_dg c m 0 = a0
  generalize p_dg c m 1 = a1
  generalize p_dg c m 2 = a2
  generalize p_dg c m 3 = a3
  generalize p_dg c m 4 = a4
  grind
theorem ev_stk_c (a b c c' : Int32) {f : Nat → Int32} : ∀ n, (∀ k, k < n → f k ≠ -3) → ev_stk a b c f n = ev_stk a b c' f n
  | 0, _ => rfl
  | n + 1, h => by
    unfold ev_stk
    rw [ev_stk_c a b c c' n (fun k hk => h k (by omega))]
    unfold ev_step
    by_cases h1 : -3 ≤ f n
    · rw [if_pos h1, if_pos h1]
      congr 1
      unfold ev_arg
      by_cases h2 : 0 ≤ f n
      · rw [if_pos h2, if_pos h2]
      · rw [if_neg h2, if_neg h2]
        by_cases h3 : f n = -1
        · rw [if_pos h3, if_pos h3]
        · rw [if_neg h3, if_neg h3]
          by_cases h4 : f n = -2
          · rw [if_pos h4, if_pos h4]
          · exfalso
            have h5 := h n (by omega)
            have e0 : (0 : Int32).toInt = 0 := rfl
            have e1 : (-1 : Int32).toInt = -1 := by decide
            have e2 : (-2 : Int32).toInt = -2 := by decide
            have e3 : (-3 : Int32).toInt = -3 := by decide
            rw [Int32.le_iff_toInt_le] at h1 h2
            rw [← Int32.toInt_inj] at h3 h4
            rw [ne_eq, ← Int32.toInt_inj] at h5
            omega
    · rw [if_neg h1, if_neg h1]
theorem okc_1 {x : Int32} (h : p_okc 1 x) : x ≠ -3 := by
  rcases h with ⟨n, hn, rfl⟩ | rfl | rfl | ⟨-, h⟩ | rfl | rfl | rfl | rfl | rfl | rfl | rfl | rfl | rfl | rfl
  · exact fun z => nI_pos (by omega) (show nI n < 0 by rw [z]; decide)
  · decide
  · decide
  · exact absurd rfl h
  all_goals decide
def p_top (c : Nat → Int64) (e : Nat) : Prop := e < 5 ∧ c e ≠ 0 ∧ ∀ j, e < j → j < 5 → c j = 0
theorem p_hs_z {c : Nat → Int64} {t : Int64} : ∀ (n k : Nat), (∀ j, k ≤ j → j < k + n → c j = 0) → p_hs c t k n = 0
  | 0, k, _ => rfl
  | n + 1, k, h => by
    unfold p_hs
    rw [p_hs_z n (k + 1) (fun j h1 h2 => h j (by omega) (by omega)), h k (by omega) (by omega)]
    grind
theorem p_of_top (t : Int64) : ∀ (e n : Nat) (c : Nat → Int64), p_top c e → p_of t (e + n) c ≤ e ∧ p_of t (e + n) c = p_of t e c
  | 0, 0, c, h => ⟨Nat.le_refl 0, rfl⟩
  | 0, n + 1, c, h => by
    have h0 : p_hs c t 0 5 ≠ 0 := by
      unfold p_hs
      rw [p_hs_z 4 1 (fun j h1 h2 => h.2.2 j (by omega) (by omega))]
      have := h.2.1
      grind
    rw [Nat.zero_add]
    unfold p_of
    rw [if_neg h0]
    exact ⟨Nat.le_refl 0, rfl⟩
  | e + 1, n, c, h => by
    rw [show e + 1 + n = (e + n) + 1 by omega]
    unfold p_of
    by_cases h0 : p_hs c t 0 5 = 0
    · rw [if_pos h0, if_pos h0]
      have h5 := h.1
      have ht : p_top (p_dv t c) e := by
        refine ⟨by omega, ?_, fun j h1 h2 => ?_⟩
        · unfold p_dv
          rw [if_pos (by omega), show 4 - e = (3 - e) + 1 by omega]
          unfold p_hs
          rw [p_hs_z (3 - e) (e + 1 + 1) (fun j h1 h2 => h.2.2 j (by omega) (by omega))]
          have := h.2.1
          grind
        · unfold p_dv
          rw [if_pos h2]
          exact p_hs_z _ _ (fun i h3 h4 => h.2.2 i (by omega) (by omega))
      have ih := p_of_top t e n (p_dv t c) ht
      omega
    · rw [if_neg h0, if_neg h0]
      exact ⟨by omega, rfl⟩
theorem p_top_of {c : Nat → Int64} {k : Nat} (hk : k < 5) (h : c k ≠ 0) : ∃ e, p_top c e := by
  by_cases h4 : c 4 = 0
  · by_cases h3 : c 3 = 0
    · by_cases h2 : c 2 = 0
      · by_cases h1 : c 1 = 0
        · refine ⟨0, by decide, fun h0 => ?_, fun j h5 h6 => ?_⟩
          · rcases (show k = 0 ∨ k = 1 ∨ k = 2 ∨ k = 3 ∨ k = 4 by omega) with rfl | rfl | rfl | rfl | rfl <;> contradiction
          · rcases (show j = 1 ∨ j = 2 ∨ j = 3 ∨ j = 4 by omega) with rfl | rfl | rfl | rfl <;> assumption
        · refine ⟨1, by decide, h1, fun j h5 h6 => ?_⟩
          rcases (show j = 2 ∨ j = 3 ∨ j = 4 by omega) with rfl | rfl | rfl <;> assumption
      · refine ⟨2, by decide, h2, fun j h5 h6 => ?_⟩
        rcases (show j = 3 ∨ j = 4 by omega) with rfl | rfl <;> assumption
    · refine ⟨3, by decide, h3, fun j h5 h6 => ?_⟩
      rw [show j = 4 by omega]; exact h4
  · exact ⟨4, by decide, h4, fun j h5 h6 => by omega⟩
section SLOPE9
variable {K : Nat} {S I : Nat → Nat → Int32} {L : Nat → Nat → Int64} {T : Nat → Nat → Option Nat} {Λ : Nat → p_Lw}
theorem q9_lowestOf {s m k : Nat} (hs : s < 40) (hm : m ≤ 16) (hk : k ≤ 4) : fX9_lowestOf 96 (nI s) (nI m) (nI k) (p_H K S I L T Λ) = some (p_dg (p_s9 L s) m k) := by
  unfold fX9_lowestOf p_dg p_s9
  rw [gM_o, Option.bind_some]
  by_cases h : k ≤ m
  · rw [if_pos (nI_le h (by omega)), if_pos ⟨h, by omega⟩, pk_sub h]
    simp only [gM_o, gM_0, gM_1, gM_2, gM_3, gM_4, gM_5, gM_6, gM_7, gM_8, gM_9, gM_10, gM_11, gM_12, gM_13, gM_14, gM_15, gM_16, gM_17, gM_18, gM_19, gM_20, gM_21, gM_22, gM_23, gM_24, gM_25, gM_26, gM_27, gM_28, gM_29, gM_30, gM_31, gM_32, gM_33, gM_34, gM_35, gM_36, gM_37, gM_38, gM_39, gM_p3, gM_p7, gM_p8, gM_p9, gM_p13, gM_p14, gM_p15, gM_p16, gM_p17, gM_p18, gM_p19, gM_p23, gM_p24, gM_p26, gM_p39, Option.bind_some, e_on, nI_mul, nI_add]
    rw [p_ldL pk_101 (by omega) (by decide), Option.bind_some, show 85 * s + 5 * (m - k) + k = 85 * s + (5 * (m - k) + k) by omega]
  · rw [if_neg (nI_ge (by omega) (by omega)), if_neg (fun z => h z.1)]
theorem root9_go {s m : Nat} (hs : s < 40) (hm : m ≤ 16) (t : Int32) : ∀ (d f k : Nat), k + d = 5 → fX9_isRoot_L6 (p_H K S I L T Λ) (d + 1 + f) 96 (nI s) (nI m) t (p_rs (p_s9 L s) m t.toInt64 k) (nI k) = some (decide (p_sl (p_s9 L s) m t.toInt64 = 0))
  | 0, f, k, hk => by
    rw [show 0 + 1 + f = f + 1 by omega]
    show fX9_isRoot_b6 _ _ _ _ _ _ _ _ = _
    unfold fX9_isRoot_b6
    rw [if_pos (nI_le (by omega) (by omega)), show k = 5 by omega, p_rs_sl]
    by_cases h : p_sl (p_s9 L s) m t.toInt64 = 0
    · rw [if_pos ((lg_cmp_eq _ _).mpr h), decide_eq_true h]
    · rw [if_neg (fun z => h ((lg_cmp_eq _ _).mp z)), decide_eq_false h]
  | d + 1, f, k, hk => by
    rw [show d + 1 + 1 + f = (d + 1 + f) + 1 by omega]
    have ih := root9_go hs hm t d f (k + 1) (by omega)
    show fX9_isRoot_b6 _ _ _ _ _ _ _ _ = _
    unfold fX9_isRoot_b6
    rw [if_neg (nI_ge (by omega) (by omega)), q9_lowestOf hs hm (by omega), Option.bind_some, q9_raised _ (by omega), Option.bind_some, nI_s]
    exact ih
theorem q9_isRoot {s m : Nat} (hs : s < 40) (hm : m ≤ 16) (t : Int32) : fX9_isRoot 96 (nI s) (nI m) t (p_H K S I L T Λ) = some (decide (p_sl (p_s9 L s) m t.toInt64 = 0)) := by
  unfold fX9_isRoot
  rw [gM_o, Option.bind_some]
  exact root9_go hs hm t 5 194 0 (by omega)
theorem q9_isSlope {n s m u : Nat} {lw : Nat → Nat} (h : p_w9 I Λ lw n) (hs : s < 40) (hm : m ≤ 16) : ∃ I2, fX9_isSlope 96 (nI s) (nI m) (nI u - nI 5) (p_H K S I L T Λ) = some (p_slp Λ lw n (p_s9 L s) m u, (p_H K S (I2) L T Λ)) ∧ p_fr [111, 112] I I2 := by
  unfold fX9_isSlope p_slp
  rw [gM_o, Option.bind_some, q9_isRoot hs hm, Option.bind_some]
  by_cases h0 : p_sl (p_s9 L s) m (nI u - nI 5).toInt64 = 0
  · rw [decide_eq_true h0, if_neg eb_t]
    simp only [gM_29, Option.bind_some, e_on, p_stI pk_112 (show 0 < 4 by decide) (by decide), p_stI pk_112 (show 1 < 4 by decide) (by decide)]
    rw [va_up_up, va_up_s]
    generalize hA : upd (upd (I 112) 0 (nI u - nI 5)) 1 (nI m) = A
    have f112 : p_fr [111, 112] I (va_up I 112 A) := (p_fr.rf _ _).up (by simp) _
    rcases q9_lg (S := S) (L := L) (T := T) (K := K) h (show 1 ≤ 2 by decide) with ⟨h1, h2⟩ | ⟨t, h1, h2, h3, h4⟩
    · rw [h2, Option.bind_some, if_pos (by decide)]
      refine ⟨_, ?_, f112⟩
      unfold p_lg
      rw [h1, if_pos rfl]
      rfl
    · rw [h3, Option.bind_some, if_neg (nI_pos (by have := h.1; omega))]
      have h9 := h.fr (I' := va_up I 112 A) (va_up_n (by decide))
      obtain ⟨st', hg⟩ := q9_works (S := S) (I := va_up I 112 A) (L := L) (T := T) (K := K) (Λ := Λ) (show t < 14 by have := h.1; omega) (h9.2.2.1 t h1) (h9.2.2.2 t h1)
      refine ⟨_, ?_, f112.up (k := 111) (by simp) st'⟩
      rw [hg, Option.bind_some, va_up_s]
      have hx := h.2.2.1 t h1
      obtain ⟨ky, hk2, hk3, -, -, hcode⟩ := hx
      have hky : ky = 1 := (nI_eq (by omega) (by decide)).mp (hk3.symm.trans h4)
      have e3 : ev_of (A 0) (A 1) (A 2) (Λ (lw t)).2.2 (Λ (lw t)).2.1 = p_lg Λ lw n (nI 1) (nI u - nI 5) (nI m) (nI 0) (nI 1) := by
        unfold p_lg
        rw [h2, if_neg (nI_m1 (by have := h.1; omega)), nI_clamp (by have := h.1; omega), ← hA]
        unfold ev_of
        rw [show upd (upd (I 112) 0 (nI u - nI 5)) 1 (nI m) 0 = nI u - nI 5 from rfl, show upd (upd (I 112) 0 (nI u - nI 5)) 1 (nI m) 1 = nI m from rfl, ev_stk_c _ _ (upd (upd (I 112) 0 (nI u - nI 5)) 1 (nI m) 2) (nI 0) (Λ (lw t)).2.1 (fun k hk => okc_1 (by have := (hcode k hk).2; rw [hky] at this; exact this))]
      simp only [e3]
      by_cases hz : p_lg Λ lw n (nI 1) (nI u - nI 5) (nI m) (nI 0) (nI 1) = 0
      · rw [if_pos hz, decide_eq_true hz]; rfl
      · rw [if_neg hz, decide_eq_false hz]; rfl
  · rw [decide_eq_false h0, if_pos eb_f]
    exact ⟨I, rfl, p_fr.rf _ _⟩
theorem slopes9_go {n s m : Nat} {lw : Nat → Nat} (hm : m ≤ 16) : ∀ (d f u : Nat) (I : Nat → Nat → Int32), u + d = 11 → p_w9 I Λ lw n → ∃ I2, fX9_slopes_L47 (d + 1 + f) 96 (nI m) (p_bits (p_slp Λ lw n (p_s9 L 0) m) u) (nI u - nI 5) (p_H K S I L T Λ) = some (p_bits (p_slp Λ lw n (p_s9 L 0) m) 11, (p_H K S (I2) L T Λ)) ∧ p_fr [111, 112] I I2
  | 0, f, u, I, hu, h => by
    refine ⟨I, ?_, p_fr.rf _ _⟩
    rw [show 0 + 1 + f = f + 1 by omega]
    show fX9_slopes_b47 _ _ _ _ _ _ = _
    unfold fX9_slopes_b47
    rw [show u = 11 by omega, if_pos t6_e]
  | d + 1, f, u, I, hu, h => by
    rw [show d + 1 + 1 + f = (d + 1 + f) + 1 by omega]
    obtain ⟨I1, g1, g2⟩ := q9_isSlope (S := S) (L := L) (T := T) (K := K) (u := u) h (show 0 < 40 by decide) hm
    obtain ⟨I2, k1, k2⟩ := slopes9_go (s := s) hm d f (u + 1) I1 (by omega) (h.fr (g2 97 (by decide)))
    refine ⟨I2, ?_, g2.tr k2⟩
    rw [← k1]
    show fX9_slopes_b47 _ _ _ _ _ _ = _
    unfold fX9_slopes_b47 fX9_slopes_b77
    rw [if_neg (t6_n (by omega)), g1, Option.bind_some, t5_s, t5_a]
    show (if e_b (p_slp Λ lw n (p_s9 L 0) m u) = 0 then _ else _) = fX9_slopes_L47 _ _ _ (if p_slp Λ lw n (p_s9 L 0) m u then _ else _) _ _
    cases p_slp Λ lw n (p_s9 L 0) m u
    · rw [if_pos eb_f, if_neg (by decide), show p_bits (p_slp Λ lw n (p_s9 L 0) m) u ||| nI 0 = p_bits (p_slp Λ lw n (p_s9 L 0) m) u by rw [nI_0]; simp]
    · rw [if_neg eb_t, if_pos rfl]
theorem pt2_go (t : Int32) (c : Nat → Int64) : ∀ (n f : Nat), n ≤ 5 → fX9_parts_L43 (n + 1 + f) 96 t (p_hs c t.toInt64 n (5 - n)) (nI n - nI 1) (p_H K S I (va_up L 102 (fun k => if n ≤ k ∧ k < 5 then p_hs c t.toInt64 (k + 1) (4 - k) else c k)) T Λ) = some (true, (p_H K S I (va_up L 102 (p_dv t.toInt64 c)) T Λ))
  | 0, f, hn => by
    rw [show 0 + 1 + f = f + 1 by omega]
    show fX9_parts_b43 _ _ _ _ _ _ = _
    unfold fX9_parts_b43
    rw [if_pos (by decide)]
    congr 3
    congr 1
    funext k
    unfold p_dv
    by_cases h : k < 5
    · rw [if_pos h, if_pos ⟨Nat.zero_le _, h⟩]
    · rw [if_neg h, if_neg (fun z => h z.2)]
  | n + 1, f, hn => by
    rw [show n + 1 + 1 + f = (n + 1 + f) + 1 by omega, show nI (n + 1) - nI 1 = nI n from nI_pred n]
    show fX9_parts_b43 _ _ _ _ _ _ = _
    unfold fX9_parts_b43
    simp only [gM_6, Option.bind_some, e_on, p_ldL pk_102 (show n < 5 by omega) (by decide), p_stL pk_102 (show n < 5 by omega) (by decide)]
    rw [if_neg (nI_pos (by omega)), va_up_up, va_up_s, if_neg (by omega), show nI n + (-1 : Int32) = nI n - nI 1 from (Int32.sub_eq_add_neg _ _).symm, ← pt2_go t c n f (by omega)]
    congr 1
    · rw [show 5 - n = (5 - (n + 1)) + 1 by omega]
      rfl
    · congr 2
      funext k
      simp only [vp_updL]
      by_cases e : k = n
      · subst e
        rw [if_pos rfl, if_pos (by omega), show 5 - (k + 1) = 4 - k by omega]
      · rw [if_neg e]
        by_cases h : n + 1 ≤ k ∧ k < 5
        · rw [if_pos h, if_pos (by omega)]
        · rw [if_neg h, if_neg (by omega)]
theorem pt1_go (t : Int32) : ∀ (n f : Nat), n ≤ 5 → fX9_parts_L5 (n + 1 + f) 96 t (p_hs (L 102) t.toInt64 n (5 - n)) (nI n - nI 1) (p_H K S I L T Λ) = if p_hs (L 102) t.toInt64 0 5 = 0 then some (true, (p_H K S I (va_up L 102 (p_dv t.toInt64 (L 102))) T Λ)) else some (false, (p_H K S I L T Λ))
  | 0, f, hn => by
    rw [show 0 + 1 + f = f + 1 by omega]
    show fX9_parts_b5 _ _ _ _ _ _ = _
    unfold fX9_parts_b5
    rw [if_pos (by decide)]
    by_cases h : p_hs (L 102) t.toInt64 0 5 = 0
    · have h2 := pt2_go (S := S) (I := I) (L := L) (T := T) (Λ := Λ) (K := K) t (L 102) 5 194 (by omega)
      have e : (fun k => if 5 ≤ k ∧ k < 5 then p_hs (L 102) t.toInt64 (k + 1) (4 - k) else L 102 k) = L 102 := by
        funext k
        rw [if_neg (by omega)]
      rw [e, p_up_id] at h2
      rw [if_pos ((lg_cmp_eq _ _).mpr h), if_pos h]
      exact h2
    · rw [if_neg (fun z => h ((lg_cmp_eq _ _).mp z)), if_neg h]
  | n + 1, f, hn => by
    rw [show n + 1 + 1 + f = (n + 1 + f) + 1 by omega, show nI (n + 1) - nI 1 = nI n from nI_pred n]
    show fX9_parts_b5 _ _ _ _ _ _ = _
    unfold fX9_parts_b5
    simp only [gM_6, Option.bind_some, e_on, p_ldL pk_102 (show n < 5 by omega) (by decide)]
    rw [if_neg (nI_pos (by omega)), show nI n + (-1 : Int32) = nI n - nI 1 from (Int32.sub_eq_add_neg _ _).symm, ← pt1_go t n f (by omega)]
    congr 1
    rw [show 5 - n = (5 - (n + 1)) + 1 by omega]
    rfl
theorem q9_parts (t : Int32) : fX9_parts 96 t (p_H K S I L T Λ) = if p_hs (L 102) t.toInt64 0 5 = 0 then some (true, (p_H K S I (va_up L 102 (p_dv t.toInt64 (L 102))) T Λ)) else some (false, (p_H K S I L T Λ)) := by
  unfold fX9_parts
  rw [gM_o, Option.bind_some]
  exact pt1_go t 5 194 (by omega)
theorem often92_go (t : Int32) : ∀ (d f k : Nat) (c : Nat → Int64), p_of t.toInt64 d c < d → k + d < 200 → ∃ c', fX9_often_L86 (d + f) 96 t (nI k) (p_H K S I (va_up L 102 c) T Λ) = some (nI (k + p_of t.toInt64 d c), (p_H K S I (va_up L 102 c') T Λ))
  | 0, f, k, c, hk, _ => by omega
  | d + 1, f, k, c, hk, hd => by
    rw [show d + 1 + f = (d + f) + 1 by omega]
    show ∃ c', fX9_often_b86 _ _ _ _ _ = _
    unfold fX9_often_b86
    unfold p_of at hk ⊢
    rw [q9_parts, va_up_s]
    by_cases h : p_hs c t.toInt64 0 5 = 0
    · rw [if_pos h] at hk
      obtain ⟨c', g⟩ := often92_go t d f (k + 1) (p_dv t.toInt64 c) (by omega) (by omega)
      refine ⟨c', ?_⟩
      rw [if_pos h, if_pos h, Option.bind_some, va_up_up, nI_s]
      show (if e_b true = 0 then _ else _) = _
      rw [if_neg eb_t, g, show k + 1 + p_of t.toInt64 d (p_dv t.toInt64 c) = k + (p_of t.toInt64 d (p_dv t.toInt64 c) + 1) by omega]
    · refine ⟨c, ?_⟩
      rw [if_neg h, if_neg h, Option.bind_some]
      rfl
theorem often91_go {m : Nat} (hm : m ≤ 16) (hz : ∃ k, k < 5 ∧ p_dg (p_s9 L 0) m k ≠ 0) (t : Int32) : ∀ (d f k : Nat) (c : Nat → Int64), k + d = 5 → (∀ j, j < k → c j = p_dg (p_s9 L 0) m j) → ∃ c', fX9_often_L55 (d + 1 + f) 96 t (nI m) (nI k) (p_H K S I (va_up L 102 c) T Λ) = some (nI (p_of t.toInt64 4 (p_dg (p_s9 L 0) m)), (p_H K S I (va_up L 102 c') T Λ))
  | 0, f, k, c, hk, hc => by
    have e5 : ∀ j, j < 5 → c j = p_dg (p_s9 L 0) m j := fun j hj => hc j (by omega)
    obtain ⟨kk, h1, h2⟩ := hz
    obtain ⟨e, he⟩ := p_top_of h1 h2
    have h3 := p_of_top t.toInt64 e (5 - e) _ he
    have h4 := p_of_top t.toInt64 e (4 - e) _ he
    have he5 := he.1
    rw [show e + (5 - e) = 5 by omega] at h3
    rw [show e + (4 - e) = 4 by omega] at h4
    obtain ⟨c', g⟩ := often92_go (S := S) (I := I) (L := L) (T := T) (Λ := Λ) (K := K) t 5 195 0 c (by rw [p_of_eq _ 5 e5]; omega) (by omega)
    refine ⟨c', ?_⟩
    rw [show 0 + 1 + f = f + 1 by omega]
    show fX9_often_b55 _ _ _ _ _ _ = _
    unfold fX9_often_b55
    rw [if_pos (nI_le (by omega) (by omega))]
    rw [Nat.zero_add, p_of_eq _ 5 e5, h3.2, ← h4.2] at g
    exact g
  | d + 1, f, k, c, hk, hc => by
    have hL : p_s9 (va_up L 102 c) 0 = p_s9 L 0 := rfl
    obtain ⟨c', g⟩ := often91_go hm hz t d f (k + 1) (vp_updL c k (p_dg (p_s9 L 0) m k)) (by omega) (fun j hj => by
      simp only [vp_updL]
      by_cases e : j = k
      · rw [if_pos e, e]
      · rw [if_neg e]; exact hc j (by omega))
    refine ⟨c', ?_⟩
    rw [show d + 1 + 1 + f = (d + 1 + f) + 1 by omega, ← g]
    show fX9_often_b55 _ _ _ _ _ _ = _
    unfold fX9_often_b55
    simp only [gM_6, Option.bind_some, e_on]
    rw [if_neg (nI_ge (by omega) (by omega)), q9_lowestOf (by decide) hm (by omega), Option.bind_some, p_stL pk_102 (by omega) (by decide), Option.bind_some, hL, va_up_up, va_up_s, nI_s]
end SLOPE9
