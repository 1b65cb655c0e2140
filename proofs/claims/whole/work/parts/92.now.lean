-- a world changes, what lies elsewhere stays
theorem p_wr.fr {w a : Nat} {S S' I I' : Nat → Nat → Int32} {T : Nat → Nat → Option Nat} {K : Nat} {Λ : Nat → p_Lw} {lw : Nat → Nat} {cn tn : Nat} (h : p_wr w a S I T K Λ lw cn tn) (hS : ∀ x, w ≤ x → x < w + 16 → S' x = S x) (hI : ∀ x, w + 4 ≤ x → x < w + 16 → I' x = I x) (hA : I' a = I a) : p_wr w a S' I' T K Λ lw cn tn := by
  unfold p_wr at h ⊢
  rw [hS w (by omega) (by omega), hA]
  refine ⟨h.1, fun c hc => ?_, h.2.2⟩
  rw [hS (w + 4 + 2 * c) (by omega) (by omega), hI (w + 4 + 2 * c + 1) (by omega) (by omega)]
  exact h.2.1 c hc
def p_ca (S I : Nat → Nat → Int32) (c : Nat) : Prop := S (5 + 2 * c) 0 = I 97 (3 + 16 * c) ∧ (∃ k, k ≤ 5 ∧ I 97 (3 + 16 * c) = nI k) ∧ ∀ x, x < 15 → I (5 + 2 * c + 1) x = I 97 (4 + 16 * c + x) ∧ p_bd (I 97 (4 + 16 * c + x))
theorem p_wr.ca {S I : Nat → Nat → Int32} {T : Nat → Nat → Option Nat} {K : Nat} {Λ : Nat → p_Lw} {lw : Nat → Nat} {cn tn : Nat} (h : p_wr 1 97 S I T K Λ lw cn tn) {c : Nat} (hc : c < 6) : p_ca S I c := by
  have := h.2.1 c hc
  rw [show 1 + 4 + 2 * c = 5 + 2 * c by omega] at this
  exact this
theorem p_rt.fr {A A' : Nat → Int32} {Λ : Nat → p_Lw} {lw : Nat → Nat} {n : Nat} (h : p_rt A Λ lw n) (hA : ∀ k, 99 ≤ k → A' k = A k) : p_rt A' Λ lw n := fun t ht => by
  obtain ⟨k, h1, h2, h3, h4, h5⟩ := h t ht
  refine ⟨k, h1, h2, ?_, ?_, fun i hi => ?_⟩
  · rw [hA _ (by omega)]; exact h3
  · rw [hA _ (by omega)]; exact h4
  · rw [hA _ (by omega)]; exact h5 i hi
theorem p_wr.mk {S S' I I' : Nat → Nat → Int32} {T : Nat → Nat → Option Nat} {K : Nat} {Λ : Nat → p_Lw} {lw : Nat → Nat} {cn tn cn' : Nat} (h : p_wr 1 97 S I T K Λ lw cn tn) (hcn : cn' ≤ 6) (h0 : S' 1 0 = nI cn') (h1 : I' 97 1 = nI cn') (hz : S' 1 2 = I' 97 0) (ht : S' 1 1 = S 1 1) (hk : ∀ k, 99 ≤ k ∨ k = 2 → I' 97 k = I 97 k) (hc : ∀ c, c < 6 → p_ca S' I' c) : p_wr 1 97 S' I' T K Λ lw cn' tn := by
  refine ⟨⟨hcn, h0, h1, hz⟩, fun c hcc => ?_, h.2.2.1, ?_, ?_, h.2.2.2.2.2.1, h.2.2.2.2.2.2.1, h.2.2.2.2.2.2.2.fr (fun k hkk => hk k (Or.inl hkk))⟩
  · rw [show 1 + 4 + 2 * c = 5 + 2 * c by omega]
    exact hc c hcc
  · rw [ht]; exact h.2.2.2.1
  · rw [hk 2 (Or.inr rfl)]; exact h.2.2.2.2.1
theorem p_inv.now {S S' I I' : Nat → Nat → Int32} {T : Nat → Nat → Option Nat} {K : Nat} {Λ : Nat → p_Lw} {lw : Nat → Nat} {cn tn : Nat} (h : p_inv K S I T Λ) (hS : ∀ a, a = 0 ∨ (16 < a ∧ a ≠ 33 ∧ a ≠ 45 ∧ a ≠ 57 ∧ a ≠ 96) → S' a = S a) (e1 : S' 57 0 = S 57 0) (e2 : S' 96 3 = S 96 3) (e3 : S' 96 13 = S 96 13) (e4 : S' 96 39 = S 96 39) (hI : ∀ a, 16 < a → a ≠ 97 → a ∉ p_scI → I' a = I a) (hw : p_wr 1 97 S' I' T K Λ lw cn tn) : p_inv K S' I' T Λ := by
  obtain ⟨-, ⟨b, h2, h3, h4⟩, ⟨l, h5, h6, h7, h8⟩, ⟨m, h9, h10, h11, h12⟩, h13, h14, h15⟩ := h
  refine ⟨⟨lw, cn, tn, hw⟩, ⟨b, ?_, ?_, fun hb => ?_⟩, ⟨l, h5, ?_, ?_, ?_⟩, ⟨m, h9, ?_, ?_, ?_⟩, fun s hs => ?_, fun s hs => ?_, ?_⟩
  · rw [hS 0 (by decide)]; exact h2
  · rw [e2]; exact h3
  · obtain ⟨lw, cn, tn, h⟩ := h4 hb
    exact ⟨lw, cn, tn, h.fr (fun x h1 h2 => hS x (by omega)) (fun x h1 h2 => hI x (by omega) (by omega) (p_sc_n (by omega))) (hI 98 (by decide) (by decide) (by decide))⟩
  · rw [e1]; exact h6
  · rw [e3]; exact h7
  · rw [hI 58 (by decide) (by decide) (by decide), hI 105 (by decide) (by decide) (by decide)]; exact h8
  · rw [hS 0 (by decide)]; exact h10
  · rw [e4]; exact h11
  · rw [hI 62 (by decide) (by decide) (by decide), hI 121 (by decide) (by decide) (by decide)]; exact h12
  · rw [hS (63 + 2 * s) (by omega), hI 113 (by decide) (by decide) (by decide), hI 114 (by decide) (by decide) (by decide), hI 115 (by decide) (by decide) (by decide), hI (63 + 2 * s + 1) (by omega) (by omega) (p_sc_n (by omega))]
    exact h13 s hs
  · rw [hS (71 + 5 * s) (by omega), hS (72 + 5 * s) (by omega), hS (74 + 5 * s) (by omega), hI 116 (by decide) (by decide) (by decide), hI 117 (by decide) (by decide) (by decide), hI 118 (by decide) (by decide) (by decide), hI 119 (by decide) (by decide) (by decide), hI (72 + 5 * s + 1) (by omega) (by omega) (p_sc_n (by omega)), hI (74 + 5 * s + 1) (by omega) (by omega) (p_sc_n (by omega))]
    exact h14 s hs
  · unfold p_key9 at h15 ⊢
    rw [hI 106 (by decide) (by decide) (by decide), hI 107 (by decide) (by decide) (by decide)]
    exact h15
theorem neg_div {a : Int32} (h : a < 0) : a / nI 10 < 0 ∨ (a / nI 10 = 0 ∧ a - a / nI 10 * nI 10 < 0) := by
  have h10 : a.toInt < 0 := Int32.lt_iff_toInt_lt.mp h
  by_cases e : a / nI 10 < 0
  · exact Or.inl e
  · have e0 : a / nI 10 = 0 := by
      have e1 : (a / nI 10).toInt = a.toInt.tdiv 10 := by
        rw [Int32.toInt_div_of_ne_right _ _ (by decide)]
        rfl
      have e2 : ¬ (a / nI 10).toInt < 0 := fun z => e (Int32.lt_iff_toInt_lt.mpr z)
      have e3 : a.toInt.tdiv 10 ≤ 0 := tdiv_np (by omega)
      apply Int32.toInt_inj.mp
      rw [e1] at e2 ⊢
      show _ = (0 : Int)
      omega
    refine Or.inr ⟨e0, ?_⟩
    rw [e0, show a - 0 * nI 10 = a by grind]
    exact h
theorem at_or (a : Int32) : (∃ i j, i + j ≤ 4 ∧ a / nI 10 = nI i ∧ a - a / nI 10 * nI 10 = nI j ∧ fX9_isAt a = some true ∧ fX8_indexOf (nI i) (nI j) = some (nI (p_ixn i j))) ∨ (fX9_isAt a = some false ∧ fX8_indexOf (a / nI 10) (a - a / nI 10 * nI 10) = some (-1)) := by
  by_cases h0 : a < 0
  · refine Or.inr ⟨by unfold fX9_isAt; rw [if_pos h0], ?_⟩
    unfold fX8_indexOf
    rcases neg_div h0 with h | ⟨h1, h2⟩
    · rw [if_pos h]
    · rw [h1] at h2 ⊢
      rw [if_neg (by decide), if_neg (by decide), if_pos h2]
  · obtain ⟨k, hk, rfl⟩ := nI_of h0
    rw [nI_mod hk (by decide), nI_div hk (by decide)]
    by_cases h : k / 10 + k % 10 ≤ 4
    · refine Or.inl ⟨k / 10, k % 10, h, rfl, rfl, ?_, q_indexOf h⟩
      unfold fX9_isAt
      rw [if_neg h0, nI_mod hk (by decide), nI_div hk (by decide), nI_add, if_neg (nI_nlt h (by omega))]
    · refine Or.inr ⟨?_, ?_⟩
      · unfold fX9_isAt
        rw [if_neg h0, nI_mod hk (by decide), nI_div hk (by decide), nI_add, if_pos (nI_lt (by omega) (by omega))]
      · unfold fX8_indexOf
        rw [if_neg (nI_pos (by omega))]
        by_cases h5 : 5 ≤ k / 10
        · rw [if_pos (nI_le h5 (by omega))]
        · rw [if_neg (nI_ge (by omega) (by omega)), if_neg (nI_pos (by omega)), pk_sub (by omega), if_neg (nI_ge (by omega) (by omega))]
theorem pk_c {c : Nat} (hc : c < 6) : p_isC (5 + 2 * c) := by
  have := pk_cw (w := 1) (Or.inl rfl) hc
  rw [show 1 + 4 + 2 * c = 5 + 2 * c by omega] at this
  exact this
theorem kind_or (k : Int32) : (∃ j, j ≤ 5 ∧ k = nI j ∧ fX8_isKind k = some true ∧ fX9_in k (nI 0) (nI 5) = some true) ∨ (fX8_isKind k = some false ∧ fX9_in k (nI 0) (nI 5) = some false) := by
  have e : fX8_isKind k = fX9_in k (nI 0) (nI 5) := rfl
  rw [e]
  rcases rng_or k (n := 5) (by decide) with ⟨j, hj, rfl⟩ | ⟨hno, hr⟩
  · exact Or.inl ⟨j, hj, rfl, in_yes hj (by decide), in_yes hj (by decide)⟩
  · exact Or.inr ⟨in_no hr, in_no hr⟩
theorem v99_or (v : Int32) : (p_bd v ∧ ¬ v < (-99 : Int32) ∧ v ≤ nI 99 ∧ fX9_in v (-99) (nI 99) = some true) ∨ ((v < (-99 : Int32) ∨ (¬ v < (-99 : Int32) ∧ ¬ v ≤ nI 99)) ∧ fX9_in v (-99) (nI 99) = some false) := by
  unfold fX9_in
  by_cases h : v < (-99 : Int32)
  · exact Or.inr ⟨Or.inl h, by rw [if_pos h]⟩
  · by_cases h2 : v ≤ nI 99
    · refine Or.inl ⟨⟨?_, ?_⟩, h, h2, by rw [if_neg h, if_neg (fun z => i32_nlt h2 z)]⟩
      · have : ¬ v.toInt < (-99 : Int32).toInt := fun z => h (Int32.lt_iff_toInt_lt.mpr z)
        have e : (-99 : Int32).toInt = -99 := rfl
        omega
      · have := Int32.le_iff_toInt_le.mp h2
        have e : (nI 99).toInt = 99 := rfl
        omega
    · exact Or.inr ⟨Or.inr ⟨h, h2⟩, by rw [if_neg h, if_pos (i32_lt h2)]⟩
section NOW
variable {K : Nat} {S I : Nat → Nat → Int32} {L : Nat → Nat → Int64} {T : Nat → Nat → Option Nat} {Λ : Nat → p_Lw}
theorem k_cur {lw : Nat → Nat} {cn tn k : Nat} (h : p_wr 1 97 S I T K Λ lw cn tn) (hk : k < cn) : fX7_curveOf 1 (nI k) (p_H K S I L T Λ) = some (some (5 + 2 * k)) := by
  rw [q_curveOf (Or.inl rfl) h.1.1 h.1.2.1 hk]
theorem k_cur_no {lw : Nat → Nat} {cn tn : Nat} {c : Int32} (h : p_wr 1 97 S I T K Λ lw cn tn) (hc : c < 0 ∨ nI cn ≤ c) : fX7_curveOf 1 c (p_H K S I L T Λ) = some none := q_curveOf_no (Or.inl rfl) h.1.1 h.1.2.1 hc
theorem k_isCurve {cn k : Nat} (h : I 97 1 = nI cn) (hcn : cn ≤ 6) (hk : k < cn) : fX9_isCurve 96 (nI k) (p_H K S I L T Λ) = some true := by
  rw [q9_isCurve h hcn, decide_eq_true ⟨k, hk, rfl⟩]
theorem k_isCurve_no {cn : Nat} {c : Int32} (h : I 97 1 = nI cn) (hcn : cn ≤ 6) (hc : c < 0 ∨ nI cn ≤ c) : fX9_isCurve 96 c (p_H K S I L T Λ) = some false := by
  rw [q9_isCurve h hcn, decide_eq_false]
  rintro ⟨k, hk, rfl⟩
  rcases hc with z | z
  · exact nI_pos (by omega) z
  · exact nI_ge hk (by omega) z
theorem k_cell {lw : Nat → Nat} {cn tn c x : Nat} {v : Int32} (hinv : p_inv K S I T Λ) (h : p_wr 1 97 S I T K Λ lw cn tn) (hc : c < 6) (hx : x < 15) (hv : p_bd v) : p_inv K S (va_up (va_up I (5 + 2 * c + 1) (upd (I (5 + 2 * c + 1)) x v)) 97 (upd (I 97) (4 + 16 * c + x) v)) T Λ := by
  refine hinv.now (fun a _ => rfl) rfl rfl rfl rfl (fun a h1 h2 h3 => ?_) (h.mk h.1.1 h.1.2.1 ?_ ?_ rfl (fun k hk => ?_) (fun c' hc' => ?_))
  · rw [va_up_n h2, va_up_n (by omega)]
  · rw [va_up_s]
    simp only [upd]
    rw [if_neg (by omega)]
    exact h.1.2.2.1
  · rw [va_up_s]
    simp only [upd]
    rw [if_neg (by omega)]
    exact h.1.2.2.2
  · rw [va_up_s]
    simp only [upd]
    rw [if_neg (by omega)]
  · obtain ⟨h1, h2, h3⟩ := h.ca hc'
    unfold p_ca
    rw [va_up_s]
    simp only [upd]
    rw [if_neg (show ¬ 3 + 16 * c' = 4 + 16 * c + x by omega)]
    refine ⟨h1, h2, fun x' hx' => ?_⟩
    by_cases e : c' = c
    · subst e
      rw [va_up_n (show 5 + 2 * c' + 1 ≠ 97 by omega), va_up_s]
      by_cases e2 : x' = x
      · subst e2
        rw [if_pos rfl]
        simp only [upd, if_pos]
        exact ⟨trivial, hv⟩
      · simp only [upd]
        rw [if_neg e2, if_neg (show ¬ 4 + 16 * c' + x' = 4 + 16 * c' + x by omega)]
        exact h3 x' hx'
    · rw [va_up_n (show 5 + 2 * c' + 1 ≠ 97 by omega), va_up_n (show 5 + 2 * c' + 1 ≠ 5 + 2 * c + 1 by omega), if_neg (show ¬ 4 + 16 * c' + x' = 4 + 16 * c + x by omega)]
      exact h3 x' hx'
end NOW
theorem p_cnt_eq {f f' : Nat → Int32} : ∀ n, (∀ x, x < n → f x = f' x) → p_cnt f n = p_cnt f' n
  | 0, _ => rfl
  | n + 1, h => by
    rw [p_cnt_s, p_cnt_s, p_cnt_eq n (fun x hx => h x (by omega)), h n (by omega)]
theorem p_worth_eq {kd : Int32} {f f' : Nat → Int32} (h : ∀ x, x < 15 → f x = f' x) : p_worth kd f = p_worth kd f' := by
  unfold p_worth
  rw [p_cnt_eq 15 h, h 5 (by decide), h 0 (by decide)]
theorem both_bad {R : Type} {r : R} {f8 f9 : e_H → Option (R × e_H)} {K : Nat} {S I : Nat → Nat → Int32} {L : Nat → Nat → Int64} {T : Nat → Nat → Option Nat} {Λ : Nat → p_Lw} (hinv : p_inv K S I T Λ) (h8 : f8 (p_H K S I L T Λ) = some (r, p_H K S I L T Λ)) (h9 : f9 (p_H K S I L T Λ) = some (r, p_H K S I L T Λ)) : ∃ r h1 K2 S2 I2 L2 T2 Λ2, f8 (p_H K S I L T Λ) = some (r, h1) ∧ f9 h1 = some (r, p_H K2 S2 I2 L2 T2 Λ2) ∧ p_inv K2 S2 I2 T2 Λ2 := ⟨r, _, K, S, I, L, T, Λ, h8, h9, hinv⟩
theorem both_go {R : Type} (r : R) {f8 f9 : e_H → Option (R × e_H)} {h h1 : e_H} {K2 : Nat} {S2 I2 : Nat → Nat → Int32} {L2 : Nat → Nat → Int64} {T2 : Nat → Nat → Option Nat} {Λ2 : Nat → p_Lw} (h8 : f8 h = some (r, h1)) (h9 : f9 h1 = some (r, p_H K2 S2 I2 L2 T2 Λ2)) (hinv : p_inv K2 S2 I2 T2 Λ2) : ∃ r h1 K2 S2 I2 L2 T2 Λ2, f8 h = some (r, h1) ∧ f9 h1 = some (r, p_H K2 S2 I2 L2 T2 Λ2) ∧ p_inv K2 S2 I2 T2 Λ2 := ⟨r, h1, K2, S2, I2, L2, T2, Λ2, h8, h9, hinv⟩
theorem c_put (c a v : Int32) : p_both (fX8_put 0 c a v) (fX9_put 96 c a v) := by
  intro K S I L T Λ hinv
  obtain ⟨lw, cn, tn, hwr⟩ := hinv.1
  have hcn := hwr.1.1
  have h97 := hwr.1.2.2.1
  rcases cur_or c (n := cn) (by omega) with ⟨k, hk, rfl⟩ | hc
  · rcases at_or a with ⟨i, j, hij, h1, h2, h3, h4⟩ | ⟨h3, h4⟩
    · have hx := p_ixn_lt hij
      rcases v99_or v with ⟨hv, h5, h6, h7⟩ | ⟨h5, h7⟩
      · refine both_go (h1 := p_H K S (va_up I (5 + 2 * k + 1) (upd (I (5 + 2 * k + 1)) (p_ixn i j) v)) L T Λ) (I (5 + 2 * k + 1) (p_ixn i j)) ?_ ?_ (k_cell hinv hwr (show k < 6 by omega) hx hv) (L2 := L)
        · unfold fX8_put
          rw [h2, h1]
          simp only [gB_o, gB_0, gB_1, gB_2, gB_3, gB_4, gB_5, gB_6, gB_7, gB_8, gB_9, gB_p8, gB_p9, p_lenF pk_60, p_lenF pk_61, p_lenI pk_62, Option.bind_some, e_on, k_cur hwr hk, h4]
          rw [if_neg (nI_pos (by omega)), if_neg h5, if_pos h6, q_numberAt (pk_c (by omega)) hx, Option.bind_some, q_setNumber (pk_c (by omega)) hx, Option.bind_some]
        · have e97 : va_up I (5 + 2 * k + 1) (upd (I (5 + 2 * k + 1)) (p_ixn i j) v) 97 = I 97 := va_up_n (by omega)
          have ec := ((hwr.ca (show k < 6 by omega)).2.2 _ hx).1
          unfold fX9_put
          rw [h2, h1]
          simp only [gM_o, Option.bind_some, e_on, k_isCurve (show va_up I (5 + 2 * k + 1) (upd (I (5 + 2 * k + 1)) (p_ixn i j) v) 97 1 = nI cn by rw [e97]; exact h97) hcn hk, if_neg eb_t, h3, h7, q9_spot (c := k) (j := j) (show i ≤ 4 by omega), gM_0, p_ldI pk_97 (show 4 + 16 * k + p_ixn i j < 1471 by omega) (by decide), p_stI pk_97 (show 4 + 16 * k + p_ixn i j < 1471 by omega) (by decide), e97]
          rw [ec]
      · refine both_bad (r := -1000000001) hinv ?_ ?_
        · unfold fX8_put
          rw [h2, h1]
          simp only [gB_o, gB_0, gB_1, gB_2, gB_3, gB_4, gB_5, gB_6, gB_7, gB_8, gB_9, gB_p8, gB_p9, p_lenF pk_60, p_lenF pk_61, p_lenI pk_62, Option.bind_some, e_on, k_cur hwr hk, h4]
          rw [if_neg (nI_pos (by omega))]
          rcases h5 with h5 | ⟨h5, h6⟩
          · rw [if_pos h5]
          · rw [if_neg h5, if_neg h6]
        · unfold fX9_put
          simp only [gM_o, Option.bind_some, e_on, k_isCurve h97 hcn hk, if_neg eb_t, h3, h7, if_pos eb_f]
    · refine both_bad (r := -1000000001) hinv ?_ ?_
      · unfold fX8_put
        simp only [gB_o, gB_0, gB_1, gB_2, gB_3, gB_4, gB_5, gB_6, gB_7, gB_8, gB_9, gB_p8, gB_p9, p_lenF pk_60, p_lenF pk_61, p_lenI pk_62, Option.bind_some, e_on, k_cur hwr hk, h4]
        rfl
      · unfold fX9_put
        simp only [gM_o, Option.bind_some, e_on, k_isCurve h97 hcn hk, if_neg eb_t, h3, if_pos eb_f]
  · refine both_bad (r := -1000000001) hinv ?_ ?_
    · obtain ⟨y, hy⟩ : ∃ y, fX8_indexOf (a / nI 10) (a - a / nI 10 * nI 10) = some y := by
        rcases at_or a with ⟨i, j, hij, h1, h2, h3, h4⟩ | ⟨h3, h4⟩
        · exact ⟨_, by rw [h2, h1]; exact h4⟩
        · exact ⟨_, h4⟩
      unfold fX8_put
      simp only [gB_o, gB_0, gB_1, gB_2, gB_3, gB_4, gB_5, gB_6, gB_7, gB_8, gB_9, gB_p8, gB_p9, p_lenF pk_60, p_lenF pk_61, p_lenI pk_62, Option.bind_some, e_on, k_cur_no hwr hc, hy]
    · unfold fX9_put
      simp only [gM_o, Option.bind_some, e_on, k_isCurve_no h97 hcn hc, if_pos eb_f]
theorem c_term (c a w : Int32) : p_both (fX8_term 0 c a w) (fX9_term 96 c a w) := by
  intro K S I L T Λ hinv
  obtain ⟨lw, cn, tn, hwr⟩ := hinv.1
  have hcn := hwr.1.1
  have h97 := hwr.1.2.2.1
  rcases cur_or c (n := cn) (by omega) with ⟨k, hk, rfl⟩ | hc
  · have hk6 : k < 6 := by omega
    rcases at_or a with ⟨i, j, hij, h1, h2, h3, h4⟩ | ⟨h3, h4⟩
    · have hx := p_ixn_lt hij
      rcases rng_or w (n := 1) (by decide) with ⟨ww, hw, rfl⟩ | ⟨hno, hr⟩
      · by_cases h0 : nI ww = 0
        · refine both_bad (r := I (5 + 2 * k + 1) (p_ixn i j)) hinv ?_ ?_
          · unfold fX8_term
            rw [h2, h1]
            simp only [gB_o, gB_0, gB_1, gB_2, gB_3, gB_4, gB_5, gB_6, gB_7, gB_8, gB_9, gB_p8, gB_p9, p_lenF pk_60, p_lenF pk_61, p_lenI pk_62, Option.bind_some, e_on, k_cur hwr hk, h4, up_yes hw (show 1 < 2 ^ 31 by decide), if_pos h0, q_numberAt (pk_c hk6) hx]
            rw [if_neg (nI_pos (by omega))]
          · have ec := ((hwr.ca hk6).2.2 _ hx).1
            unfold fX9_term
            rw [h2, h1]
            simp only [gM_o, Option.bind_some, e_on, k_isCurve h97 hcn hk, if_neg eb_t, h3, in_yes hw (show 1 < 2 ^ 31 by decide), if_pos h0, gM_0, q9_spot (c := k) (j := j) (show i ≤ 4 by omega), p_ldI pk_97 (show 4 + 16 * k + p_ixn i j < 1471 by omega) (by decide)]
            rw [ec]
        · obtain ⟨st, g⟩ := q_termAt (S := S) (I := I) (L := L) (T := T) (K := K) (Λ := Λ) (w := 1) (Or.inl rfl) hwr.2.2.2.2.2.1 hwr.2.2.2.1 hwr.2.2.2.2.2.2.1 (pk_c hk6) hij
          have inv1 : p_inv K S (va_up I 4 st) T Λ := hinv.kp (p_kpS.rf S) ((p_fr.rf _ _).up (by decide) _)
          have hw1 : p_wr 1 97 S (va_up I 4 st) T K Λ lw cn tn := hwr.kp (Or.inl ⟨rfl, rfl⟩) (p_kpS.rf S) ((p_fr.rf _ _).up (by decide) _)
          obtain ⟨e1, ⟨kd, e2, e3⟩, e4⟩ := hw1.ca hk6
          obtain ⟨I2, g2, g3⟩ := q9_termOf (S := S) (L := L) (T := T) (K := K) (k_w9 hw1) hk6 e2 e3 hij (fun x hx => (e4 x hx).2)
          refine both_go (h1 := p_H K S (va_up I 4 st) L T Λ) (L2 := L) (p_tv (S (5 + 2 * k) 0) (I (5 + 2 * k + 1)) (p_tg Λ lw tn) i j) ?_ ?_ (inv1.kp (p_kpS.rf S) (g3.mono (by decide)))
          · unfold fX8_term
            rw [h2, h1]
            simp only [gB_o, gB_0, gB_1, gB_2, gB_3, gB_4, gB_5, gB_6, gB_7, gB_8, gB_9, gB_p8, gB_p9, p_lenF pk_60, p_lenF pk_61, p_lenI pk_62, Option.bind_some, e_on, k_cur hwr hk, h4, up_yes hw (show 1 < 2 ^ 31 by decide), if_neg h0]
            rw [if_neg (nI_pos (by omega)), g]
            rfl
          · unfold fX9_term
            rw [h2, h1]
            simp only [gM_o, Option.bind_some, e_on, k_isCurve (I := va_up I 4 st) h97 hcn hk, if_neg eb_t, h3, in_yes hw (show 1 < 2 ^ 31 by decide), if_neg h0]
            have et : p_tv (nI kd) (fun x => va_up I 4 st 97 (4 + 16 * k + x)) (p_tg Λ lw tn) i j = p_tv (nI kd) (I (5 + 2 * k + 1)) (p_tg Λ lw tn) i j := p_tv_eq (fun x hx => by rw [← (e4 x hx).1, va_up_n (by omega)]) _ hij
            rw [g2, Option.bind_some, e1, e3, et]
      · refine both_bad (r := -1000000001) hinv ?_ ?_
        · unfold fX8_term
          rw [h2, h1]
          simp only [gB_o, gB_0, gB_1, gB_2, gB_3, gB_4, gB_5, gB_6, gB_7, gB_8, gB_9, gB_p8, gB_p9, p_lenF pk_60, p_lenF pk_61, p_lenI pk_62, Option.bind_some, e_on, k_cur hwr hk, h4, up_no hr]
          rw [if_neg (nI_pos (by omega))]
        · unfold fX9_term
          simp only [gM_o, Option.bind_some, e_on, k_isCurve h97 hcn hk, if_neg eb_t, h3, in_no hr, if_pos eb_f]
    · refine both_bad (r := -1000000001) hinv ?_ ?_
      · unfold fX8_term
        simp only [gB_o, gB_0, gB_1, gB_2, gB_3, gB_4, gB_5, gB_6, gB_7, gB_8, gB_9, gB_p8, gB_p9, p_lenF pk_60, p_lenF pk_61, p_lenI pk_62, Option.bind_some, e_on, k_cur hwr hk, h4]
        rfl
      · unfold fX9_term
        simp only [gM_o, Option.bind_some, e_on, k_isCurve h97 hcn hk, if_neg eb_t, h3, if_pos eb_f]
  · refine both_bad (r := -1000000001) hinv ?_ ?_
    · obtain ⟨y, hy⟩ : ∃ y, fX8_indexOf (a / nI 10) (a - a / nI 10 * nI 10) = some y := by
        rcases at_or a with ⟨i, j, hij, h1, h2, h3, h4⟩ | ⟨h3, h4⟩
        · exact ⟨_, by rw [h2, h1]; exact h4⟩
        · exact ⟨_, h4⟩
      unfold fX8_term
      simp only [gB_o, gB_0, gB_1, gB_2, gB_3, gB_4, gB_5, gB_6, gB_7, gB_8, gB_9, gB_p8, gB_p9, p_lenF pk_60, p_lenF pk_61, p_lenI pk_62, Option.bind_some, e_on, k_cur_no hwr hc, hy]
    · unfold fX9_term
      simp only [gM_o, Option.bind_some, e_on, k_isCurve_no h97 hcn hc, if_pos eb_f]
theorem c_told (c w : Int32) : p_both (fX8_told 0 c w) (fX9_told 96 c w) := by
  intro K S I L T Λ hinv
  obtain ⟨lw, cn, tn, hwr⟩ := hinv.1
  have hcn := hwr.1.1
  have h97 := hwr.1.2.2.1
  rcases cur_or c (n := cn) (by omega) with ⟨k, hk, rfl⟩ | hc
  · have hk6 : k < 6 := by omega
    rcases rng_or w (n := 3) (by decide) with ⟨ww, hw, rfl⟩ | ⟨hno, hr⟩
    · by_cases h0 : nI ww = 0
      · refine both_bad (r := S (5 + 2 * k) 0) hinv ?_ ?_
        · unfold fX8_told
          simp only [gB_o, gB_0, gB_1, gB_2, gB_3, gB_4, gB_5, gB_6, gB_7, gB_8, gB_9, gB_p8, gB_p9, p_lenF pk_60, p_lenF pk_61, p_lenI pk_62, Option.bind_some, e_on, k_cur hwr hk, up_yes hw (show 3 < 2 ^ 31 by decide), if_pos h0, gC_0 (pk_c hk6)]
        · unfold fX9_told fX9_told_b29
          simp only [gM_o, Option.bind_some, e_on, k_isCurve h97 hcn hk, if_neg eb_t, in_yes hw (show 3 < 2 ^ 31 by decide), if_pos h0, q9_kindOf hk6]
          rw [(hwr.ca hk6).1]
      · by_cases h2 : nI ww = nI 2
        · refine both_bad (r := p_worth (S (5 + 2 * k) 0) (I (5 + 2 * k + 1))) hinv ?_ ?_
          · unfold fX8_told
            simp only [gB_o, gB_0, gB_1, gB_2, gB_3, gB_4, gB_5, gB_6, gB_7, gB_8, gB_9, gB_p8, gB_p9, p_lenF pk_60, p_lenF pk_61, p_lenI pk_62, Option.bind_some, e_on, k_cur hwr hk, up_yes hw (show 3 < 2 ^ 31 by decide), if_neg h0, if_pos h2, q_worth (pk_c hk6)]
          · unfold fX9_told fX9_told_b29
            simp only [gM_o, Option.bind_some, e_on, k_isCurve h97 hcn hk, if_neg eb_t, in_yes hw (show 3 < 2 ^ 31 by decide), if_neg h0, if_pos h2, q9_worth hk6]
            rw [(hwr.ca hk6).1, p_worth_eq (fun x hx => ((hwr.ca hk6).2.2 x hx).1)]
        · obtain ⟨I1, g1, g2, g3⟩ := q_look (S := S) (I := I) (L := L) (T := T) (K := K) (Λ := Λ) pk_v33 hwr.2.2.2.2.2.1 hwr.2.2.2.1 hwr.2.2.2.2.2.2.1 (pk_c hk6) (by omega) (by omega)
          have fI1 : p_fr p_scI I I1 := g2.mono (by decide)
          have w1 := hwr.kp (Or.inl ⟨rfl, rfl⟩) (p_kpS.rf S) fI1
          have inv1 := hinv.kp (p_kpS.rf S) fI1
          have e97 : I1 97 1 = nI cn := w1.1.2.2.1
          have et := p_tt2_kp (Λ := Λ) (lw := lw) (tn := tn) hk6 (p_kpS.rf S) fI1
          obtain ⟨I2, k1, k2, k3⟩ := k_terms9 (L := L) w1 hk6
          rw [et] at k1 k3
          refine both_go (h1 := p_H K S I1 L T Λ) (L2 := L) (if nI ww = nI 1 then p_deg (p_tt2 S I Λ lw tn k) 25 else nI (p_cnt (p_t25 (p_tt2 S I Λ lw tn k)) 25)) ?_ ?_ (inv1.kp (p_kpS.rf S) (k2.mono (by decide)))
          · have hd := q_degree (S := S) (L := L) (T := T) (K := K) (Λ := Λ) (I := I1) pk_v33 (t := p_tt2 S I Λ lw tn k) g3
            have hn := q_termsNotZero (S := S) (L := L) (T := T) (K := K) (Λ := Λ) (I := I1) pk_v33
            rw [p_cnt_25 (t := p_tt2 S I Λ lw tn k) g3] at hn
            unfold fX8_told
            simp only [gB_o, gB_0, gB_1, gB_2, gB_3, gB_4, gB_5, gB_6, gB_7, gB_8, gB_9, gB_p8, gB_p9, p_lenF pk_60, p_lenF pk_61, p_lenI pk_62, Option.bind_some, e_on, k_cur hwr hk, up_yes hw (show 3 < 2 ^ 31 by decide), if_neg h0, if_neg h2, g1, hd, hn]
            split <;> rfl
          · have hd := q9_degree (S := S) (L := L) (T := T) (K := K) (Λ := Λ) (I := I2) k3
            unfold fX9_told
            simp only [gM_o, Option.bind_some, e_on, k_isCurve e97 hcn hk, if_neg eb_t, in_yes hw (show 3 < 2 ^ 31 by decide), if_neg h0, if_neg h2, k1, hd]
            split <;> rfl
    · refine both_bad (r := -1000000001) hinv ?_ ?_
      · unfold fX8_told
        simp only [gB_o, gB_0, gB_1, gB_2, gB_3, gB_4, gB_5, gB_6, gB_7, gB_8, gB_9, gB_p8, gB_p9, p_lenF pk_60, p_lenF pk_61, p_lenI pk_62, Option.bind_some, e_on, k_cur hwr hk, up_no hr]
      · unfold fX9_told
        simp only [gM_o, Option.bind_some, e_on, k_isCurve h97 hcn hk, if_neg eb_t, in_no hr, if_pos eb_f]
  · refine both_bad (r := -1000000001) hinv ?_ ?_
    · unfold fX8_told
      simp only [gB_o, gB_0, gB_1, gB_2, gB_3, gB_4, gB_5, gB_6, gB_7, gB_8, gB_9, gB_p8, gB_p9, p_lenF pk_60, p_lenF pk_61, p_lenI pk_62, Option.bind_some, e_on, k_cur_no hwr hc]
    · unfold fX9_told
      simp only [gM_o, Option.bind_some, e_on, k_isCurve_no h97 hcn hc, if_pos eb_f]
