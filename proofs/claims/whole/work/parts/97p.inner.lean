def p_inP (bt : Nat → Int32) (n o k f : Nat) (C : List Int32) (q : Nat) (e : Int32) (W D : List Int32) (j : Nat) : Prop := q ≤ n ∧ p_skp bt n q = f ∧ p_cd bt n q e ∧ p_cO W = o ∧ p_cN W + j = k ∧ p_tpp 6 W ∧ D = C.map p_c9
def p_inn (bt : Nat → Int32) (n ky : Nat) (F : Nat → Int32 → Int32 → Int32 → e_H → Option (Bool × e_H)) (o k : Nat) : Prop := ∀ (K : Nat) (S I : Nat → Nat → Int32) (L : Nat → Nat → Int64) (T : Nat → Nat → Option Nat) (Λ : Nat → p_Lw) (f : Nat) (C : List Int32) (a : Nat), p_ts bt n ky S I f C a → f ≤ n → p_skp bt n f = f → p_by bt n f ≠ nI 33 → C.length + 4 ≤ f → ∃ ok S' I' at' C' a', fX5_readInner_r F 57 (nI o) (nI k) (p_H K S I L T Λ) = some (ok, p_H K S' I' L T Λ) ∧ p_f8 S I S' I' ∧ p_ts bt n ky S' I' at' C' a' ∧ at' ≤ n ∧ (ok = true → p_cl ky f C at' C' ∧ ∀ q e W D τ j, p_inP bt n o k f C q e W D j → ∃ q' e' τ', p_to bt n ky true ((q, e), (p_rep (-10) j W, D), a, τ) false ((q', e'), (W, p_rep (-10) j (C'.map p_c9)), a', τ') ∧ q' ≤ n ∧ p_skp bt n q' = p_skp bt n at' ∧ p_en q' e' ∧ ∀ i, i ≤ o → τ' i = τ i) ∧ (ok = false → ∀ q e W D τ j, p_inP bt n o k f C q e W D j → p_no bt n ky true ((q, e), (p_rep (-10) j W, D), a, τ) at')
theorem nm_c9 {ky : Nat} (hk : ky ≤ 2) {b : Int32} (h : ¬ p_nm ky b < 0) : p_c9 (-1 - p_nm ky b) = nI 10000 + p_nm ky b ∧ p_okc ky (-1 - p_nm ky b) ∧ (-3 : Int32) ≤ -1 - p_nm ky b := by
  rcases nm_or hk b with e | ⟨i, hi, e, h1⟩
  · rw [e] at h
    exact absurd (by decide) h
  · rw [e]
    rcases (show i = 0 ∨ i = 1 ∨ i = 2 by omega) with rfl | rfl | rfl
    · exact ⟨by decide, Or.inr (Or.inl (by decide)), by decide⟩
    · exact ⟨by decide, Or.inr (Or.inr (Or.inl (by decide))), by decide⟩
    · exact ⟨by decide, Or.inr (Or.inr (Or.inr (Or.inl ⟨by decide, h1 rfl⟩))), by decide⟩
section INNER
variable {bt : Nat → Int32} {n ky : Nat}
theorem tpp_stl {W : List Int32} (h : p_tpp 6 W) (D : List Int32) : p_stl 6 W D = (W, D) := by
  have := stl_fl h [] D (fun v hv => absurd hv (by simp))
  exact this
theorem cl_one {at_ at' : Nat} {C : List Int32} {x : Int32} (h : at_ < at') (hx : (-3 : Int32) ≤ x) (ho : p_okc ky x) : p_cl ky at_ C at' (x :: C) := by
  refine ⟨h, by rw [List.length_cons]; omega, fun hw => ⟨⟨hw, ?_⟩, ?_⟩, fun hc y hy => ?_⟩
  · rw [if_pos hx]; trivial
  · show (if (-3 : Int32) ≤ x then _ else _) = _
    rw [if_pos hx]
  · rcases List.mem_cons.mp hy with z | z
    · rw [z]; exact ho
    · exact hc y z
theorem inP_nt {f q : Nat} {e : Int32} (hq : p_skp bt n q = f) (hcd : p_cd bt n q e) (h : p_ltr (p_by bt n f) = true ∨ p_dig (p_by bt n f) = true) : nI f ≠ e := by
  intro z
  obtain ⟨h1, h2⟩ := hcd.1 (by rw [hq]; exact z.symm)
  rw [hq] at h1 h2
  rcases h with h | h
  · rw [h] at h1; exact absurd h1 (by decide)
  · rw [h] at h2; exact absurd h2 (by decide)
theorem inP_part (ht : p_tb bt n) (hk : ky ≤ 2) {o k f : Nat} {C : List Int32} {q : Nat} {e : Int32} {W D : List Int32} {j a : Nat} {τ : Nat → Bool} (h : p_inP bt n o k f C q e W D j) {x y : Int32} (hx : p_pt bt n ky f e = some y) (hc : p_c9 x = y) {at' : Nat} (hn' : p_tnx bt n f = at') : ∃ q' e' τ', p_to bt n ky true ((q, e), (p_rep (-10) j W, D), a, τ) false ((q', e'), (W, p_rep (-10) j ((x :: C).map p_c9)), a + 1, τ') ∧ q' ≤ n ∧ p_skp bt n q' = p_skp bt n at' ∧ p_en q' e' ∧ ∀ i, i ≤ o → τ' i = τ i := by
  have hn := ht.1
  obtain ⟨c1, c2, c3, c4, c5, c6, c7⟩ := h
  have s1 := st_part (q := q) (e := e) (W := p_rep (-10) j W) (D := D) (a := a) (τ := τ) (ky := ky) ht hk c1 (by rw [c2]; exact hx)
  have hle := p_skp_le (bt := bt) c1
  rw [c2] at hle s1
  have hnx := tnx_le (bt := bt) hle.2
  rw [hn'] at s1 hnx
  rw [rep_stl, tpp_stl c6, c7] at s1
  refine ⟨at', nI at', τ, ?_, hnx.2.1, rfl, p_en_nI (by omega), fun _ _ => rfl⟩
  show p_to bt n ky true ((q, e), (p_rep (-10) j W, D), a, τ) false ((at', nI at'), (W, p_rep (-10) j (p_c9 x :: C.map p_c9)), a + 1, τ)
  rw [hc, c7]
  exact s1
theorem inP_no (ht : p_tb bt n) (hk : ky ≤ 2) {o k f : Nat} (ho : o ≤ 8) (hk8 : k ≤ 8) {C : List Int32} {q : Nat} {e : Int32} {W D : List Int32} {j a : Nat} {τ : Nat → Bool} (h : p_inP bt n o k f C q e W D j) (h33 : p_by bt n f ≠ nI 33) (h40 : p_by bt n f = nI 40 → 8 ≤ o) (hx : p_pt bt n ky f e = none) : p_no bt n ky true ((q, e), (p_rep (-10) j W, D), a, τ) f := by
  have hn := ht.1
  obtain ⟨c1, c2, c3, c4, c5, c6, c7⟩ := h
  have s1 := st_no (q := q) (e := e) (W := p_rep (-10) j W) (D := D) (a := a) (τ := τ) (ky := ky) ht hk c1 (fun z => absurd (by rw [c2] at z; exact z) h33) (fun z => by rw [rep_cO, c4]; rw [c2] at z; exact h40 z) (by rw [rep_cN]; omega) (by rw [rep_cO]; omega) (by rw [c2]; exact hx)
  rw [c2] at s1
  exact s1
theorem sim_inner {F : Nat → Int32 → Int32 → Int32 → e_H → Option (Bool × e_H)} {o k : Nat} (ht : p_tb bt n) (hk : ky ≤ 2) (ho : o ≤ 8) (hk8 : k ≤ 8) (hF : o < 8 → p_sim bt n ky F 0 (o + 1) k) : p_inn bt n ky F o k := by
  intro K S I L T Λ f C a hts hfn hff h33 hC
  have hn := ht.1
  have hC96 : C.length < 96 := by omega
  cases hd : p_dig (p_by bt n f)
  · cases hl : p_ltr (p_by bt n f)
    · by_cases hb : p_by bt n f = nI 40
      · have hfn' : f < n := by_lt (by decide) hb
        by_cases ho8 : o < 8
        · obtain ⟨ok, S1, I1, at1, C1, a1, r1, r2, r3, r4, r5, r6⟩ := hF ho8 K (p_s S 57 4 (nI (f + 1))) I L T Λ (f + 1) C a (hts.mv (f + 1)) (by omega) (by omega)
          have opn : ∀ q e W D τ j, p_inP bt n o k f C q e W D j → ∃ τ2 : Nat → Bool, p_to bt n ky true ((q, e), (p_rep (-10) j W, D), a, τ) true ((f + 1, e), (-11 :: p_rep (-10) j W, C.map p_c9), a, τ2) ∧ p_prr bt n 0 (o + 1) k (f + 1) C (f + 1) e (-11 :: p_rep (-10) j W) (C.map p_c9) τ2 ∧ ∀ i, i ≤ o → τ2 i = τ i := by
            intro q e W D τ j h
            obtain ⟨c1, c2, c3, c4, c5, c6, c7⟩ := h
            have s1 := st_open (q := q) (e := e) (W := p_rep (-10) j W) (D := D) (a := a) (τ := τ) (ky := ky) ht (by rw [c2]; exact hb) (by rw [rep_cO]; omega)
            rw [c2, rep_cO, c4, c7] at s1
            have hqf := (p_skp_le (bt := bt) c1).1
            refine ⟨fun i => if i = o + 1 then false else τ i, by rw [c7]; exact s1, ⟨by omega, rfl, fun z => ?_, c3.2.mono (by omega), by rw [p_cO_o, rep_cO, c4], by rw [p_cN_n (by decide), rep_cN, c5], Or.inl rfl, rfl, fun _ => if_pos rfl⟩, fun i hi => if_neg (by omega)⟩
            have h2 := p_skp_le (bt := bt) (show f + 1 ≤ n by omega)
            exact absurd z (c3.2 _ (by omega) (by omega))
          have step : fX5_readInner_r F 57 (nI o) (nI k) (p_H K S I L T Λ) = if (e_b ok) = 0 then (some (false, p_H K S1 I1 L T Λ)) else ((fX5_nextOf 57 (7 : Nat) (p_H K S1 I1 L T Λ)).bind fun p8 => if 0 ≤ p8.1 then ((o_getI p8.2 57 5 4).bind fun v9 => (o_put p8.2 57 5 4 (.int (v9 + (nI 1)))).bind fun h10 => some (true, h10)) else (some (false, p8.2))) := by
            unfold fX5_readInner_r
            rw [gT_4, Option.bind_some, hts.2.2.1, q_byteAt ht hts.1 hts.2.1 (by omega), Option.bind_some, q_isDigit, Option.bind_some, hd, if_pos eb_f, q_isLetter, Option.bind_some, hl, if_pos eb_f, if_pos hb, if_pos (nI_lt (by omega) (by decide)), Option.bind_some, nI_s, gT_p4, Option.bind_some, nI_s]
            rw [show (0 : Int32) = nI 0 from rfl] at *
            rw [r1, Option.bind_some]
          have hf8 : p_f8 S I S1 I1 := ((p_f8.rf S I).s 4 _).tr r2
          cases ok with
          | false =>
            refine ⟨false, S1, I1, at1, C1, a1, by rw [step, if_pos eb_f], hf8, r3, r4, fun z => absurd z (by decide), fun _ q e W D τ j h => ?_⟩
            obtain ⟨τ2, s1, s2, -⟩ := opn q e W D τ j h
            exact s1.no (r6 rfl _ _ _ _ _ s2)
          | true =>
            obtain ⟨⟨p1, p2, p3, p4⟩, p5, p6⟩ := r5 rfl
            have p5' := p5 (by omega)
            have g1 := q_nextOf (S := S1) (I := I1) (L := L) (T := T) (K := K) (Λ := Λ) (s := 7) ht r3.1 r3.2.1 (Or.inr (Or.inl rfl)) r4 r3.2.2.1
            rw [p5'] at g1
            rw [if_neg eb_t, g1, Option.bind_some] at step
            by_cases hb2 : p_by bt n at1 = nI 41
            · have hs : p_sg 7 (p_by bt n at1) = true := by rw [hb2]; decide
              have hat1 : at1 < n := by_lt (by decide) hb2
              refine ⟨true, p_s S1 57 4 (nI (at1 + 1)), I1, at1 + 1, C1, a1, ?_, hf8.s _ _, r3.mv (at1 + 1), by omega, fun _ => ⟨⟨by omega, by omega, p3, p4⟩, fun q e W D τ j h => ?_⟩, fun z => absurd z (by decide)⟩
              · rw [step]
                unfold p_nx
                rw [hs, if_pos rfl, hb2, if_pos (show (0 : Int32) ≤ nI 41 by decide), gT_4, Option.bind_some, p_s_at, nI_s, gT_p4, Option.bind_some, p_s_up]
              · obtain ⟨τ2, s1, s2, s3⟩ := opn q e W D τ j h
                obtain ⟨q1, e1, V1, D1, τ1, v1, w1, w2, w3, w4, w5, w6, w7, w8⟩ := p6 _ _ _ _ _ s2
                obtain ⟨c1, c2, c3, c4, c5, c6, c7⟩ := h
                rw [p5'] at w2
                have s4 := st_close (q := q1) (e := e1) (W := V1 ++ -11 :: p_rep (-10) j W) (D := D1) (W2 := p_rep (-10) j W) (D1 := C1.map p_c9) (W3 := W) (D3 := p_rep (-10) j (C1.map p_c9)) (a := a1) (τ := τ1) (ky := ky) ht (by rw [w2]; exact hb2) (by
                  rw [stl_fl (r := 0) (W := -11 :: p_rep (-10) j W) (Or.inl rfl) V1 D1 (fun v hv => ⟨(w4 v hv).1, by omega⟩), w5]) (by rw [rep_stl, tpp_stl c6])
                rw [w2] at s4
                have hq1 := (p_skp_le (bt := bt) w1).1
                exact ⟨at1 + 1, e1, τ1, (s1.tr v1).tr s4, by omega, rfl, w3.mono (by omega), fun i hi => (w6 i (by omega)).trans (s3 i hi)⟩
            · have hs : p_sg 7 (p_by bt n at1) = false := decide_eq_false hb2
              refine ⟨false, p_s S1 57 4 (nI at1), I1, at1, C1, a1, ?_, hf8.s _ _, r3.mv at1, r4, fun z => absurd z (by decide), fun _ q e W D τ j h => ?_⟩
              · rw [step]
                unfold p_nx
                rw [hs, if_neg (show ¬ (false = true) by decide), if_neg (show ¬ (0 : Int32) ≤ -1 by decide)]
              · obtain ⟨τ2, s1, s2, s3⟩ := opn q e W D τ j h
                obtain ⟨q1, e1, V1, D1, τ1, v1, w1, w2, w3, w4, w5, w6, w7, w8⟩ := p6 _ _ _ _ _ s2
                obtain ⟨c1, c2, c3, c4, c5, c6, c7⟩ := h
                rw [p5'] at w2 w8
                have eO : p_cO (V1 ++ -11 :: p_rep (-10) j W) = o + 1 := by rw [cO_app V1 (fun v hv => (w4 v hv).1), p_cO_o, rep_cO, c4]
                refine (s1.tr v1).no ?_
                by_cases hlt : at1 < n
                · have s4 := st_sno (q := q1) (e := e1) (W := V1 ++ -11 :: p_rep (-10) j W) (D := D1) (a := a1) (τ := τ1) (ky := ky) ht (by rw [w2]; exact hlt) (fun z => absurd (by rw [w2] at z; exact z) hb2) (by rw [eO]; omega) (by
                    rw [w2, eO]
                    by_cases hz : p_sh (p_by bt n at1) = nI 0
                    · exact Or.inl hz
                    · obtain ⟨l, l1, l2, l3⟩ := sh_row hz
                      obtain ⟨m1, m2⟩ := w8 l (Nat.zero_le _) l1 l2
                      exact Or.inr ⟨by rw [l3, m1], m2⟩)
                  rw [w2] at s4
                  exact s4
                · have e1' : at1 = n := by omega
                  rw [e1'] at w2 ⊢
                  exact st_end ht w1 w2 (by rw [eO]; omega) (by rw [eO]; omega)
        · refine ⟨false, S, I, f, C, a, ?_, p_f8.rf _ _, hts, hfn, fun z => absurd z (by decide), fun _ q e W D τ j h => inP_no ht hk ho hk8 h h33 (fun _ => by omega) (pt_oth hl hd)⟩
          unfold fX5_readInner_r
          rw [gT_4, Option.bind_some, hts.2.2.1, q_byteAt ht hts.1 hts.2.1 (by omega), Option.bind_some, q_isDigit, Option.bind_some, hd, if_pos eb_f, q_isLetter, Option.bind_some, hl, if_pos eb_f, if_pos hb, if_neg (nI_nlt (by omega) (by omega))]
      · refine ⟨false, S, I, f, C, a, ?_, p_f8.rf _ _, hts, hfn, fun z => absurd z (by decide), fun _ q e W D τ j h => inP_no ht hk ho hk8 h h33 (fun z => absurd z hb) (pt_oth hl hd)⟩
        unfold fX5_readInner_r
        rw [gT_4, Option.bind_some, hts.2.2.1, q_byteAt ht hts.1 hts.2.1 (by omega), Option.bind_some, q_isDigit, Option.bind_some, hd, if_pos eb_f, q_isLetter, Option.bind_some, hl, if_pos eb_f, if_neg hb]
    · have hlt : f < n := by
        by_cases z : f < n
        · exact z
        · unfold p_by at hl
          rw [if_neg z] at hl
          exact absurd hl (by decide)
      have eb : p_by bt n f = bt f := by
        unfold p_by
        rw [if_pos hlt]
      have g1 := q_readName (S := S) (I := I) (L := L) (T := T) (K := K) (Λ := Λ) ht hts hk hlt hC96
      have step : fX5_readInner_r F 57 (nI o) (nI k) (p_H K S I L T Λ) = (fX5_readName 57 (p_H K S I L T Λ)).bind fun p11 => some (p11.1, p11.2) := by
        unfold fX5_readInner_r
        rw [gT_4, Option.bind_some, hts.2.2.1, q_byteAt ht hts.1 hts.2.1 (by omega), Option.bind_some, q_isDigit, Option.bind_some, hd, if_pos eb_f, q_isLetter, Option.bind_some, hl, if_neg eb_t]
      rw [g1, ← eb] at step
      by_cases hn1 : p_nm ky (p_by bt n f) < 0
      · refine ⟨false, S, I, f, C, a, by rw [step, if_pos hn1]; rfl, p_f8.rf _ _, hts, hfn, fun z => absurd z (by decide), fun _ q e W D τ j h => inP_no ht hk ho hk8 h h33 (fun z => ?_) ?_⟩
        · rw [z] at hl
          exact absurd hl (by decide)
        · rw [(pt_ltr hlt hl (inP_nt h.2.1 h.2.2.1 (Or.inl hl))).1, if_pos hn1]
      · rw [if_neg hn1] at step
        cases hl2 : p_ltr (p_by bt n (f + 1))
        · rw [hl2, if_neg (show ¬ (false = true) by decide)] at step
          obtain ⟨m1, m2, m3⟩ := nm_c9 hk hn1
          refine ⟨true, _, _, f + 1, (-1 - p_nm ky (p_by bt n f)) :: C, a + 1, step, (((((p_f8.rf S I).s _ _).s _ _).s _ _).i _), ((hts.mv (f + 1)).lf).wr _, by omega, fun _ => ⟨cl_one (by omega) m3 m2, fun q e W D τ j h => ?_⟩, fun z => absurd z (by decide)⟩
          obtain ⟨k1, k2⟩ := pt_ltr (ky := ky) hlt hl (inP_nt h.2.1 h.2.2.1 (Or.inl hl))
          rw [if_neg hn1, hl2, if_neg (show ¬ (false = true) by decide)] at k1
          exact inP_part ht hk h k1 m1 (k2 hl2)
        · rw [hl2, if_pos rfl] at step
          refine ⟨false, S, I, f, C, a, step, p_f8.rf _ _, hts, hfn, fun z => absurd z (by decide), fun _ q e W D τ j h => inP_no ht hk ho hk8 h h33 (fun z => ?_) ?_⟩
          · rw [z] at hl
            exact absurd hl (by decide)
          · rw [(pt_ltr hlt hl (inP_nt h.2.1 h.2.2.1 (Or.inl hl))).1, if_neg hn1, hl2, if_pos rfl]
  · have hlt : f < n := by
      by_cases z : f < n
      · exact z
      · unfold p_by at hd
        rw [if_neg z] at hd
        exact absurd hd (by decide)
    have g1 := q_readNumber (S := S) (I := I) (L := L) (T := T) (K := K) (Λ := Λ) ht hts hfn hC96
    have step : fX5_readInner_r F 57 (nI o) (nI k) (p_H K S I L T Λ) = (fX5_readNumber 57 (p_H K S I L T Λ)).bind fun p11 => some (p11.1, p11.2) := by
      unfold fX5_readInner_r
      rw [gT_4, Option.bind_some, hts.2.2.1, q_byteAt ht hts.1 hts.2.1 (by omega), Option.bind_some, q_isDigit, Option.bind_some, hd, if_neg eb_t]
    rw [g1] at step
    obtain ⟨r1, r2, r3, r4⟩ := p_re_ok p_dig (bt := bt) hfn
    by_cases h4 : p_re p_dig bt n f ≤ f + 4
    · rw [if_pos h4] at step
      have hlt2 : f < p_re p_dig bt n f := by
        by_cases z : f < p_re p_dig bt n f
        · exact z
        · have e1 : p_re p_dig bt n f = f := by omega
          have := r4 (by decide)
          rw [e1, hd] at this
          exact absurd this (by decide)
      obtain ⟨v, v1, v2⟩ := nv_nat (bt := bt) (i := f) (p_re p_dig bt n f - f) (by omega) (fun j hj => by
        have := r3 (f + j) (by omega) (by omega)
        unfold p_by at this
        rw [if_pos (by omega)] at this
        exact this)
      have v3 : v < 10000 := Nat.lt_of_lt_of_le v1 (by
        rcases (show p_re p_dig bt n f - f = 1 ∨ p_re p_dig bt n f - f = 2 ∨ p_re p_dig bt n f - f = 3 ∨ p_re p_dig bt n f - f = 4 by omega) with z | z | z | z <;> rw [z] <;> decide)
      have v4 : (0 : Int32) ≤ nI v := nI_pos' (by omega)
      refine ⟨true, _, _, p_re p_dig bt n f, p_nv bt f (p_re p_dig bt n f - f) :: C, a + 1, step, (((((p_f8.rf S I).s _ _).s _ _).s _ _).i _), ((hts.mv (p_re p_dig bt n f)).lf).wr _, r2, fun _ => ⟨cl_one hlt2 ?_ ?_, fun q e W D τ j h => ?_⟩, fun z => absurd z (by decide)⟩
      · rw [v2]
        exact Int32.le_trans (by decide) v4
      · rw [v2]
        exact Or.inl ⟨v, v3, rfl⟩
      · obtain ⟨k1, k2⟩ := pt_num (ky := ky) hlt hd (inP_nt h.2.1 h.2.2.1 (Or.inr hd))
        rw [if_pos h4] at k1
        exact inP_part ht hk h k1 (by rw [v2]; exact if_pos v4) k2
    · rw [if_neg h4] at step
      refine ⟨false, S, I, f, C, a, step, p_f8.rf _ _, hts, hfn, fun z => absurd z (by decide), fun _ q e W D τ j h => inP_no ht hk ho hk8 h h33 (fun z => ?_) ?_⟩
      · rw [z] at hd
        exact absurd hd (by decide)
      · rw [(pt_num hlt hd (inP_nt h.2.1 h.2.2.1 (Or.inr hd))).1, if_neg h4]
end INNER
