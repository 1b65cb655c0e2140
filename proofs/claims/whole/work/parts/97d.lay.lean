def p_l9 (I : Nat → Nat → Int32) (s : Nat) (w A B : Int32) (C : Nat → Int32) : Nat → Nat → Int32 := va_up (va_up (va_up (va_up I 116 (upd (I 116) s w)) 117 (upd (I 117) s A)) 118 (upd (I 118) s B)) 119 C
theorem l9_116 {I : Nat → Nat → Int32} {s : Nat} {w A B : Int32} {C : Nat → Int32} : p_l9 I s w A B C 116 = upd (I 116) s w := by
  unfold p_l9
  rw [va_up_n (by decide), va_up_n (by decide), va_up_n (by decide), va_up_s]
theorem l9_117 {I : Nat → Nat → Int32} {s : Nat} {w A B : Int32} {C : Nat → Int32} : p_l9 I s w A B C 117 = upd (I 117) s A := by
  unfold p_l9
  rw [va_up_n (by decide), va_up_n (by decide), va_up_s]
theorem l9_118 {I : Nat → Nat → Int32} {s : Nat} {w A B : Int32} {C : Nat → Int32} : p_l9 I s w A B C 118 = upd (I 118) s B := by
  unfold p_l9
  rw [va_up_n (by decide), va_up_s]
theorem l9_119 {I : Nat → Nat → Int32} {s : Nat} {w A B : Int32} {C : Nat → Int32} : p_l9 I s w A B C 119 = C := by
  unfold p_l9
  rw [va_up_s]
theorem l9_n {I : Nat → Nat → Int32} {s a : Nat} {w A B : Int32} {C : Nat → Int32} (h1 : a ≠ 116) (h2 : a ≠ 117) (h3 : a ≠ 118) (h4 : a ≠ 119) : p_l9 I s w A B C a = I a := by
  unfold p_l9
  rw [va_up_n h4, va_up_n h3, va_up_n h2, va_up_n h1]
theorem upd_s' (f : Nat → Int32) (k : Nat) (x : Int32) : upd f k x k = x := by simp [upd]
theorem upd_n' {f : Nat → Int32} {k j : Nat} {x : Int32} (h : j ≠ k) : upd f k x j = f j := by simp [upd, h]
section LAY
variable {K : Nat} {S I : Nat → Nat → Int32} {L : Nat → Nat → Int64} {T : Nat → Nat → Option Nat} {Λ : Nat → p_Lw}
theorem q9_lay0 {s : Nat} (hs : s < 5) {w : Int32} (h1 : ¬ w = nI 1) (h2 : ¬ w = nI 2) (k : Int32) : fX9_lay_b62 96 (nI s) w k (p_H K S I L T Λ) = some (I 116 s, p_H K S (p_l9 I s w k (nI 0) (I 119)) L T Λ) := by
  have e : p_l9 I s w k (nI 0) (I 119) = va_up (va_up (va_up I 116 (upd (I 116) s w)) 117 (upd (I 117) s k)) 118 (upd (I 118) s (nI 0)) := by
    unfold p_l9
    rw [show I 119 = (va_up (va_up (va_up I 116 (upd (I 116) s w)) 117 (upd (I 117) s k)) 118 (upd (I 118) s (nI 0))) 119 by rw [va_up_n (by decide), va_up_n (by decide), va_up_n (by decide)], p_up_id]
  unfold fX9_lay_b62 fX9_lay_b110x1 fX9_lay_b130x1
  simp only [gM_33, gM_34, gM_35, Option.bind_some, e_on, p_ldI pk_116 hs (show 5 < 2 ^ 31 by decide), p_stI pk_116 hs (show 5 < 2 ^ 31 by decide), p_stI pk_117 hs (show 5 < 2 ^ 31 by decide), p_stI pk_118 hs (show 5 < 2 ^ 31 by decide), if_neg h1, if_neg h2]
  rw [va_up_n (show 117 ≠ 116 by decide), va_up_n (show 118 ≠ 117 by decide), va_up_n (show 118 ≠ 116 by decide), lay9_no h2, e]
theorem q9_lay1 {s k : Nat} (hs : s < 5) (hk : k < 6) : fX9_lay_b62 96 (nI s) (nI 1) (nI k) (p_H K S I L T Λ) = some (I 116 s, p_H K S (p_l9 I s (nI 1) (I 97 (3 + 16 * k)) (p_worth (I 97 (3 + 16 * k)) (fun x => I 97 (4 + 16 * k + x))) (I 119)) L T Λ) := by
  have e : p_l9 I s (nI 1) (I 97 (3 + 16 * k)) (p_worth (I 97 (3 + 16 * k)) (fun x => I 97 (4 + 16 * k + x))) (I 119) = va_up (va_up (va_up I 116 (upd (I 116) s (nI 1))) 117 (upd (I 117) s (I 97 (3 + 16 * k)))) 118 (upd (I 118) s (p_worth (I 97 (3 + 16 * k)) (fun x => I 97 (4 + 16 * k + x)))) := by
    unfold p_l9
    rw [show I 119 = (va_up (va_up (va_up I 116 (upd (I 116) s (nI 1))) 117 (upd (I 117) s (I 97 (3 + 16 * k)))) 118 (upd (I 118) s (p_worth (I 97 (3 + 16 * k)) (fun x => I 97 (4 + 16 * k + x))))) 119 by rw [va_up_n (by decide), va_up_n (by decide), va_up_n (by decide)], p_up_id]
  unfold fX9_lay_b62 fX9_lay_b110x1 fX9_lay_b130x1
  simp only [gM_33, gM_34, gM_35, Option.bind_some, e_on, p_ldI pk_116 hs (show 5 < 2 ^ 31 by decide), p_stI pk_116 hs (show 5 < 2 ^ 31 by decide), p_stI pk_117 hs (show 5 < 2 ^ 31 by decide), p_stI pk_118 hs (show 5 < 2 ^ 31 by decide), q9_kindOf hk, q9_worth hk]
  rw [if_pos trivial, if_pos trivial]
  rw [va_up_n (show 117 ≠ 116 by decide), va_up_n (show 118 ≠ 117 by decide), va_up_n (show 118 ≠ 116 by decide), va_up_n (show 97 ≠ 117 by decide), va_up_n (show 97 ≠ 116 by decide), lay9_no (by decide), e]
theorem q9_lay2 {s k : Nat} (hs : s < 5) (hk : k < 4) : fX9_lay_b62 96 (nI s) (nI 2) (nI k) (p_H K S I L T Λ) = some (I 116 s, p_H K S (p_l9 I s (nI 2) (I 114 k) (nI 0) (fun y => if 24 * s ≤ y ∧ y < 24 * s + 24 then I 115 (24 * k + (y - 24 * s)) else I 119 y)) L T Λ) := by
  have g := lay9_go (S := S) (I := va_up (va_up (va_up I 116 (upd (I 116) s (nI 2))) 117 (upd (I 117) s (I 114 k))) 118 (upd (I 118) s (nI 0))) (L := L) (T := T) (K := K) (Λ := Λ) hs hk (I 116 s) 24 175 0 (va_up (va_up (va_up I 116 (upd (I 116) s (nI 2))) 117 (upd (I 117) s (I 114 k))) 118 (upd (I 118) s (nI 0)) 119) (by omega) (fun y => by rw [if_neg (by omega)])
  rw [p_up_id, va_up_n (show 115 ≠ 118 by decide), va_up_n (show 115 ≠ 117 by decide), va_up_n (show 115 ≠ 116 by decide), va_up_n (show 119 ≠ 118 by decide), va_up_n (show 119 ≠ 117 by decide), va_up_n (show 119 ≠ 116 by decide)] at g
  unfold fX9_lay_b62 fX9_lay_b110x1 fX9_lay_b130x1
  simp only [gM_33, gM_34, gM_35, gM_31, Option.bind_some, e_on, p_ldI pk_116 hs (show 5 < 2 ^ 31 by decide), p_ldI pk_114 hk (show 4 < 2 ^ 31 by decide), p_stI pk_116 hs (show 5 < 2 ^ 31 by decide), p_stI pk_117 hs (show 5 < 2 ^ 31 by decide), p_stI pk_118 hs (show 5 < 2 ^ 31 by decide)]
  rw [if_neg (show ¬ nI 2 = nI 1 by decide), if_neg (show ¬ nI 2 = nI 1 by decide), if_pos trivial]
  rw [va_up_n (show 117 ≠ 116 by decide), va_up_n (show 118 ≠ 117 by decide), va_up_n (show 118 ≠ 116 by decide), va_up_n (show 114 ≠ 116 by decide)]
  exact g
end LAY
theorem c_lay (s w k : Int32) : p_both (fX8_lay 0 s w k) (fX9_lay 96 s w k) := by
  intro K S I L T Λ hinv
  have hrow := hinv.2.2.2.2.1
  have hsl := hinv.2.2.2.2.2.1
  obtain ⟨lw, cn, tn, h⟩ := hinv.1
  have hcn := h.1.1
  have h97 := h.1.2.2.1
  rcases rng_or s (n := 4) (by decide) with ⟨q, hq, rfl⟩ | ⟨hno, hr⟩
  · have hq5 : q < 5 := by omega
    obtain ⟨v, t1, t2, t3, -, -, -⟩ := hsl q hq5
    rcases rng_or w (n := 3) (by decide) with ⟨ww, hw, rfl⟩ | ⟨hno, hr⟩
    · by_cases w1 : ww = 1
      · subst w1
        rcases cur_or k (n := cn) (by omega) with ⟨kk, hk, rfl⟩ | hc
        · have hk6 : kk < 6 := by omega
          have hca := h.ca hk6
          refine both_go (h1 := p_H K (p_s (p_s S (72 + 5 * q) 0 (S (5 + 2 * kk) 0)) (71 + 5 * q) 0 (nI 1)) (va_up I (72 + 5 * q + 1) (va_cpy (I (5 + 2 * kk + 1)) (I (72 + 5 * q + 1)) 0 0 15)) L T Λ) (S2 := p_s (p_s S (72 + 5 * q) 0 (S (5 + 2 * kk) 0)) (71 + 5 * q) 0 (nI 1)) (I2 := p_l9 (va_up I (72 + 5 * q + 1) (va_cpy (I (5 + 2 * kk + 1)) (I (72 + 5 * q + 1)) 0 0 15)) q (nI 1) (I 97 (3 + 16 * kk)) (p_worth (I 97 (3 + 16 * kk)) (fun x => I 97 (4 + 16 * kk + x))) (I 119)) (L2 := L) (nI v) ?_ ?_ (k_slot hinv hq5 (fun a a1 a2 a3 => by rw [p_s_n a1, p_s_n a2]) (fun z hz => ?_) (fun y hy => ?_) (fun a a1 a2 a3 a4 a5 a6 a7 => ?_) ⟨1, by decide, ?_, ?_, fun _ => ⟨?_, ?_⟩, fun z => absurd z (by decide), fun z => absurd z (by decide)⟩)
          · unfold fX8_lay fX8_lay_b117
            simp only [gB_o, gB_0, Option.bind_some, e_on, q_slotOf hq5, up_yes hw (show 3 < 2 ^ 31 by decide), k_cur h hk, gL_2 hq5, q_becomes (pk_cs hq5) (pk_c hk6), gL_0 hq5, gL_p0 hq5]
            rw [if_pos trivial, p_s_n (by omega), t2]
          · have e97 : va_up I (72 + 5 * q + 1) (va_cpy (I (5 + 2 * kk + 1)) (I (72 + 5 * q + 1)) 0 0 15) 97 = I 97 := va_up_n (by omega)
            unfold fX9_lay fX9_lay_b29 fX9_lay_b44
            simp only [gM_o, Option.bind_some, e_on, isSlot_yes hq, in_yes hw (show 3 < 2 ^ 31 by decide), if_neg eb_t, k_isCurve (I := va_up I (72 + 5 * q + 1) (va_cpy (I (5 + 2 * kk + 1)) (I (72 + 5 * q + 1)) 0 0 15)) (by rw [e97]; exact h97) hcn hk, q9_lay1 hq5 hk6]
            rw [if_pos trivial, if_neg (show ¬ nI 1 = nI 2 by decide), if_neg (show ¬ nI 1 = nI 2 by decide), e97, va_up_n (show 116 ≠ 72 + 5 * q + 1 by omega), va_up_n (show 119 ≠ 72 + 5 * q + 1 by omega), t3]
          · rw [l9_116, l9_117, l9_118, upd_n' hz, upd_n' hz, upd_n' hz, va_up_n (by omega), va_up_n (by omega), va_up_n (by omega)]
            exact ⟨rfl, rfl, rfl⟩
          · rw [l9_119]
          · rw [l9_n a1 a2 a3 a4, va_up_n a5]
          · rw [p_s_at]
          · rw [l9_116, upd_s']
          · rw [p_s_n (by omega), p_s_at, l9_117, upd_s', hca.1]
          · rw [p_s_n (by omega), p_s_at, l9_118, upd_s', l9_n (by omega) (by omega) (by omega) (by omega), va_up_s, hca.1]
            refine p_worth_eq (fun x hx => ?_)
            unfold va_cpy
            rw [if_pos (by omega), show 0 + (x - 0) = x by omega]
            exact (hca.2.2 x hx).1
        · refine both_bad (r := -1000000001) hinv ?_ ?_
          · unfold fX8_lay
            simp only [gB_o, gB_0, Option.bind_some, e_on, q_slotOf hq5, up_yes hw (show 3 < 2 ^ 31 by decide), k_cur_no h hc]
            rw [if_pos trivial]
          · unfold fX9_lay
            simp only [gM_o, Option.bind_some, e_on, isSlot_yes hq, in_yes hw (show 3 < 2 ^ 31 by decide), if_neg eb_t, k_isCurve_no h97 hcn hc, if_pos eb_f]
            rw [if_pos trivial]
      · have n1 : ¬ nI ww = nI 1 := fun z => w1 ((nI_eq (by omega) (by decide)).mp z)
        by_cases w2 : ww = 2
        · subst w2
          rcases rng_or k (n := 3) (by decide) with ⟨kk, hk, rfl⟩ | ⟨hno, hr⟩
          · have hk4 : kk < 4 := by omega
            obtain ⟨r1, r2, ⟨z, hz, r3, r4⟩, r5⟩ := hrow kk hk4
            by_cases hm : I 113 kk = -1
            · refine both_bad (r := -1000000011) hinv ?_ ?_
              · unfold fX8_lay
                simp only [gB_o, gB_0, Option.bind_some, e_on, q_slotOf hq5, up_yes hw (show 3 < 2 ^ 31 by decide), if_neg n1, q_sheetOf hk4, gR_0 (pk_rr hk4), r1, hm]
                rw [if_pos trivial, if_pos trivial]
              · unfold fX9_lay fX9_lay_b29 fX9_lay_b44
                simp only [gM_o, Option.bind_some, e_on, isSlot_yes hq, in_yes hw (show 3 < 2 ^ 31 by decide), if_neg eb_t, if_neg n1, isSheet_yes hk, gM_30, p_ldI pk_113 hk4 (show 4 < 2 ^ 31 by decide), hm]
                rw [if_pos trivial, if_pos trivial, if_neg (by decide)]
            · have h0 : 0 ≤ I 113 kk := by
                rcases r2 with e | e | e
                · exact absurd e hm
                · rw [e]; decide
                · rw [e]; decide
              refine both_go (h1 := p_H K (p_s (p_s (p_s S (74 + 5 * q) 0 (S (63 + 2 * kk) 0)) (74 + 5 * q) 1 (S (63 + 2 * kk) 1)) (71 + 5 * q) 0 (nI 2)) (va_up I (74 + 5 * q + 1) (va_cpy (I (63 + 2 * kk + 1)) (I (74 + 5 * q + 1)) 0 0 24)) L T Λ) (S2 := p_s (p_s (p_s S (74 + 5 * q) 0 (S (63 + 2 * kk) 0)) (74 + 5 * q) 1 (S (63 + 2 * kk) 1)) (71 + 5 * q) 0 (nI 2)) (I2 := p_l9 (va_up I (74 + 5 * q + 1) (va_cpy (I (63 + 2 * kk + 1)) (I (74 + 5 * q + 1)) 0 0 24)) q (nI 2) (I 114 kk) (nI 0) (fun y => if 24 * q ≤ y ∧ y < 24 * q + 24 then I 115 (24 * kk + (y - 24 * q)) else I 119 y)) (L2 := L) (nI v) ?_ ?_ (k_slot hinv hq5 (fun a a1 a2 a3 => by rw [p_s_n a1, p_s_n a3, p_s_n a3]) (fun z hz => ?_) (fun y hy => ?_) (fun a a1 a2 a3 a4 a5 a6 a7 => ?_) ⟨2, by decide, ?_, ?_, fun z => absurd z (by decide), fun _ => ⟨⟨z, hz, ?_, ?_⟩, fun x hx => ?_⟩, fun z => absurd z (by decide)⟩)
              · unfold fX8_lay fX8_lay_b117
                simp only [gB_o, gB_0, Option.bind_some, e_on, q_slotOf hq5, up_yes hw (show 3 < 2 ^ 31 by decide), if_neg n1, q_sheetOf hk4, gR_0 (pk_rr hk4), r1, if_neg hm, gL_3 hq5, q_rowBecomes (pk_rs hq5) (pk_rr hk4) (show 63 + 2 * kk ≠ 74 + 5 * q by omega), gL_0 hq5, gL_p0 hq5]
                rw [if_pos trivial, p_s_n (by omega), p_s_n (by omega), t2]
              · have e97 : va_up I (74 + 5 * q + 1) (va_cpy (I (63 + 2 * kk + 1)) (I (74 + 5 * q + 1)) 0 0 24) 97 = I 97 := va_up_n (by omega)
                have e113 : va_up I (74 + 5 * q + 1) (va_cpy (I (63 + 2 * kk + 1)) (I (74 + 5 * q + 1)) 0 0 24) 113 = I 113 := va_up_n (by omega)
                unfold fX9_lay fX9_lay_b29 fX9_lay_b44
                simp only [gM_o, Option.bind_some, e_on, isSlot_yes hq, in_yes hw (show 3 < 2 ^ 31 by decide), if_neg eb_t, if_neg n1, isSheet_yes hk, gM_30, p_ldI pk_113 hk4 (show 4 < 2 ^ 31 by decide), e113, if_pos h0, q9_lay2 hq5 hk4]
                rw [if_pos trivial, if_pos trivial, va_up_n (show 116 ≠ 74 + 5 * q + 1 by omega), va_up_n (show 119 ≠ 74 + 5 * q + 1 by omega), va_up_n (show 114 ≠ 74 + 5 * q + 1 by omega), va_up_n (show 115 ≠ 74 + 5 * q + 1 by omega), t3]
              · rw [l9_116, l9_117, l9_118, upd_n' hz, upd_n' hz, upd_n' hz, va_up_n (by omega), va_up_n (by omega), va_up_n (by omega)]
                exact ⟨rfl, rfl, rfl⟩
              · rw [l9_119, if_neg (by omega)]
              · rw [l9_n a1 a2 a3 a4, va_up_n a6]
              · rw [p_s_at]
              · rw [l9_116, upd_s']
              · rw [p_s_n (by omega), p_s_at, r3]
              · rw [l9_117, upd_s', r4]
              · rw [l9_119, if_pos (by omega), l9_n (by omega) (by omega) (by omega) (by omega), va_up_s]
                unfold va_cpy
                rw [if_pos (by omega), show 0 + (x - 0) = x by omega, show 24 * q + x - 24 * q = x by omega]
                exact r5 x hx
          · refine both_bad (r := -1000000001) hinv ?_ ?_
            · unfold fX8_lay
              simp only [gB_o, gB_0, Option.bind_some, e_on, q_slotOf hq5, up_yes hw (show 3 < 2 ^ 31 by decide), if_neg n1, q_sheetOf_no hr]
              rw [if_pos trivial]
            · unfold fX9_lay fX9_lay_b29
              simp only [gM_o, Option.bind_some, e_on, isSlot_yes hq, in_yes hw (show 3 < 2 ^ 31 by decide), if_neg eb_t, if_neg n1, isSheet_no hr, if_pos eb_f]
              rw [if_pos trivial]
        · have n2 : ¬ nI ww = nI 2 := fun z => w2 ((nI_eq (by omega) (by decide)).mp z)
          have ref : ∀ S' : Nat → Nat → Int32, fX9_lay 96 (nI q) (nI ww) k (p_H K S' I L T Λ) = some (nI v, p_H K S' (p_l9 I q (nI ww) k (nI 0) (I 119)) L T Λ) := fun S' => by
            unfold fX9_lay fX9_lay_b29 fX9_lay_b44
            simp only [gM_o, Option.bind_some, e_on, isSlot_yes hq, in_yes hw (show 3 < 2 ^ 31 by decide), if_neg eb_t, if_neg n1, if_neg n2, q9_lay0 hq5 n1 n2, t3]
          by_cases w3 : ww = 3
          · subst w3
            refine both_go (h1 := p_H K (p_s (p_s S (71 + 5 * q) 1 k) (71 + 5 * q) 0 (nI 3)) I L T Λ) (L2 := L) (nI v) ?_ (ref _) (k_slot hinv hq5 (fun a a1 a2 a3 => by rw [p_s_n a1, p_s_n a1]) (fun z hz => ?_) (fun y hy => ?_) (fun a a1 a2 a3 a4 a5 a6 a7 => ?_) ⟨3, by decide, ?_, ?_, fun z => absurd z (by decide), fun z => absurd z (by decide), fun _ => ?_⟩)
            · unfold fX8_lay fX8_lay_b117
              simp only [gB_o, gB_0, Option.bind_some, e_on, q_slotOf hq5, up_yes hw (show 3 < 2 ^ 31 by decide), if_neg n1, if_neg n2, gL_p1 hq5, gL_0 hq5, gL_p0 hq5]
              rw [if_pos trivial, p_s_ne (by decide), t2]
            · rw [l9_116, l9_117, l9_118, upd_n' hz, upd_n' hz, upd_n' hz]
              exact ⟨rfl, rfl, rfl⟩
            · rw [l9_119]
            · rw [l9_n a1 a2 a3 a4]
            · rw [p_s_at]
            · rw [l9_116, upd_s']
            · rw [p_s_ne (by decide), p_s_at, l9_117, upd_s']
          · have e0 : ww = 0 := by omega
            subst e0
            refine both_go (h1 := p_H K (p_s S (71 + 5 * q) 0 (nI 0)) I L T Λ) (L2 := L) (nI v) ?_ (ref _) (k_slot hinv hq5 (fun a a1 a2 a3 => by rw [p_s_n a1]) (fun z hz => ?_) (fun y hy => ?_) (fun a a1 a2 a3 a4 a5 a6 a7 => ?_) ⟨0, by decide, ?_, ?_, fun z => absurd z (by decide), fun z => absurd z (by decide), fun z => absurd z (by decide)⟩)
            · unfold fX8_lay fX8_lay_b117
              simp only [gB_o, gB_0, Option.bind_some, e_on, q_slotOf hq5, up_yes hw (show 3 < 2 ^ 31 by decide), if_neg n1, if_neg n2, gL_0 hq5, gL_p0 hq5]
              rw [if_neg (show ¬ nI 0 = nI 3 by decide), t2]
            · rw [l9_116, l9_117, l9_118, upd_n' hz, upd_n' hz, upd_n' hz]
              exact ⟨rfl, rfl, rfl⟩
            · rw [l9_119]
            · rw [l9_n a1 a2 a3 a4]
            · rw [p_s_at]
            · rw [l9_116, upd_s']
    · refine both_bad (r := -1000000001) hinv ?_ ?_
      · unfold fX8_lay
        simp only [gB_o, Option.bind_some, e_on, q_slotOf hq5, up_no hr]
      · unfold fX9_lay
        simp only [gM_o, Option.bind_some, e_on, isSlot_yes hq, if_neg eb_t, in_no hr, if_pos eb_f]
  · refine both_bad (r := -1000000001) hinv ?_ ?_
    · unfold fX8_lay
      simp only [gB_o, Option.bind_some, e_on, q_slotOf_no hr]
    · unfold fX9_lay
      simp only [gM_o, Option.bind_some, e_on, isSlot_no hr, if_pos eb_f]
