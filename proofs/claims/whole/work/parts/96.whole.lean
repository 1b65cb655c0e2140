theorem p_cw_eq {f g : Nat → Int32} (a : Int32) : ∀ n, (∀ k, k < n → f k = g k) → p_cw f a n = p_cw g a n
  | 0, _ => rfl
  | n + 1, h => by
    unfold p_cw
    rw [h n (by omega), p_cw_eq a n (fun k hk => h k (by omega))]
theorem p_ms_eq {f g : Nat → Int32} (q : Int32 → Int32 → Int32 → Int32) : ∀ n, (∀ k, k < n → f k = g k) → p_ms q f n = p_ms q g n
  | 0, _ => rfl
  | n + 1, h => by
    unfold p_ms
    rw [h n (by omega), p_ms_eq q n (fun k hk => h k (by omega))]
theorem p_pof_eq {f g : Nat → Int32} (w : Int32) (h : ∀ k, k < 121 → f k = g k) : ∀ n a, p_pof f w n a = p_pof g w n a
  | 0, _ => rfl
  | n + 1, a => by
    unfold p_pof
    rw [h _ (by omega), p_pof_eq w h n a, p_pof_eq w h n (a + 1)]
theorem p_ctf_eq {f g W W' : Nat → Int32} {m : Nat} (N : Int32) (h : ∀ k, k < 121 → f k = g k) (hW : ∀ k, k < m → W k = W' k) : ∀ n r d, p_ctf f W m N n r d = p_ctf g W' m N n r d
  | 0, _, _ => rfl
  | n + 1, r, d => by
    have e1 : (r < m ∧ W r = p_pl (120 - n)) ↔ (r < m ∧ W' r = p_pl (120 - n)) := ⟨fun z => ⟨z.1, by rw [← hW r z.1]; exact z.2⟩, fun z => ⟨z.1, by rw [hW r z.1]; exact z.2⟩⟩
    have e2 : (r + 1 < m ∧ W (r + 1) = g (120 - n)) ↔ (r + 1 < m ∧ W' (r + 1) = g (120 - n)) := ⟨fun z => ⟨z.1, by rw [← hW _ z.1]; exact z.2⟩, fun z => ⟨z.1, by rw [hW _ z.1]; exact z.2⟩⟩
    unfold p_ctf
    rw [h _ (by omega)]
    simp only [e1, e2]
    rw [p_ctf_eq N h hW n r d, p_ctf_eq N h hW n (r + 2) (d + 1)]
section WHOLE
variable {K : Nat} {S I : Nat → Nat → Int32} {L : Nat → Nat → Int64} {T : Nat → Nat → Option Nat} {Λ : Nat → p_Lw}
theorem k_walk {lw : Nat → Nat} {cn tn k : Nat} (h : p_wr 1 97 S I T K Λ lw cn tn) (hk : k < 6) : ∃ I1 L1, fX6_walk 33 (5 + 2 * k) (p_H K S I L T Λ) = some (p_H K S I1 L1 T Λ) ∧ p_fr p_scI I I1 ∧ (∀ i j, i + j ≤ 4 → I1 (33 + 1) (p_ixn i j) = p_tt2 S I Λ lw tn k i j) ∧ ∀ x, x < 121 → I1 (33 + 2) x = p_ft (p_tt2 S I Λ lw tn k) x := by
  obtain ⟨I1, L1, g1, g2, g3, g4, g5⟩ := q_walk (S := S) (I := I) (L := L) (T := T) (K := K) (Λ := Λ) pk_v33 h.2.2.2.2.2.1 h.2.2.2.1 h.2.2.2.2.2.2.1 (pk_c hk) (by omega) (by omega)
  exact ⟨I1, L1, g1, g2.mono (by decide), g4, g5⟩
end WHOLE
theorem p_sc0 {I J J' : Nat → Nat → Int32} {A : List Nat} (h : p_fr p_scI I J) (h' : p_fr A J J') (hA : ∀ a ∈ A, a ∈ p_scI) : p_fr p_scI I J' := h.tr (h'.mono hA)
theorem v9_or (v : Int32) : (¬ v < (-9 : Int32) ∧ ¬ nI 9 < v ∧ v ≤ nI 9 ∧ fX9_in v (-9) (nI 9) = some true) ∨ ((v < (-9 : Int32) ∨ (¬ v < (-9 : Int32) ∧ nI 9 < v ∧ ¬ v ≤ nI 9)) ∧ fX9_in v (-9) (nI 9) = some false) := by
  unfold fX9_in
  by_cases h : v < (-9 : Int32)
  · exact Or.inr ⟨Or.inl h, by rw [if_pos h]⟩
  · by_cases h2 : nI 9 < v
    · exact Or.inr ⟨Or.inr ⟨h, h2, fun z => i32_nlt z h2⟩, by rw [if_neg h, if_pos h2]⟩
    · exact Or.inl ⟨h, h2, Int32.not_lt.mp h2, by rw [if_neg h, if_neg h2]⟩
theorem c_value (c x y : Int32) : p_both (fX8_value 0 c x y) (fX9_value 96 c x y) := by
  intro K S I L T Λ hinv
  obtain ⟨lw, cn, tn, hwr⟩ := hinv.1
  have hcn := hwr.1.1
  have h97 := hwr.1.2.2.1
  rcases cur_or c (n := cn) (by omega) with ⟨k, hk, rfl⟩ | hc
  · have hk6 : k < 6 := by omega
    rcases v9_or x with ⟨x1, x2, x3, x4⟩ | ⟨hx, x4⟩
    · rcases v9_or y with ⟨y1, y2, y3, y4⟩ | ⟨hy, y4⟩
      · obtain ⟨I1, g1, g2, g3⟩ := q_look (S := S) (I := I) (L := L) (T := T) (K := K) (Λ := Λ) pk_v33 hwr.2.2.2.2.2.1 hwr.2.2.2.1 hwr.2.2.2.2.2.2.1 (pk_c hk6) (by omega) (by omega)
        have fI1 : p_fr p_scI I I1 := g2.mono (by decide)
        have w1 := hwr.kp (Or.inl ⟨rfl, rfl⟩) (p_kpS.rf S) fI1
        have inv1 := hinv.kp (p_kpS.rf S) fI1
        have e97 : I1 97 1 = nI cn := w1.1.2.2.1
        have et := p_tt2_kp (Λ := Λ) (lw := lw) (tn := tn) hk6 (p_kpS.rf S) fI1
        obtain ⟨I2, k1, k2, k3⟩ := k_terms9 (L := L) w1 hk6
        rw [et] at k1 k3
        refine both_go (h1 := p_H K S I1 L T Λ) (L2 := L) (p_vl (p_tt2 S I Λ lw tn k) x.toInt64 y.toInt64) ?_ ?_ (inv1.kp (p_kpS.rf S) (k2.mono (by decide)))
        · have hd := q_valueAt (S := S) (L := L) (T := T) (K := K) (Λ := Λ) (I := I1) pk_v33 (t := p_tt2 S I Λ lw tn k) g3 x y
          unfold fX8_value
          simp only [gB_o, gB_0, gB_1, gB_2, gB_3, gB_4, gB_5, gB_6, gB_7, gB_8, gB_9, gB_p8, gB_p9, p_lenF pk_60, p_lenF pk_61, p_lenI pk_62, Option.bind_some, e_on, k_cur hwr hk, if_neg x1, if_neg x2, if_neg y1, if_pos y3, g1, hd]
        · have hd := value9_go (S := S) (L := L) (T := T) (K := K) (Λ := Λ) (I := I2) k3 x y 25 174 0 (by omega)
          unfold fX9_value
          simp only [gM_o, Option.bind_some, e_on, k_isCurve e97 hcn hk, if_neg eb_t, x4, y4, k1]
          exact hd
      · refine both_bad (r := -1000000001) hinv ?_ ?_
        · unfold fX8_value
          simp only [gB_o, gB_0, gB_1, gB_2, gB_3, gB_4, gB_5, gB_6, gB_7, gB_8, gB_9, gB_p8, gB_p9, p_lenF pk_60, p_lenF pk_61, p_lenI pk_62, Option.bind_some, e_on, k_cur hwr hk, if_neg x1, if_neg x2]
          rcases hy with hy | ⟨hy1, hy2, hy3⟩
          · rw [if_pos hy]
          · rw [if_neg hy1, if_neg hy3]
        · unfold fX9_value
          simp only [gM_o, Option.bind_some, e_on, k_isCurve h97 hcn hk, if_neg eb_t, x4, y4, if_pos eb_f]
    · refine both_bad (r := -1000000001) hinv ?_ ?_
      · unfold fX8_value
        simp only [gB_o, gB_0, gB_1, gB_2, gB_3, gB_4, gB_5, gB_6, gB_7, gB_8, gB_9, gB_p8, gB_p9, p_lenF pk_60, p_lenF pk_61, p_lenI pk_62, Option.bind_some, e_on, k_cur hwr hk]
        rcases hx with hy | ⟨hy1, hy2, hy3⟩
        · rw [if_pos hy]
        · rw [if_neg hy1, if_pos hy2]
      · unfold fX9_value
        simp only [gM_o, Option.bind_some, e_on, k_isCurve h97 hcn hk, if_neg eb_t, x4, if_pos eb_f]
  · refine both_bad (r := -1000000001) hinv ?_ ?_
    · unfold fX8_value
      simp only [gB_o, gB_0, gB_1, gB_2, gB_3, gB_4, gB_5, gB_6, gB_7, gB_8, gB_9, gB_p8, gB_p9, p_lenF pk_60, p_lenF pk_61, p_lenI pk_62, Option.bind_some, e_on, k_cur_no hwr hc]
    · unfold fX9_value
      simp only [gM_o, Option.bind_some, e_on, k_isCurve_no h97 hcn hc, if_pos eb_f]
theorem c_all (c w : Int32) : p_both (fX8_all 0 c w) (fX9_all 96 c w) := by
  intro K S I L T Λ hinv
  obtain ⟨lw, cn, tn, hwr⟩ := hinv.1
  have hcn := hwr.1.1
  have h97 := hwr.1.2.2.1
  rcases cur_or c (n := cn) (by omega) with ⟨k, hk, rfl⟩ | hc
  · have hk6 : k < 6 := by omega
    rcases rng_or w (n := 2) (by decide) with ⟨ww, hw, rfl⟩ | ⟨hno, hr⟩
    · obtain ⟨I1, L1, g1, g2, g3, g4⟩ := k_walk (L := L) hwr hk6
      have w1 := hwr.kp (Or.inl ⟨rfl, rfl⟩) (p_kpS.rf S) g2
      have inv1 := hinv.kp (p_kpS.rf S) g2
      have et := p_tt2_kp (Λ := Λ) (lw := lw) (tn := tn) hk6 (p_kpS.rf S) g2
      by_cases h2 : ww = 2
      · subst h2
        obtain ⟨st, m1⟩ := q_sumOfMarks (S := S) (I := I1) (L := L1) (T := T) (K := K) (Λ := Λ) pk_v33 hwr.2.2.2.2.2.1 hwr.2.2.2.1 hwr.2.2.2.2.2.2.1
        have fI2 : p_fr p_scI I (va_up I1 4 st) := g2.tr ((p_fr.rf _ _).up (by decide) _)
        have w2 := hwr.kp (Or.inl ⟨rfl, rfl⟩) (p_kpS.rf S) fI2
        have et2 := p_tt2_kp (Λ := Λ) (lw := lw) (tn := tn) hk6 (p_kpS.rf S) fI2
        obtain ⟨I3, k1, k2, k3⟩ := k_terms9 (L := L1) w2 hk6
        rw [et2] at k1 k3
        have w3 := w2.kp (Or.inl ⟨rfl, rfl⟩) (p_kpS.rf S) (I' := I3) (k2.mono (by decide))
        obtain ⟨I4, L4, l1, l2, l3⟩ := all92_go (T := T) (K := K) (Λ := Λ) (t := p_tt2 S I Λ lw tn k) (n := tn) (lw := lw) 121 78 0 S I3 L1 (by omega) (k_w9 w3) k3
        refine both_go (h1 := p_H K S (va_up I1 4 st) L1 T Λ) (L2 := L4) (p_ms (p_mg Λ lw tn) (p_ft (p_tt2 S I Λ lw tn k)) 121) ?_ ?_ (hinv.kp (p_kpS.rf S) (I' := I4) (fI2.tr ((k2.mono (by decide)).tr (l2.mono (by decide)))))
        · unfold fX8_all
          simp only [gB_o, gB_0, gB_1, gB_2, gB_3, gB_4, gB_5, gB_6, gB_7, gB_8, gB_9, gB_p8, gB_p9, p_lenF pk_60, p_lenF pk_61, p_lenI pk_62, Option.bind_some, e_on, k_cur hwr hk, up_yes hw (show 2 < 2 ^ 31 by decide), g1, m1]
          rw [if_pos trivial, p_ms_eq (p_mg Λ lw tn) 121 g4]
        · have hq := q9_counts (S := S) (L := L1) (T := T) (K := K) (Λ := Λ) (I := I3) (k_w9 w3).1 (k_w9 w3).2.1 (k_w9 w3).2.2.1 (k_w9 w3).2.2.2 (show 2 ≤ 2 by decide)
          unfold fX9_all
          simp only [gM_o, Option.bind_some, e_on, k_isCurve (I := va_up I1 4 st) w2.1.2.2.1 hcn hk, if_neg eb_t, in_yes hw (show 2 < 2 ^ 31 by decide), k1, hq]
          exact l1
      · have hq : ∃ v4, ∀ I3, p_w9 I3 Λ lw tn → fX9_counts 96 (nI 2) (p_H K S I3 L1 T Λ) = some v4 := ⟨_, fun I3 w => q9_counts w.1 w.2.1 w.2.2.1 w.2.2.2 (show 2 ≤ 2 by decide)⟩
        obtain ⟨v4, hq⟩ := hq
        obtain ⟨I3, k1, k2, k3⟩ := k_terms9 (L := L1) w1 hk6
        rw [et] at k1 k3
        have w3 := w1.kp (Or.inl ⟨rfl, rfl⟩) (p_kpS.rf S) (I' := I3) (k2.mono (by decide))
        obtain ⟨I4, L4, l1, l2, l3⟩ := all9_go (T := T) (K := K) (Λ := Λ) (t := p_tt2 S I Λ lw tn k) (wh := ww) (by omega) v4 121 78 0 S I3 L1 (by omega) k3
        refine both_go (h1 := p_H K S I1 L1 T Λ) (L2 := L4) (nI (p_cw (p_ft (p_tt2 S I Λ lw tn k)) (nI (ww + 1)) 121)) ?_ ?_ (hinv.kp (p_kpS.rf S) (I' := I4) (g2.tr ((k2.mono (by decide)).tr (l2.mono (by decide)))))
        · unfold fX8_all fX8_all_b61x1
          simp only [gB_o, gB_0, gB_1, gB_2, gB_3, gB_4, gB_5, gB_6, gB_7, gB_8, gB_9, gB_p8, gB_p9, p_lenF pk_60, p_lenF pk_61, p_lenI pk_62, Option.bind_some, e_on, k_cur hwr hk, up_yes hw (show 2 < 2 ^ 31 by decide), g1]
          rw [if_neg (fun z => h2 ((nI_eq (by omega) (by decide)).mp z)), q_placesWith pk_v33, q_placesWith pk_v33, p_cw_eq (nI 1) 121 g4, p_cw_eq (nI 2) 121 g4]
          rcases (show ww = 0 ∨ ww = 1 by omega) with rfl | rfl
          · rw [if_pos nI_0]; rfl
          · rw [if_neg (by decide)]; rfl
        · unfold fX9_all
          simp only [gM_o, Option.bind_some, e_on, k_isCurve (I := I1) w1.1.2.2.1 hcn hk, if_neg eb_t, in_yes hw (show 2 < 2 ^ 31 by decide), k1, hq I3 (k_w9 w3)]
          exact l1
    · refine both_bad (r := -1000000001) hinv ?_ ?_
      · unfold fX8_all
        simp only [gB_o, gB_0, gB_1, gB_2, gB_3, gB_4, gB_5, gB_6, gB_7, gB_8, gB_9, gB_p8, gB_p9, p_lenF pk_60, p_lenF pk_61, p_lenI pk_62, Option.bind_some, e_on, k_cur hwr hk, up_no hr]
      · unfold fX9_all
        simp only [gM_o, Option.bind_some, e_on, k_isCurve h97 hcn hk, if_neg eb_t, in_no hr, if_pos eb_f]
  · refine both_bad (r := -1000000001) hinv ?_ ?_
    · unfold fX8_all
      simp only [gB_o, gB_0, gB_1, gB_2, gB_3, gB_4, gB_5, gB_6, gB_7, gB_8, gB_9, gB_p8, gB_p9, p_lenF pk_60, p_lenF pk_61, p_lenI pk_62, Option.bind_some, e_on, k_cur_no hwr hc]
    · unfold fX9_all
      simp only [gM_o, Option.bind_some, e_on, k_isCurve_no h97 hcn hc, if_pos eb_f]
theorem c_on (c w : Int32) : p_both (fX8_on 0 c w) (fX9_on 96 c w) := by
  intro K S I L T Λ hinv
  obtain ⟨lw, cn, tn, hwr⟩ := hinv.1
  have hcn := hwr.1.1
  have h97 := hwr.1.2.2.1
  rcases cur_or c (n := cn) (by omega) with ⟨k, hk, rfl⟩ | hc
  · have hk6 : k < 6 := by omega
    by_cases h0 : 0 ≤ w
    · obtain ⟨ww, hw, rfl⟩ := nI_of (x := w) (i32_nlt h0)
      obtain ⟨I1, L1, g1, g2, g3, g4⟩ := k_walk (L := L) hwr hk6
      have w1 := hwr.kp (Or.inl ⟨rfl, rfl⟩) (p_kpS.rf S) g2
      have et := p_tt2_kp (Λ := Λ) (lw := lw) (tn := tn) hk6 (p_kpS.rf S) g2
      obtain ⟨I3, k1, k2, k3⟩ := k_terms9 (L := L1) w1 hk6
      rw [et] at k1 k3
      obtain ⟨L4, l1, l3⟩ := on9_go (T := T) (K := K) (Λ := Λ) (t := p_tt2 S I Λ lw tn k) hw 121 78 0 S I3 L1 (by omega) (by omega) (by omega) k3
      refine both_go (h1 := p_H K S I1 L1 T Λ) (L2 := L4) (p_pof (p_ft (p_tt2 S I Λ lw tn k)) (nI ww) 121 0) ?_ ?_ (hinv.kp (p_kpS.rf S) (I' := I3) (g2.tr (k2.mono (by decide))))
      · unfold fX8_on
        simp only [gB_o, gB_0, gB_1, gB_2, gB_3, gB_4, gB_5, gB_6, gB_7, gB_8, gB_9, gB_p8, gB_p9, p_lenF pk_60, p_lenF pk_61, p_lenI pk_62, Option.bind_some, e_on, k_cur hwr hk, if_pos h0, g1, q_placeOn pk_v33]
        rw [p_pof_eq (nI ww) g4]
      · unfold fX9_on
        simp only [gM_o, Option.bind_some, e_on, k_isCurve (I := I1) w1.1.2.2.1 hcn hk, if_neg eb_t, if_pos h0, k1]
        exact l1
    · refine both_bad (r := -1000000001) hinv ?_ ?_
      · unfold fX8_on
        simp only [gB_o, gB_0, gB_1, gB_2, gB_3, gB_4, gB_5, gB_6, gB_7, gB_8, gB_9, gB_p8, gB_p9, p_lenF pk_60, p_lenF pk_61, p_lenI pk_62, Option.bind_some, e_on, k_cur hwr hk, if_neg h0]
      · unfold fX9_on
        simp only [gM_o, Option.bind_some, e_on, k_isCurve h97 hcn hk, if_neg eb_t, if_neg h0]
  · refine both_bad (r := -1000000001) hinv ?_ ?_
    · unfold fX8_on
      simp only [gB_o, gB_0, gB_1, gB_2, gB_3, gB_4, gB_5, gB_6, gB_7, gB_8, gB_9, gB_p8, gB_p9, p_lenF pk_60, p_lenF pk_61, p_lenI pk_62, Option.bind_some, e_on, k_cur_no hwr hc]
    · unfold fX9_on
      simp only [gM_o, Option.bind_some, e_on, k_isCurve_no h97 hcn hc, if_pos eb_f]
theorem c_genus (c : Int32) : p_both (fX8_genus 0 c) (fX9_genus 96 c) := by
  intro K S I L T Λ hinv
  obtain ⟨lw, cn, tn, hwr⟩ := hinv.1
  have hcn := hwr.1.1
  have h97 := hwr.1.2.2.1
  rcases cur_or c (n := cn) (by omega) with ⟨k, hk, rfl⟩ | hc
  · have hk6 : k < 6 := by omega
    obtain ⟨I1, L1, g1, g2, g3, g4⟩ := k_walk (L := L) hwr hk6
    have w1 := hwr.kp (Or.inl ⟨rfl, rfl⟩) (p_kpS.rf S) g2
    have et := p_tt2_kp (Λ := Λ) (lw := lw) (tn := tn) hk6 (p_kpS.rf S) g2
    have hd := q_degree (S := S) (L := L1) (T := T) (K := K) (Λ := Λ) (I := I1) pk_v33 (t := p_tt2 S I Λ lw tn k) g3
    by_cases h0 : 0 ≤ p_deg (p_tt2 S I Λ lw tn k) 25
    · obtain ⟨S2, I2, L2, m1, m2, m3, m4⟩ := q_knots (S := S) (I := I1) (L := L1) (T := T) (K := K) (Λ := Λ) pk_v33 hwr.2.2.2.2.2.1 hwr.2.2.2.2.2.2.1 hwr.2.2.2.1 g3 g4
      have kS : p_kpS S S2 := p_kpS.v pk_v33 m2
      have fI2 : p_fr p_scI I I2 := g2.tr (m3.mono (by decide))
      have w2 := hwr.kp (Or.inl ⟨rfl, rfl⟩) kS fI2
      have et2 := p_tt2_kp (Λ := Λ) (lw := lw) (tn := tn) hk6 kS fI2
      obtain ⟨I3, k1, k2, k3⟩ := k_terms9 (L := L2) w2 hk6
      rw [et2] at k1 k3
      have w3 := w2.kp (Or.inl ⟨rfl, rfl⟩) (p_kpS.rf S2) (I' := I3) (k2.mono (by decide))
      obtain ⟨S4, I4, L4, l1, l2, l3, l4⟩ := genus9_go (T := T) (K := K) (Λ := Λ) (t := p_tt2 S I Λ lw tn k) (n := tn) (lw := lw) (p_tt2_bd S I Λ lw tn k) ((p_deg (p_tt2 S I Λ lw tn k) 25 - nI 1) * (p_deg (p_tt2 S I Λ lw tn k) 25 - nI 2) / nI 2) 121 78 0 S2 I3 L2 (by omega) (k_w9 w3) k3
      have z0 : nI (p_kb (p_slp Λ lw tn) (p_tt2 S I Λ lw tn k) 0) = nI 0 := rfl
      rw [z0, show ∀ x : Int32, x - nI 0 = x from fun x => by rw [nI_0]; grind] at l1
      refine both_go (h1 := p_H K S2 I2 L2 T Λ) (L2 := L4) _ ?_ (?_ : _ = some ((p_deg (p_tt2 S I Λ lw tn k) 25 - nI 1) * (p_deg (p_tt2 S I Λ lw tn k) 25 - nI 2) / nI 2 - nI (p_kb (p_slp Λ lw tn) (p_tt2 S I Λ lw tn k) 121), _)) (hinv.kp (kS.tr (p_kpS.f3 l2)) (I' := I4) (fI2.tr ((k2.mono (by decide)).tr (l3.mono (by decide)))))
      · unfold fX8_genus
        simp only [gB_o, gB_0, gB_1, gB_2, gB_3, gB_4, gB_5, gB_6, gB_7, gB_8, gB_9, gB_p8, gB_p9, p_lenF pk_60, p_lenF pk_61, p_lenI pk_62, Option.bind_some, e_on, k_cur hwr hk, g1, hd, if_pos h0, m1]
      · have hd9 := q9_degree (S := S2) (L := L2) (T := T) (K := K) (Λ := Λ) (I := I3) k3
        unfold fX9_genus
        simp only [gM_o, Option.bind_some, e_on, k_isCurve (I := I2) w2.1.2.2.1 hcn hk, if_neg eb_t, k1, hd9, if_pos h0]
        exact l1
    · obtain ⟨I3, k1, k2, k3⟩ := k_terms9 (L := L1) w1 hk6
      rw [et] at k1 k3
      refine both_go (h1 := p_H K S I1 L1 T Λ) (L2 := L1) (-1000000002) ?_ ?_ (hinv.kp (p_kpS.rf S) (I' := I3) (g2.tr (k2.mono (by decide))))
      · unfold fX8_genus
        simp only [gB_o, gB_0, gB_1, gB_2, gB_3, gB_4, gB_5, gB_6, gB_7, gB_8, gB_9, gB_p8, gB_p9, p_lenF pk_60, p_lenF pk_61, p_lenI pk_62, Option.bind_some, e_on, k_cur hwr hk, g1, hd, if_neg h0]
      · have hd9 := q9_degree (S := S) (L := L1) (T := T) (K := K) (Λ := Λ) (I := I3) k3
        unfold fX9_genus
        simp only [gM_o, Option.bind_some, e_on, k_isCurve (I := I1) w1.1.2.2.1 hcn hk, if_neg eb_t, k1, hd9, if_neg h0]
  · refine both_bad (r := -1000000001) hinv ?_ ?_
    · unfold fX8_genus
      simp only [gB_o, gB_0, gB_1, gB_2, gB_3, gB_4, gB_5, gB_6, gB_7, gB_8, gB_9, gB_p8, gB_p9, p_lenF pk_60, p_lenF pk_61, p_lenI pk_62, Option.bind_some, e_on, k_cur_no hwr hc]
    · unfold fX9_genus
      simp only [gM_o, Option.bind_some, e_on, k_isCurve_no h97 hcn hc, if_pos eb_f]
theorem c_both (a b : Int32) : p_both (fX8_both 0 a b) (fX9_both 96 a b) := by
  intro K S I L T Λ hinv
  obtain ⟨lw, cn, tn, hwr⟩ := hinv.1
  have hcn := hwr.1.1
  have h97 := hwr.1.2.2.1
  rcases cur_or a (n := cn) (by omega) with ⟨k, hk, rfl⟩ | hc
  · rcases cur_or b (n := cn) (by omega) with ⟨l, hl, rfl⟩ | hc
    · have hk6 : k < 6 := by omega
      have hl6 : l < 6 := by omega
      obtain ⟨I0, L0, J0, I1, L1, f1, f2, f3, g1, g2, g3⟩ := q_both (S := S) (I := I) (L := L) (T := T) (K := K) (Λ := Λ) pk_v33 hwr.2.2.2.2.2.1 hwr.2.2.2.1 hwr.2.2.2.2.2.2.1 (pk_c hk6) (pk_c hl6) (by omega) (by omega)
      have fI1 : p_fr p_scI I I1 := g2.mono (by decide)
      have w1 := hwr.kp (Or.inl ⟨rfl, rfl⟩) (p_kpS.rf S) fI1
      have et := p_tt2_kp (Λ := Λ) (lw := lw) (tn := tn) hk6 (p_kpS.rf S) fI1
      obtain ⟨I3, k1, k2, k3⟩ := k_terms9 (L := L1) w1 hk6
      rw [et] at k1 k3
      obtain ⟨I4, L4, l1, l2, l3, l4⟩ := both91_go (T := T) (K := K) (Λ := Λ) (t1 := p_tt2 S I Λ lw tn k) (nI l) 121 78 0 S I3 L1 (by omega) k3 (fun x hx => absurd hx (Nat.not_lt_zero _))
      have fI4 : p_fr p_scI I I4 := fI1.tr ((k2.mono (by decide)).tr (l2.mono (by decide)))
      have w4 := hwr.kp (Or.inl ⟨rfl, rfl⟩) (p_kpS.rf S) fI4
      have et4 := p_tt2_kp (Λ := Λ) (lw := lw) (tn := tn) hl6 (p_kpS.rf S) fI4
      obtain ⟨I5, m1, m2, m3⟩ := k_terms9 (L := L4) w4 hl6
      rw [et4] at m1 m3
      obtain ⟨L6, n1, n2⟩ := both92_go (T := T) (K := K) (Λ := Λ) (t1 := p_tt2 S I Λ lw tn k) (t2 := p_tt2 S I Λ lw tn l) 121 78 0 S I5 L4 (by omega) m3 (fun x hx => by rw [m2 104 (by decide)]; exact l4 x hx)
      refine both_go (h1 := p_H K S I1 L1 T Λ) (L2 := L6) (nI (p_cb (p_ft (p_tt2 S I Λ lw tn l)) (p_ft (p_tt2 S I Λ lw tn k)) 121)) ?_ ?_ (hinv.kp (p_kpS.rf S) (I' := I5) (fI4.tr (m2.mono (by decide))))
      · unfold fX8_both
        simp only [gB_o, gB_0, gB_1, gB_2, gB_3, gB_4, gB_5, gB_6, gB_7, gB_8, gB_9, gB_p8, gB_p9, p_lenF pk_60, p_lenF pk_61, p_lenI pk_62, Option.bind_some, e_on, k_cur hwr hk, k_cur hwr hl, f1, f2, f3, g1]
        rfl
      · unfold fX9_both
        simp only [gM_o, Option.bind_some, e_on, k_isCurve (I := I1) w1.1.2.2.1 hcn hk, k_isCurve (I := I1) w1.1.2.2.1 hcn hl, if_neg eb_t, k1]
        refine l1.trans ?_
        rw [m1, Option.bind_some]
        exact n1
    · refine both_bad (r := -1000000001) hinv ?_ ?_
      · unfold fX8_both
        simp only [gB_o, gB_0, gB_1, gB_2, gB_3, gB_4, gB_5, gB_6, gB_7, gB_8, gB_9, gB_p8, gB_p9, p_lenF pk_60, p_lenF pk_61, p_lenI pk_62, Option.bind_some, e_on, k_cur hwr hk, k_cur_no hwr hc]
      · unfold fX9_both
        simp only [gM_o, Option.bind_some, e_on, k_isCurve h97 hcn hk, k_isCurve_no h97 hcn hc, if_neg eb_t, if_pos eb_f]
  · refine both_bad (r := -1000000001) hinv ?_ ?_
    · unfold fX8_both
      rcases cur_or b (n := cn) (by omega) with ⟨l, hl, rfl⟩ | hc2
      · simp only [gB_o, gB_0, gB_1, gB_2, gB_3, gB_4, gB_5, gB_6, gB_7, gB_8, gB_9, gB_p8, gB_p9, p_lenF pk_60, p_lenF pk_61, p_lenI pk_62, Option.bind_some, e_on, k_cur_no hwr hc, k_cur hwr hl]
      · simp only [gB_o, gB_0, gB_1, gB_2, gB_3, gB_4, gB_5, gB_6, gB_7, gB_8, gB_9, gB_p8, gB_p9, p_lenF pk_60, p_lenF pk_61, p_lenI pk_62, Option.bind_some, e_on, k_cur_no hwr hc, k_cur_no hwr hc2]
    · unfold fX9_both
      simp only [gM_o, Option.bind_some, e_on, k_isCurve_no h97 hcn hc, if_pos eb_f]
