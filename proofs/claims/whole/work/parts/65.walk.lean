def p_kb (P : (Nat → Int64) → Nat → Nat → Bool) (t : Nat → Nat → Int32) (n : Nat) : Nat := p_sm (fun k => if 2 ≤ p_tp t k then p_tB P 3 (p_shp t (p_px k) (p_py k)) else 0) n
theorem p_kb_s (P : (Nat → Int64) → Nat → Nat → Bool) (t : Nat → Nat → Int32) (n : Nat) : p_kb P t (n + 1) = p_kb P t n + if 2 ≤ p_tp t n then p_tB P 3 (p_shp t (p_px n) (p_py n)) else 0 := rfl
section KNOT
variable {K : Nat} {S I : Nat → Nat → Int32} {L : Nat → Nat → Int64} {T : Nat → Nat → Option Nat} {Λ : Nat → p_Lw}
theorem q_clearTree {v w : Nat} (hv : p_isV v w) : fX6_clearTree v (p_H K S I L T Λ) = some (p_H K (va_up S v (fun k => if k = 0 then nI 0 else if k = 1 then nI 0 else if k = 2 then nI 0 else S v k)) I L T Λ) := by
  unfold fX6_clearTree
  simp only [gV_o hv, gV_0 hv, gV_1 hv, gV_2 hv, gV_3 hv, gV_4 hv, gV_5 hv, gV_6 hv, gV_7 hv, gV_8 hv, gV_p0 hv, gV_p1 hv, gV_p2 hv, p_lenI (pk_v1 hv), p_lenI (pk_v2 hv), p_lenI (pk_v3 hv), p_lenF (pk_v4 hv), p_lenL (pk_v5 hv), Option.bind_some, e_on]
  congr 2
  unfold p_s
  rw [va_up_up, va_up_s, va_up_up, va_up_s]
  congr 1
  funext k
  simp only [upd]
  by_cases h2 : k = 2
  · subst h2; simp
  · by_cases h1 : k = 1
    · subst h1; simp
    · by_cases h0 : k = 0
      · subst h0; simp
      · simp [h0, h1, h2]
theorem p_lf_fr {v : Nat} {L L' : Nat → Nat → Int64} (h : p_lf v 0 L L') : p_fr [v + 9, v + 11] L L' := fun b hb => h b (fun e' h1 h2 => by
  simp only [List.mem_cons, List.not_mem_nil, or_false, not_or] at hb
  rcases (show e' = 1 ∨ e' = 2 by omega) with rfl | rfl <;> omega)
theorem q_growTree {v w n D : Nat} {lw : Nat → Nat} (hv : p_isV v w) (hl : p_laws T K w n lw) (hf : p_lwf Λ lw n) (hD : D ≤ 3) (hD1 : 1 ≤ D) (hn : S w 1 = nI n) :
    ∃ S' I' L', fX6_growTree v (nI D) (p_H K S I L T Λ) = some (p_H K (S') (I') (L') T Λ) ∧ p_fr [v] S S' ∧ p_fr [w + 3] I I' ∧ p_fr [v + 9, v + 11] L L' ∧ S' v 0 = nI (p_tN (p_slp Λ lw n) D (L (v + 7))) ∧ S' v 1 = nI (p_tB (p_slp Λ lw n) D (L (v + 7))) ∧ S' v 2 = nI (p_tE (p_slp Λ lw n) D (L (v + 7))) := by
  obtain ⟨I', L', g1, g2, g3⟩ := q_grow (K := K) (T := T) (Λ := Λ) (S := va_up S v (fun k => if k = 0 then nI 0 else if k = 1 then nI 0 else if k = 2 then nI 0 else S v k)) (I := I) (L := L) hv hl hf hD hD1 (by rw [va_up_n hv.nw]; exact hn)
  refine ⟨p_g3 (va_up S v (fun k => if k = 0 then nI 0 else if k = 1 then nI 0 else if k = 2 then nI 0 else S v k)) v (nI (p_tN (p_slp Λ lw n) D (L (v + 7)))) (nI (p_tB (p_slp Λ lw n) D (L (v + 7)))) (nI (p_tE (p_slp Λ lw n) D (L (v + 7)))), I', L', ?_, ?_, g2, p_lf_fr g3, p_g3_0.trans ?_, p_g3_1.trans ?_, p_g3_2.trans ?_⟩
  · unfold fX6_growTree
    rw [gV_o hv, Option.bind_some, q_clearTree hv, Option.bind_some, g1, Option.bind_some]
  · intro b hb
    simp only [List.mem_cons, List.not_mem_nil, or_false] at hb
    rw [p_g3_n hb, va_up_n hb]
  · rw [va_up_s]
    show nI 0 + _ = _
    rw [nI_add, Nat.zero_add]
  · rw [va_up_s]
    show nI 0 + _ = _
    rw [nI_add, Nat.zero_add]
  · rw [va_up_s]
    show nI 0 + _ = _
    rw [nI_add, Nat.zero_add]
theorem bk_go {v w n : Nat} {lw : Nat → Nat} {t : Nat → Nat → Int32} (hv : p_isV v w) (hl : p_laws T K w n lw) (hf : p_lwf Λ lw n) : ∀ (d f k : Nat) (S I : Nat → Nat → Int32) (L : Nat → Nat → Int64), k + d = 121 → S w 1 = nI n → (∀ k l, k + l ≤ 4 → I (v + 1) (p_ixn k l) = t k l) → (∀ k, k < 121 → I (v + 2) k = nI (p_tp t k)) → S v 1 = nI (p_kb (p_slp Λ lw n) t k) →
    ∃ S' I' L', fX6_LelongsOfKnots_L6 (d + 1 + f) v (nI k) (p_H K S I L T Λ) = some (nI (p_kb (p_slp Λ lw n) t 121), (p_H K (S') (I') (L') T Λ)) ∧ p_fr [v] S S' ∧ p_fr [w + 3] I I' ∧ p_fr [v + 7, v + 9, v + 11] L L'
  | 0, f, k, S, I, L, hk, hn, ht, hm, hs => by
    refine ⟨S, I, L, ?_, p_fr.rf _ _, p_fr.rf _ _, p_fr.rf _ _⟩
    rw [show 0 + 1 + f = f + 1 by omega]
    show fX6_belongsOfKnots_b6 _ _ _ _ = _
    unfold fX6_belongsOfKnots_b6
    simp only [gV_o hv, gV_0 hv, gV_1 hv, gV_2 hv, gV_3 hv, gV_4 hv, gV_5 hv, gV_6 hv, gV_7 hv, gV_8 hv, gV_p0 hv, gV_p1 hv, gV_p2 hv, p_lenI (pk_v1 hv), p_lenI (pk_v2 hv), p_lenI (pk_v3 hv), p_lenF (pk_v4 hv), p_lenL (pk_v5 hv), Option.bind_some, e_on]
    rw [if_pos (nI_le (by omega) (by omega)), hs, show k = 121 by omega]
  | d + 1, f, k, S, I, L, hk, hn, ht, hm, hs => by
    rw [show d + 1 + 1 + f = (d + 1 + f) + 1 by omega]
    have h17 := p_tp_le t k
    show ∃ S' I' L', fX6_belongsOfKnots_b6 _ _ _ _ = _ ∧ _
    unfold fX6_belongsOfKnots_b6 fX6_belongsOfKnots_b49
    simp only [gV_o hv, gV_0 hv, gV_1 hv, gV_2 hv, gV_3 hv, gV_4 hv, gV_5 hv, gV_6 hv, gV_7 hv, gV_8 hv, gV_p0 hv, gV_p1 hv, gV_p2 hv, p_lenI (pk_v1 hv), p_lenI (pk_v2 hv), p_lenI (pk_v3 hv), p_lenF (pk_v4 hv), p_lenL (pk_v5 hv), Option.bind_some, e_on, p_ldI (pk_v2 hv) (show k < 121 by omega) (by decide), hm k (show k < 121 by omega), nI_mod' (show k < 2 ^ 31 by omega) (show 11 < 2 ^ 31 by decide), nI_div (show k < 2 ^ 31 by omega) (show 11 < 2 ^ 31 by decide)]
    rw [if_neg (nI_ge (by omega) (by decide)), nI_s]
    by_cases h2 : 2 ≤ p_tp t k
    · rw [if_neg (nI_nlt h2 (by omega))]
      obtain ⟨c, hc, hg⟩ := q_stand (S := S) (L := L) (T := T) (Λ := Λ) (K := K) hv ht (nI (k / 11) - nI 5) (nI (k % 11) - nI 5)
      obtain ⟨I1, L1, g1, g2, g3⟩ := q_grow (K := K) (T := T) (Λ := Λ) (S := S) (I := I) (L := va_up L (v + 7) c) hv hl hf (show 3 ≤ 3 by omega) (by omega) hn
      rw [va_up_s, p_tB_eq (p_slp_q Λ lw n) hc] at g1
      have hwv : w + 3 ≠ v + 1 ∧ w + 3 ≠ v + 2 := by rcases hv with ⟨rfl, rfl⟩ | ⟨rfl, rfl⟩ <;> omega
      have e1 : I1 (v + 1) = I (v + 1) := g2 _ (by simp; omega)
      have e2 : I1 (v + 2) = I (v + 2) := g2 _ (by simp; omega)
      obtain ⟨S2, I2, L2, k1, k2, k3, k4⟩ := bk_go (t := t) hv hl hf d f (k + 1) (p_g3 S v (nI (p_tN (p_slp Λ lw n) 3 c)) (nI (p_tB (p_slp Λ lw n) 3 (p_shp t (nI (k / 11) - nI 5).toInt64 (nI (k % 11) - nI 5).toInt64))) (nI (p_tE (p_slp Λ lw n) 3 c))) I1 L1 (by omega) (by rw [p_g3_n hv.nw]; exact hn) (by rw [e1]; exact ht) (by rw [e2]; exact hm) (by rw [p_g3_1, hs, p_kb_s, if_pos h2, nI_add]; rfl)
      refine ⟨S2, I2, L2, ?_, fun b hb => ?_, g2.tr k3, fun b hb => ?_⟩
      · simp only [hg, Option.bind_some, e_on, g1]
        exact k1
      · rw [k2 b hb, p_g3_n (by simpa using hb)]
      · have hb2 := hb
        simp only [List.mem_cons, List.not_mem_nil, or_false, not_or] at hb2
        rw [k4 b hb, p_lf_fr g3 b (by simp; omega), va_up_n hb2.1]
    · rw [if_pos (nI_lt (by omega) (by decide))]
      exact bk_go (t := t) hv hl hf d f (k + 1) S I L (by omega) hn ht hm (by rw [hs, p_kb_s, if_neg h2, Nat.add_zero])
theorem q_knots {v w n : Nat} {lw : Nat → Nat} {t : Nat → Nat → Int32} (hv : p_isV v w) (hl : p_laws T K w n lw) (hf : p_lwf Λ lw n) (hn : S w 1 = nI n) (ht : ∀ k l, k + l ≤ 4 → I (v + 1) (p_ixn k l) = t k l) (hm : ∀ k, k < 121 → I (v + 2) k = nI (p_tp t k)) :
    ∃ S' I' L', fX6_belongsOfKnots v (p_H K S I L T Λ) = some (nI (p_kb (p_slp Λ lw n) t 121), (p_H K (S') (I') (L') T Λ)) ∧ p_fr [v] S S' ∧ p_fr [w + 3] I I' ∧ p_fr [v + 7, v + 9, v + 11] L L' := by
  unfold fX6_belongsOfKnots
  rw [gV_o hv, Option.bind_some, q_clearTree hv, Option.bind_some]
  obtain ⟨S', I', L', g1, g2, g3, g4⟩ := bk_go (K := K) (T := T) (Λ := Λ) hv hl hf 121 78 0 (va_up S v (fun k => if k = 0 then nI 0 else if k = 1 then nI 0 else if k = 2 then nI 0 else S v k)) I L (by omega) (by rw [va_up_n hv.nw]; exact hn) ht hm (by rw [va_up_s]; rfl)
  exact ⟨S', I', L', g1, fun b hb => by rw [g2 b hb, va_up_n (by simpa using hb)], g3, g4⟩
theorem cb_go {v w : Nat} (hv : p_isV v w) : ∀ (d f n : Nat), n + d = 121 → fX6_placesOnBoth_L4 (p_H K S I L T Λ) (d + 1 + f) v (nI (p_cb (I (v + 2)) (I (v + 3)) n)) (nI n) = some (nI (p_cb (I (v + 2)) (I (v + 3)) 121))
  | 0, f, n, hn => by
    rw [show 0 + 1 + f = f + 1 by omega]
    show fX6_placesOnBoth_b4 _ _ _ _ _ = _
    unfold fX6_placesOnBoth_b4
    rw [if_pos (nI_le (by omega) (by omega)), show n = 121 by omega]
  | d + 1, f, n, hn => by
    rw [show d + 1 + 1 + f = (d + 1 + f) + 1 by omega]
    show fX6_placesOnBoth_b4 _ _ _ _ _ = _
    unfold fX6_placesOnBoth_b4 fX6_placesOnBoth_b33
    have ih := cb_go hv d f (n + 1) (by omega)
    rw [p_cb] at ih
    simp only [gV_o hv, gV_0 hv, gV_1 hv, gV_2 hv, gV_3 hv, gV_4 hv, gV_5 hv, gV_6 hv, gV_7 hv, gV_8 hv, gV_p0 hv, gV_p1 hv, gV_p2 hv, p_lenI (pk_v1 hv), p_lenI (pk_v2 hv), p_lenI (pk_v3 hv), p_lenF (pk_v4 hv), p_lenL (pk_v5 hv), Option.bind_some, e_on, p_ldI (pk_v2 hv) (show n < 121 by omega) (by decide), p_ldI (pk_v3 hv) (show n < 121 by omega) (by decide)]
    rw [if_neg (nI_ge (by omega) (by decide)), nI_s, nI_s]
    by_cases h : I (v + 2) n < nI 1
    · rw [if_pos (Or.inl h)] at ih
      rw [if_pos h]; exact ih
    · rw [if_neg h]
      by_cases h2 : I (v + 3) n < nI 1
      · rw [if_pos (Or.inr h2)] at ih
        rw [if_pos h2]; exact ih
      · rw [if_neg (fun z => z.elim h h2)] at ih
        rw [if_neg h2]; exact ih
theorem p_cb_eq {f g f' g' : Nat → Int32} : ∀ n, (∀ k, k < n → f k = f' k) → (∀ k, k < n → g k = g' k) → p_cb f g n = p_cb f' g' n
  | 0, _, _ => rfl
  | n + 1, h, h' => by rw [p_cb, p_cb, h n (by omega), h' n (by omega), p_cb_eq n (fun k hk => h k (by omega)) (fun k hk => h' k (by omega))]
theorem q_both {v w a b n : Nat} {lw : Nat → Nat} (hv : p_isV v w) (hl : p_laws T K w n lw) (h1 : S w 1 = nI n) (hf : p_lwf Λ lw n) (hc : p_isC a) (hd : p_isC b) (ha : a + 1 ≠ w + 3 ∧ a + 1 ≠ v + 1 ∧ a + 1 ≠ v + 2 ∧ a + 1 ≠ v + 3) (hb : b + 1 ≠ w + 3 ∧ b + 1 ≠ v + 1 ∧ b + 1 ≠ v + 2 ∧ b + 1 ≠ v + 3) :
    ∃ I1 L1 I3 I2 L2, fX6_walk v a (p_H K S I L T Λ) = some (p_H K S (I1) (L1) T Λ) ∧ fX6_setAside v (p_H K S (I1) (L1) T Λ) = some (p_H K S (I3) (L1) T Λ) ∧ fX6_walk v b (p_H K S (I3) (L1) T Λ) = some (p_H K S (I2) (L2) T Λ) ∧ fX6_placesOnBoth v (p_H K S (I2) (L2) T Λ) = some (nI (p_cb (fun k => nI (p_tp (p_tv (S b 0) (I (b + 1)) (p_tg Λ lw n)) k)) (fun k => nI (p_tp (p_tv (S a 0) (I (a + 1)) (p_tg Λ lw n)) k)) 121)) ∧ p_fr [w + 3, v + 1, v + 2, v + 3] I I2 ∧ p_fr [v + 7] L L2 := by
  obtain ⟨I1, L1, g1, g2, g3, g4, g5⟩ := q_walk (I := I) (L := L) hv hl h1 hf hc ha.1 ha.2.1
  obtain ⟨I2, L2, k1, k2, k3, k4, k5⟩ := q_walk (I := va_up I1 (v + 3) (va_cpy (I1 (v + 2)) (I1 (v + 3)) 0 0 121)) (L := L1) hv hl h1 hf hd hb.1 hb.2.1
  have e3 : (va_up I1 (v + 3) (va_cpy (I1 (v + 2)) (I1 (v + 3)) 0 0 121)) (b + 1) = I (b + 1) := by rw [va_up_n hb.2.2.2, g2 _ (by simp; omega)]
  rw [e3] at k5
  have hwv : w + 3 ≠ v + 3 := by rcases hv with ⟨rfl, rfl⟩ | ⟨rfl, rfl⟩ <;> omega
  refine ⟨I1, L1, _, I2, L2, g1, ?_, k1, ?_, fun b hb => ?_, g3.tr k3⟩
  · unfold fX6_setAside
    simp only [gV_o hv, gV_0 hv, gV_1 hv, gV_2 hv, gV_3 hv, gV_4 hv, gV_5 hv, gV_6 hv, gV_7 hv, gV_8 hv, gV_p0 hv, gV_p1 hv, gV_p2 hv, p_lenI (pk_v1 hv), p_lenI (pk_v2 hv), p_lenI (pk_v3 hv), p_lenF (pk_v4 hv), p_lenL (pk_v5 hv), Option.bind_some, e_on]
    rw [show (nI 0 : Int32) = nI 0 from rfl, p_cpyI (pk_v2 hv) (pk_v3 hv) (by decide) (by decide) (by decide) (by decide), Option.bind_some]
  · have h5 := cb_go (S := S) (I := I2) (L := L2) (T := T) (Λ := Λ) (K := K) hv 121 78 0 (by omega)
    unfold fX6_placesOnBoth
    simp only [gV_o hv, gV_0 hv, gV_1 hv, gV_2 hv, gV_3 hv, gV_4 hv, gV_5 hv, gV_6 hv, gV_7 hv, gV_8 hv, gV_p0 hv, gV_p1 hv, gV_p2 hv, p_lenI (pk_v1 hv), p_lenI (pk_v2 hv), p_lenI (pk_v3 hv), p_lenF (pk_v4 hv), p_lenL (pk_v5 hv), Option.bind_some, e_on]
    refine h5.trans ?_
    rw [p_cb_eq 121 k5 (fun k hk => ?_)]
    rw [k2 _ (by simp; omega), va_up_s, va_cpy, if_pos (by omega), Nat.sub_zero, Nat.zero_add, g5 k hk]
  · have hb2 := hb
    simp only [List.mem_cons, List.not_mem_nil, or_false, not_or] at hb2
    rw [k2 b (by simp; omega), va_up_n hb2.2.2.2, g2 b (by simp; omega)]
theorem q_stands {m a : Nat} (hm : m ≤ 60) (x : Int32) (ha : a ≤ 1000) : fX6_stands 62 (nI m) (nI a) x (p_H K S I L T Λ) = some (decide (a < m ∧ I 62 a = x)) := by
  unfold fX6_stands
  rw [if_neg (nI_pos (by omega))]
  by_cases h : a < m
  · rw [if_neg (nI_ge h (by omega)), p_lenI pk_62, Option.bind_some, if_neg (nI_ge (by omega) (by decide)), p_ldI pk_62 (by omega) (by decide), Option.bind_some]
    by_cases h2 : I 62 a = x
    · rw [if_pos h2]; simp [h, h2]
    · rw [if_neg h2]; simp [h2]
  · rw [if_pos (nI_le (by omega) (by omega))]
    simp [h]
theorem ct_go {v w m : Nat} (hv : p_isV v w) (hm : m ≤ 60) (N : Int32) : ∀ (d f r e : Nat), d ≤ 121 → r + 2 * d ≤ 300 → fX6_compareTold_L9 (p_H K S I L T Λ) (d + 1 + f) v 62 (nI m) N (nI r) (nI e) (nI (121 - d)) = some (nI (p_ctf (I (v + 2)) (I 62) m N d r e))
  | 0, f, r, e, hd, hr => by
    rw [show 0 + 1 + f = f + 1 by omega]
    show fX6_compareTold_b9 _ _ _ _ _ _ _ _ _ = _
    unfold fX6_compareTold_b9 fX6_compareTold_b96
    simp only [gV_o hv, gV_0 hv, gV_1 hv, gV_2 hv, gV_3 hv, gV_4 hv, gV_5 hv, gV_6 hv, gV_7 hv, gV_8 hv, gV_p0 hv, gV_p1 hv, gV_p2 hv, p_lenI (pk_v1 hv), p_lenI (pk_v2 hv), p_lenI (pk_v3 hv), p_lenF (pk_v4 hv), p_lenL (pk_v5 hv), Option.bind_some, e_on]
    rw [if_pos (nI_le (by omega) (by omega)), nI_add, p_ctf]
    by_cases h : r = m
    · rw [if_pos (by rw [h]), if_pos h]
    · rw [if_neg (fun z => h ((nI_eq (by omega) (by omega)).mp z)), if_neg h]
  | d + 1, f, r, e, hd, hr => by
    rw [show d + 1 + 1 + f = (d + 1 + f) + 1 by omega]
    show fX6_compareTold_b9 _ _ _ _ _ _ _ _ _ = _
    unfold fX6_compareTold_b9 fX6_compareTold_b96 fX6_compareTold_b90
    simp only [gV_o hv, gV_0 hv, gV_1 hv, gV_2 hv, gV_3 hv, gV_4 hv, gV_5 hv, gV_6 hv, gV_7 hv, gV_8 hv, gV_p0 hv, gV_p1 hv, gV_p2 hv, p_lenI (pk_v1 hv), p_lenI (pk_v2 hv), p_lenI (pk_v3 hv), p_lenF (pk_v4 hv), p_lenL (pk_v5 hv), Option.bind_some, e_on, p_ldI (pk_v2 hv) (show 121 - (d + 1) < 121 by omega) (by decide), q_toldPlace (show 121 - (d + 1) < 121 by omega)]
    rw [if_neg (nI_ge (by omega) (by decide)), nI_s, nI_s, nI_s, nI_s, nI_add, nI_add, p_ctf, show 121 - (d + 1) + 1 = 121 - d by omega, show 121 - (d + 1) = 120 - d by omega, q_stands hm _ (by omega), q_stands hm _ (by omega), Option.bind_some, Option.bind_some]
    by_cases h0 : N ≤ nI e
    · rw [if_pos h0, if_pos h0]
      by_cases h : r = m
      · rw [if_pos (by rw [h]), if_pos h]
      · rw [if_neg (fun z => h ((nI_eq (by omega) (by omega)).mp z)), if_neg h]
    · rw [if_neg h0, if_neg h0]
      by_cases h1 : I (v + 2) (120 - d) < nI 1
      · rw [if_pos h1, if_neg (fun z => absurd h1 (i32_nlt z))]
        exact ct_go hv hm N d f r e (by omega) (by omega)
      · rw [if_neg h1, if_pos (Int32.not_lt.mp h1)]
        by_cases h2 : r < m ∧ I 62 r = p_pl (120 - d)
        · rw [decide_eq_true h2, if_neg eb_t, if_neg (show ¬ ¬ (r < m ∧ I 62 r = p_pl (120 - d)) from fun z => z h2)]
          by_cases h3 : r + 1 < m ∧ I 62 (r + 1) = I (v + 2) (120 - d)
          · rw [decide_eq_true h3, if_neg eb_t, if_neg (show ¬ ¬ (r + 1 < m ∧ I 62 (r + 1) = I (v + 2) (120 - d)) from fun z => z h3)]
            exact ct_go hv hm N d f (r + 2) (e + 1) (by omega) (by omega)
          · rw [decide_eq_false h3, if_pos eb_f, if_pos h3]
        · rw [decide_eq_false h2, if_pos eb_f, if_pos h2]
theorem q_compareTold {v w m : Nat} (hv : p_isV v w) (hm : m ≤ 60) (N : Int32) : fX6_compareTold v 62 (nI m) N (p_H K S I L T Λ) = some (nI (p_ctf (I (v + 2)) (I 62) m N 121 0 0)) := by
  unfold fX6_compareTold
  rw [gV_o hv, Option.bind_some]
  exact ct_go hv hm N 121 78 0 0 (by omega) (by omega)
end KNOT
