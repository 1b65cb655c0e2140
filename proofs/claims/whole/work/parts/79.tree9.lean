theorem p_pd_0 (g : Nat → (Nat → Int64) → Nat) (cs : Nat → Nat → Int64) (dp : Nat → Nat) (D s : Nat) : p_pd g cs dp D s s = 0 := by
  unfold p_pd
  rw [Nat.sub_self]
  rfl
section TREE9B
variable {K : Nat} {T : Nat → Nat → Option Nat} {Λ : Nat → p_Lw}
theorem tree_out {n D : Nat} {lw : Nat → Nat} (hD : D ≤ 3) {TN TB TE : Nat} (hTN : TN ≤ 21) :
    ∀ (d f s N b e : Nat) (S I : Nat → Nat → Int32) (L : Nat → Nat → Int64) (cs : Nat → Nat → Int64) (dp : Nat → Nat), s + d = TN → p_w9 I Λ lw n → p_nd D N I L cs dp → S 96 7 = nI N → S 96 8 = nI b → S 96 9 = nI e → s ≤ N → s + p_pd (p_tN (p_slp Λ lw n)) cs dp D s N = TN → b + p_pd (p_tB (p_slp Λ lw n)) cs dp D s N = TB → e + p_pd (p_tE (p_slp Λ lw n)) cs dp D s N = TE →
    ∃ S2 I2 L2, fX9_findTree_L39 (d + 1 + f) 96 (nI D) (nI s) (p_H K S I L T Λ) = some (p_H K (S2) (I2) (L2) T Λ) ∧ S2 96 7 = nI TN ∧ S2 96 8 = nI TB ∧ S2 96 9 = nI TE ∧ p_f3 S S2 ∧ p_fr [103, 111, 112] I I2 ∧ p_fr [101] L L2
  | 0, f, s, N, b, e, S, I, L, cs, dp, hd, hw, hn, h7, h8, h9, hs, hN, hB, hE => by
    have hge := p_nd_ge (P := p_slp Λ lw n) (s := s) hn
    have : N = s := by omega
    subst this
    rw [p_pd_0] at hN hB hE
    refine ⟨S, I, L, ?_, by rw [h7, ← hN]; rfl, by rw [h8, ← hB]; rfl, by rw [h9, ← hE]; rfl, p_f3.rf _, p_fr.rf _ _, p_fr.rf _ _⟩
    rw [show 0 + 1 + f = f + 1 by omega]
    show fX9_findTree_b39 _ _ _ _ _ = _
    unfold fX9_findTree_b39
    rw [gM_7, Option.bind_some, h7, if_pos (nI_le (Nat.le_refl _) (by omega))]
  | d + 1, f, s, N, b, e, S, I, L, cs, dp, hd, hw, hn, h7, h8, h9, hs, hN, hB, hE => by
    have hge := p_nd_ge (P := p_slp Λ lw n) (s := s) hn
    have hsN : s < N := by
      rcases Nat.lt_or_ge s N with z | z
      · exact z
      · have : N = s := by omega
        subst this
        rw [p_pd_0] at hN
        omega
    have hN21 : N ≤ 21 := by omega
    rw [p_pd_pop _ _ _ _ hsN] at hN hB hE
    obtain ⟨hd1, hd2, hb, hsup, heq⟩ := hn s hsN
    have h17 := p_tm_le (cs s)
    have hbr : 1 ≤ p_tm (cs s) ∧ p_tm (cs s) ≤ 16 := by unfold p_br at hb; simpa using hb
    have hsu : p_su (fun k => L 101 (85 * s + k)) := fun k hk hl => (heq k hk).trans (hsup k hk (by omega))
    have htm : p_tm (fun k => L 101 (85 * s + k)) = p_tm (cs s) := p_tm_eq heq
    rw [show d + 1 + 1 + f = (d + 1 + f) + 1 by omega]
    show ∃ S2 I2 L2, fX9_findTree_b39 _ _ _ _ _ = _ ∧ _
    unfold fX9_findTree_b39
    simp only [gM_7, gM_8, gM_p8, Option.bind_some, e_on, h7, h8]
    rw [if_neg (nI_ge hsN (by omega)), q9_times (by omega) hsu, Option.bind_some, htm, p_mm hbr.1 hbr.2, nI_add, p_s_ne (by decide), h7, t5_0]
    generalize hS1 : p_s S 96 8 (nI (b + p_tm (cs s) * (p_tm (cs s) - 1) / 2)) = S1
    have f1 : p_f3 S S1 := by rw [← hS1]; exact (p_f3.rf S).put (Or.inr (Or.inl rfl)) _
    have s7 : S1 96 7 = nI N := by rw [← hS1, p_s_ne (by decide)]; exact h7
    have s8 : S1 96 8 = nI (b + p_tm (cs s) * (p_tm (cs s) - 1) / 2) := by rw [← hS1, p_s_at]
    have s9 : S1 96 9 = nI e := by rw [← hS1, p_s_ne (by decide)]; exact h9
    by_cases hds : dp s < D
    · obtain ⟨N2, S2, I2, L2, cs2, dp2, r1, r2, r3, r4, r5, r6, r7, r8, r9, r10, r11, r12, r13, r14⟩ := tree_in (K := K) (T := T) (n := n) (s := s) (ds := dp s) (c := cs s) (m := p_tm (cs s)) hD hds hd1.1 rfl hb (fX9_findTree_L39 (d + 1 + f)) (nI N) hTN 11 188 0 N S1 I L cs dp (by omega) hw hn s7 hsN rfl rfl (by
        rw [show D + 1 - dp s = (D - dp s) + 1 by omega, p_tN_s, if_pos hb] at hN
        rw [p_cs_0]
        omega)
      have gN := r14 _ (p_g0_N (p_slp Λ lw n))
      have gB := r14 _ (p_g0_B (p_slp Λ lw n))
      have gE := r14 _ (p_g0_E (p_slp Λ lw n))
      rw [p_cs_0, Nat.add_zero] at gN gB gE r9
      rw [show D + 1 - dp s = (D - dp s) + 1 by omega, p_tN_s, if_pos hb] at hN
      rw [show D + 1 - dp s = (D - dp s) + 1 by omega, p_tB_s, if_pos hb] at hB
      rw [show D + 1 - dp s = (D - dp s - 1) + 1 + 1 by omega, p_tE_s, if_pos hb, show D - dp s - 1 + 1 = D - dp s by omega] at hE
      obtain ⟨S3, I3, L3, k1, k2, k3, k4, k5, k6, k7⟩ := tree_out hD (TB := TB) (TE := TE) hTN d f (s + 1) N2 (b + p_tm (cs s) * (p_tm (cs s) - 1) / 2) (e + if p_cs p_b1 (p_slp Λ lw n) (cs s) 11 = 0 then 1 else 0) (p_s S2 96 9 (nI (e + if p_cs p_b1 (p_slp Λ lw n) (cs s) 11 = 0 then 1 else 0))) I2 L2 cs2 dp2 (by omega) (hw.fr (r7 97 (by decide))) r2 (by rw [p_s_ne (by decide)]; exact r3) (by rw [p_s_ne (by decide), r4]; exact s8) p_s_at (by omega) (by omega) (by omega) (by omega)
      refine ⟨S3, I3, L3, ?_, k2, k3, k4, (f1.tr (r6.put (Or.inr (Or.inr rfl)) _)).tr k5, r7.tr k6, r8.tr k7⟩
      rw [← k1]
      refine r1.trans ?_
      obtain ⟨hq1, hq2, -⟩ := r2 s r10
      unfold fX9_findTree_b170 fX9_findTree_b207 fX9_findTree_b224
      simp only [gM_10, gM_7, gM_9, gM_p9, Option.bind_some, e_on, p_ldI pk_103 (show s < 40 by omega) (by decide), hq2, r13, r3, r5, s9]
      rw [if_neg (fun z => absurd ((nI_eq (by omega) (by omega)).mp z) (by omega)), nI_s]
      by_cases h0 : p_cs p_b1 (p_slp Λ lw n) (cs s) 11 = 0
      · rw [if_pos (show nI N2 = nI N by congr 1; omega), if_neg (by decide), if_pos h0, nI_add]
      · rw [if_neg (fun z => absurd ((nI_eq (by omega) (by omega)).mp z) (by omega)), if_pos nI_0, if_neg h0, nI_add]
    · have eD : dp s = D := by omega
      rw [eD, show D + 1 - D = 1 by omega, p_tN_1, if_pos hb] at hN
      rw [eD, show D + 1 - D = 1 by omega, p_tB_1, if_pos hb] at hB
      rw [eD, show D + 1 - D = 1 by omega, p_tE_1, if_pos hb] at hE
      obtain ⟨S3, I3, L3, k1, k2, k3, k4, k5, k6, k7⟩ := tree_out hD (TB := TB) (TE := TE) hTN d f (s + 1) N (b + p_tm (cs s) * (p_tm (cs s) - 1) / 2) (e + if p_tm (cs s) = 1 then 1 else 0) (p_s S1 96 9 (nI (e + if p_tm (cs s) = 1 then 1 else 0))) I L cs dp (by omega) hw hn (by rw [p_s_ne (by decide)]; exact s7) (by rw [p_s_ne (by decide)]; exact s8) p_s_at (by omega) (by omega) (by omega) (by omega)
      refine ⟨S3, I3, L3, ?_, k2, k3, k4, (f1.put (Or.inr (Or.inr rfl)) _).tr k5, k6, k7⟩
      rw [← k1, show (200 : Nat) = 199 + 1 by rfl]
      show fX9_findTree_b79 _ _ _ _ _ _ _ _ _ = _
      unfold fX9_findTree_b79 fX9_findTree_b170 fX9_findTree_b207 fX9_findTree_b224
      rw [if_neg (t6_n (by decide))]
      simp only [gM_10, gM_7, gM_9, gM_p9, Option.bind_some, e_on, p_ldI pk_103 (show s < 40 by omega) (by decide), hd2, eD, s9]
      rw [if_pos (nI_le (Nat.le_refl _) (by omega)), if_pos True.intro, nI_s]
      by_cases h0 : p_tm (cs s) = 1
      · rw [if_pos (by rw [h0]), if_neg (by decide), if_pos h0, nI_add]
      · rw [if_neg (fun z => h0 ((nI_eq (by omega) (by omega)).mp z)), if_pos nI_0, if_neg h0, nI_add]
theorem q9_findTree {n D : Nat} {lw : Nat → Nat} {S I : Nat → Nat → Int32} {L : Nat → Nat → Int64} (hD : D ≤ 3) (hD1 : 1 ≤ D) (hw : p_w9 I Λ lw n) (hsup : ∀ k, k < 85 → 4 < k / 5 + k % 5 → p_s9 L 0 k = 0) (hic : p_ic (p_s9 L 0) (781 * (781 * 198))) :
    ∃ S2 I2 L2, fX9_findTree 96 (nI D) (p_H K S I L T Λ) = some (p_H K (S2) (I2) (L2) T Λ) ∧ S2 96 7 = nI (p_tN (p_slp Λ lw n) D (p_s9 L 0)) ∧ S2 96 8 = nI (p_tB (p_slp Λ lw n) D (p_s9 L 0)) ∧ S2 96 9 = nI (p_tE (p_slp Λ lw n) D (p_s9 L 0)) ∧ p_f3 S S2 ∧ p_fr [103, 111, 112] I I2 ∧ p_fr [101] L L2 := by
  have h17 := p_tm_le (p_s9 L 0)
  have h21 := p_tN_21 (p_slp_r Λ lw n) hic hD
  have hsu : p_su (fun k => L 101 (85 * 0 + k)) := fun k hk hl => hsup k hk (by omega)
  have key : ∀ (N : Nat), (N = if p_br (p_tm (p_s9 L 0)) then 1 else 0) → ∃ S2 I2 L2, fX9_findTree_b17 96 (nI D) (nI N) 96 (p_H K S I L T Λ) = some (p_H K (S2) (I2) (L2) T Λ) ∧ S2 96 7 = nI (p_tN (p_slp Λ lw n) D (p_s9 L 0)) ∧ S2 96 8 = nI (p_tB (p_slp Λ lw n) D (p_s9 L 0)) ∧ S2 96 9 = nI (p_tE (p_slp Λ lw n) D (p_s9 L 0)) ∧ p_f3 S S2 ∧ p_fr [103, 111, 112] I I2 ∧ p_fr [101] L L2 := by
    intro N hN
    have pd1 : ∀ g, p_g0 g → 0 + p_pd g (fun _ => p_s9 L 0) (fun _ => 1) D 0 N = g D (p_s9 L 0) := fun g hg => by
      unfold p_pd
      cases hb : p_br (p_tm (p_s9 L 0))
      · rw [hb] at hN
        rw [hN, hg _ _ hb]
        rfl
      · rw [hb] at hN
        rw [hN, Nat.zero_add]
        show p_sm _ 1 = _
        simp only [p_sm]
        rw [show D + 1 - 1 = D by omega, Nat.zero_add]
    have hN1 : N ≤ 1 := by rw [hN]; split <;> omega
    obtain ⟨S2, I2, L2, k1, k2, k3, k4, k5, k6, k7⟩ := tree_out (K := K) (T := T) hD (n := n) (Λ := Λ) (lw := lw) (TB := p_tB (p_slp Λ lw n) D (p_s9 L 0)) (TE := p_tE (p_slp Λ lw n) D (p_s9 L 0)) h21 (p_tN (p_slp Λ lw n) D (p_s9 L 0)) (199 - p_tN (p_slp Λ lw n) D (p_s9 L 0)) 0 N 0 0 (p_s (p_s (p_s S 96 7 (nI N)) 96 8 (nI 0)) 96 9 (nI 0)) (va_up I 103 (upd (I 103) 0 (nI 1))) L (fun _ => p_s9 L 0) (fun _ => 1) (by omega) (hw.fr (va_up_n (by decide))) (fun q hq => by
      have : q = 0 := by omega
      subst this
      refine ⟨⟨Nat.le_refl 1, hD1⟩, by rw [va_up_s]; simp [upd], ?_, fun k hk hl => hsup k hk (by omega), fun k hk => rfl⟩
      cases hb : p_br (p_tm (p_s9 L 0))
      · rw [hb] at hN
        rw [hN] at hq
        exact absurd hq (by decide)
      · rfl) (by rw [p_s_ne (by decide), p_s_ne (by decide), p_s_at]) (by rw [p_s_ne (by decide), p_s_at]) p_s_at (by omega) (pd1 _ (p_g0_N _)) (pd1 _ (p_g0_B _)) (pd1 _ (p_g0_E _))
    refine ⟨S2, I2, L2, ?_, k2, k3, k4, ((((p_f3.rf S).put (Or.inl rfl) _).put (Or.inr (Or.inl rfl)) _).put (Or.inr (Or.inr rfl)) _).tr k5, ((p_fr.rf _ _).up (k := 103) (by simp) _).tr k6, k7⟩
    unfold fX9_findTree_b17
    simp only [gM_p7, gM_p8, gM_p9, gM_10, Option.bind_some, e_on, p_stI pk_103 (show 0 < 40 by decide) (by decide)]
    rw [← k1]
    congr 1
    omega
  unfold fX9_findTree
  rw [gM_o, Option.bind_some, q9_times (by decide) hsu, Option.bind_some]
  have e0 : p_tm (fun k => L 101 (85 * 0 + k)) = p_tm (p_s9 L 0) := rfl
  rw [e0, q9_isSome (by omega), Option.bind_some]
  cases hb : p_br (p_tm (p_s9 L 0))
  · rw [if_pos eb_f]
    exact key 0 (by rw [hb]; rfl)
  · rw [if_neg eb_t]
    exact key 1 (by rw [hb]; rfl)
end TREE9B
