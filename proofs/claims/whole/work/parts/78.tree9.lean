def p_pd (g : Nat → (Nat → Int64) → Nat) (cs : Nat → Nat → Int64) (dp : Nat → Nat) (D s N : Nat) : Nat := p_sm (fun i => g (D + 1 - dp (s + i)) (cs (s + i))) (N - s)
theorem p_sm_shift (f : Nat → Nat) : ∀ n, p_sm f (n + 1) = f 0 + p_sm (fun i => f (i + 1)) n
  | 0 => by simp [p_sm]
  | n + 1 => by rw [p_sm, p_sm_shift f n, p_sm]; omega
theorem p_pd_push (g : Nat → (Nat → Int64) → Nat) (cs : Nat → Nat → Int64) (dp : Nat → Nat) (D : Nat) {s N : Nat} (h : s ≤ N) (c : Nat → Int64) (d : Nat) : p_pd g (va_up cs N c) (va_up dp N d) D s (N + 1) = p_pd g cs dp D s N + g (D + 1 - d) c := by
  unfold p_pd
  rw [show N + 1 - s = (N - s) + 1 by omega, p_sm, show s + (N - s) = N by omega, va_up_s, va_up_s]
  congr 1
  refine p_sm_eq _ (fun k hk => ?_)
  rw [va_up_n (by omega), va_up_n (by omega)]
theorem p_pd_pop (g : Nat → (Nat → Int64) → Nat) (cs : Nat → Nat → Int64) (dp : Nat → Nat) (D : Nat) {s N : Nat} (h : s < N) : p_pd g cs dp D s N = g (D + 1 - dp s) (cs s) + p_pd g cs dp D (s + 1) N := by
  unfold p_pd
  rw [show N - s = (N - (s + 1)) + 1 by omega, p_sm_shift]
  congr 1
  refine p_sm_eq _ (fun k hk => ?_)
  rw [show s + (k + 1) = s + 1 + k by omega]
theorem p_sm_ge {f : Nat → Nat} : ∀ n, (∀ k, k < n → 1 ≤ f k) → n ≤ p_sm f n
  | 0, _ => Nat.le_refl 0
  | n + 1, h => by
    have h1 := p_sm_ge n (fun k hk => h k (by omega))
    have h2 := h n (by omega)
    rw [p_sm]
    omega
theorem p_tN_pos {P : (Nat → Int64) → Nat → Nat → Bool} {d : Nat} (hd : 1 ≤ d) {c : Nat → Int64} (hb : p_br (p_tm c) = true) : 1 ≤ p_tN P d c := by
  rw [show d = (d - 1) + 1 by omega, p_tN_s, if_pos hb]
  omega
def p_g0 (g : Nat → (Nat → Int64) → Nat) : Prop := ∀ d c, p_br (p_tm c) = false → g d c = 0
theorem p_g0_N (P : (Nat → Int64) → Nat → Nat → Bool) : p_g0 (p_tN P) := fun d c h => by
  cases d with
  | zero => rfl
  | succ d => rw [p_tN_s, h]; rfl
theorem p_g0_B (P : (Nat → Int64) → Nat → Nat → Bool) : p_g0 (p_tB P) := fun d c h => by
  cases d with
  | zero => rfl
  | succ d => rw [p_tB_s, h]; rfl
theorem p_g0_E (P : (Nat → Int64) → Nat → Nat → Bool) : p_g0 (p_tE P) := fun d c h => by
  cases d with
  | zero => rfl
  | succ d => unfold p_tE; rw [h]; rfl
theorem p_g0_1 : p_g0 (fun _ => p_b1) := fun d c h => by
  show p_b1 c = 0
  unfold p_b1
  rw [h]
  rfl
-- what is known of the shapes that are found
def p_nd (D N : Nat) (I : Nat → Nat → Int32) (L : Nat → Nat → Int64) (cs : Nat → Nat → Int64) (dp : Nat → Nat) : Prop := ∀ q, q < N → (1 ≤ dp q ∧ dp q ≤ D) ∧ I 103 q = nI (dp q) ∧ p_br (p_tm (cs q)) = true ∧ (∀ k, k < 85 → 1 + 3 * dp q < k / 5 + k % 5 → cs q k = 0) ∧ ∀ k, k < 85 → p_s9 L q k = cs q k
theorem p_nd_ge {P : (Nat → Int64) → Nat → Nat → Bool} {D N s : Nat} {I : Nat → Nat → Int32} {L : Nat → Nat → Int64} {cs : Nat → Nat → Int64} {dp : Nat → Nat} (h : p_nd D N I L cs dp) : N - s ≤ p_pd (p_tN P) cs dp D s N := by
  unfold p_pd
  refine p_sm_ge _ (fun k hk => ?_)
  obtain ⟨h1, -, h2, -⟩ := h (s + k) (by omega)
  exact p_tN_pos (by omega) h2
def p_f3 (S0 S : Nat → Nat → Int32) : Prop := (∀ b, b ≠ 96 → S b = S0 b) ∧ ∀ k, k ≠ 7 → k ≠ 8 → k ≠ 9 → S 96 k = S0 96 k
theorem p_f3.rf (S : Nat → Nat → Int32) : p_f3 S S := ⟨fun _ _ => rfl, fun _ _ _ _ => rfl⟩
theorem p_f3.tr {S S' S'' : Nat → Nat → Int32} (h : p_f3 S S') (h' : p_f3 S' S'') : p_f3 S S'' := ⟨fun b hb => (h'.1 b hb).trans (h.1 b hb), fun k h7 h8 h9 => (h'.2 k h7 h8 h9).trans (h.2 k h7 h8 h9)⟩
theorem p_f3.put {S S' : Nat → Nat → Int32} (h : p_f3 S S') {k : Nat} (hk : k = 7 ∨ k = 8 ∨ k = 9) (x : Int32) : p_f3 S (p_s S' 96 k x) := ⟨fun b hb => (p_s_n hb).trans (h.1 b hb), fun j h7 h8 h9 => by
  rw [p_s_s]
  simp only [upd]
  rw [if_neg (by omega)]
  exact h.2 j h7 h8 h9⟩
theorem p_s_at {S : Nat → Nat → Int32} {a k : Nat} {x : Int32} : p_s S a k x a k = x := by rw [p_s_s]; simp [upd]
theorem p_s_ne {S : Nat → Nat → Int32} {a k j : Nat} {x : Int32} (h : j ≠ k) : p_s S a k x a j = S a j := by rw [p_s_s]; simp [upd, h]
theorem p_blw_sup {c : Nat → Int64} {B m : Nat} (h : ∀ k, k < 85 → B < k / 5 + k % 5 → c k = 0) (hm : 1 ≤ m) (t : Int64) {k : Nat} (hk : k < 85) (hB : B + 3 < k / 5 + k % 5) : p_blw c m t k = 0 := by
  unfold p_blw
  have h0 : ∀ b, b < 5 → p_dg c (k / 5 + m) b = 0 := fun b hb => by
    unfold p_dg
    split
    · exact h _ (by omega) (by omega)
    · rfl
  rw [p_sf_eq (g := fun _ => 0) h0 (by omega)]
  rcases (show k % 5 = 0 ∨ k % 5 = 1 ∨ k % 5 = 2 ∨ k % 5 = 3 ∨ k % 5 = 4 by omega) with e | e | e | e | e <;> rw [e] <;> simp [p_sf]
theorem p_shp_sup (t : Nat → Nat → Int32) (x y : Int64) {k : Nat} (h : 4 < k / 5 + k % 5) : p_shp t x y k = 0 := by
  unfold p_shp
  split
  · next h25 =>
    rcases (show (k / 5 = 1 ∧ k % 5 = 4) ∨ (k / 5 = 2 ∧ k % 5 = 3) ∨ (k / 5 = 2 ∧ k % 5 = 4) ∨ (k / 5 = 3 ∧ k % 5 = 2) ∨ (k / 5 = 3 ∧ k % 5 = 3) ∨ (k / 5 = 3 ∧ k % 5 = 4) ∨ (k / 5 = 4 ∧ k % 5 = 1) ∨ (k / 5 = 4 ∧ k % 5 = 2) ∨ (k / 5 = 4 ∧ k % 5 = 3) ∨ (k / 5 = 4 ∧ k % 5 = 4) by omega) with ⟨e, e'⟩ | ⟨e, e'⟩ | ⟨e, e'⟩ | ⟨e, e'⟩ | ⟨e, e'⟩ | ⟨e, e'⟩ | ⟨e, e'⟩ | ⟨e, e'⟩ | ⟨e, e'⟩ | ⟨e, e'⟩ <;> rw [e, e'] <;> simp [p_sf, p_t2]
  · rfl
section TREE9
variable {K : Nat} {T : Nat → Nat → Option Nat} {Λ : Nat → p_Lw}
theorem q9_isSome {m : Nat} (h : m ≤ 40) : fX9_isSome (nI m) = some (p_br m) := by
  unfold fX9_isSome fX9_in p_br
  by_cases h1 : m < 1
  · rw [if_pos (nI_lt h1 (by decide))]
    simp; omega
  · rw [if_neg (nI_nlt (by omega) (by omega))]
    by_cases h2 : 16 < m
    · rw [if_pos (nI_lt h2 (by omega))]
      simp; omega
    · rw [if_neg (nI_nlt (by omega) (by omega))]
      simp; omega
theorem p_s9_up {L : Nat → Nat → Int64} {G : Nat → Int64} {q N k : Nat} (hq : q ≠ N) (hk : k < 85) (hG : ∀ i, i < 85 * N ∨ 85 * N + 85 ≤ i → G i = L 101 i) : p_s9 (va_up L 101 G) q k = p_s9 L q k := by
  unfold p_s9
  rw [va_up_s]
  exact hG _ (by omega)
theorem tree_in {n D s m ds : Nat} {lw : Nat → Nat} (hD : D ≤ 3) (hds : ds < D) (hds1 : 1 ≤ ds) {c : Nat → Int64} (hm : m = p_tm c) (hb : p_br (p_tm c) = true) (k39 : Nat → Int32 → Int32 → e_H → Option e_H) (l4 : Int32) {TN : Nat} (hTN : TN ≤ 21) :
    ∀ (d f u N : Nat) (S I : Nat → Nat → Int32) (L : Nat → Nat → Int64) (cs : Nat → Nat → Int64) (dp : Nat → Nat), u + d = 11 → p_w9 I Λ lw n → p_nd D N I L cs dp → S 96 7 = nI N → s < N → cs s = c → dp s = ds → s + 1 + p_pd (p_tN (p_slp Λ lw n)) cs dp D (s + 1) N + p_cs (p_tN (p_slp Λ lw n) (D - ds)) (p_slp Λ lw n) c 11 = TN + p_cs (p_tN (p_slp Λ lw n) (D - ds)) (p_slp Λ lw n) c u →
    ∃ N2 S2 I2 L2 cs2 dp2, fX9_findTree_L79 k39 (d + 1 + f) 96 (nI D) (nI s) (nI m) l4 (nI u - nI 5) (p_H K S I L T Λ) = fX9_findTree_b170 k39 96 (nI D) (nI s) (nI m) l4 (p_H K (S2) (I2) (L2) T Λ) ∧ p_nd D N2 I2 L2 cs2 dp2 ∧ S2 96 7 = nI N2 ∧ S2 96 8 = S 96 8 ∧ S2 96 9 = S 96 9 ∧ p_f3 S S2 ∧ p_fr [103, 111, 112] I I2 ∧ p_fr [101] L L2 ∧ N2 + p_cs p_b1 (p_slp Λ lw n) c u = N + p_cs p_b1 (p_slp Λ lw n) c 11 ∧ s < N2 ∧ N2 ≤ 21 ∧ cs2 s = c ∧ dp2 s = ds ∧ ∀ g, p_g0 g → p_pd g cs2 dp2 D (s + 1) N2 + p_cs (g (D - ds)) (p_slp Λ lw n) c u = p_pd g cs dp D (s + 1) N + p_cs (g (D - ds)) (p_slp Λ lw n) c 11
  | 0, f, u, N, S, I, L, cs, dp, hu, hw, hn, hS, hs, hc, hd, hT => by
    have hge := p_nd_ge (P := p_slp Λ lw n) (s := s + 1) hn
    have hu11 : u = 11 := by omega
    subst hu11
    refine ⟨N, S, I, L, cs, dp, ?_, hn, hS, rfl, rfl, p_f3.rf _, p_fr.rf _ _, p_fr.rf _ _, rfl, hs, by omega, hc, hd, fun g hg => rfl⟩
    rw [show 0 + 1 + f = f + 1 by omega]
    show fX9_findTree_b79 _ _ _ _ _ _ _ _ _ = _
    unfold fX9_findTree_b79
    rw [if_pos t6_e]
  | d + 1, f, u, N, S, I, L, cs, dp, hu, hw, hn, hS, hs, hc, hd, hT => by
    have hge := p_nd_ge (P := p_slp Λ lw n) (s := s + 1) hn
    have hmono : ∀ g : (Nat → Int64) → Nat, p_cs g (p_slp Λ lw n) c u ≤ p_cs g (p_slp Λ lw n) c 11 := fun g => by
      have : ∀ j, u + j ≤ 11 → p_cs g (p_slp Λ lw n) c u ≤ p_cs g (p_slp Λ lw n) c (u + j) := fun j => by
        induction j with
        | zero => intro _; exact Nat.le_refl _
        | succ j ih =>
          intro hj
          refine Nat.le_trans (ih (by omega)) ?_
          unfold p_cs
          rw [show u + (j + 1) = (u + j) + 1 by omega, p_sm]
          omega
      have h2 := this (11 - u) (by omega)
      rw [show u + (11 - u) = 11 by omega] at h2
      exact h2
    have hTu := hmono (p_tN (p_slp Λ lw n) (D - ds))
    have hN : N ≤ 21 := by omega
    have h17 := p_tm_le c
    have hbr : 1 ≤ p_tm c ∧ p_tm c ≤ 16 := by unfold p_br at hb; simpa using hb
    obtain ⟨hd1, hd2, -, hsup, heq⟩ := hn s hs
    rw [hc] at hsup heq
    obtain ⟨I1, g1, g2⟩ := q9_isSlope (S := S) (L := L) (T := T) (K := K) (s := s) (m := m) (u := u) hw (by omega) (by omega)
    have hP : p_slp Λ lw n (p_s9 L s) m u = p_slp Λ lw n c (p_tm c) u := by rw [p_slp_q Λ lw n _ _ heq, hm]
    rw [hP] at g1
    have e103 : I1 103 = I 103 := g2 103 (by decide)
    rw [show d + 1 + 1 + f = (d + 1 + f) + 1 by omega]
    show ∃ N2 S2 I2 L2 cs2 dp2, fX9_findTree_b79 _ _ _ _ _ _ _ _ _ = _ ∧ _
    unfold fX9_findTree_b79 fX9_findTree_b164
    rw [if_neg (t6_n (by omega))]
    simp only [gM_10, Option.bind_some, e_on, p_ldI pk_103 (show s < 40 by omega) (by decide), hd2, hd]
    rw [if_neg (nI_ge hds (by omega)), g1, Option.bind_some]
    by_cases hp : p_slp Λ lw n c (p_tm c) u = true
    · rw [hp, if_neg eb_t]
      obtain ⟨G, k1, k2, k3⟩ := q9_blows (S := S) (I := I1) (T := T) (K := K) (Λ := Λ) (L := L) (s := s) (s' := N) (m := m) (by omega) (by omega) (by omega) (by omega) (fun k hk hl => by rw [heq k hk]; exact p_tm_lt hk (by omega)) (nI u - nI 5)
      have hch : ∀ k, k < 85 → p_s9 (va_up L 101 G) N k = p_ch c u k := fun k hk => by
        unfold p_s9
        rw [va_up_s, k1 k hk, p_blw_eq heq, hm]
        rfl
      have hcs : ∀ k, k < 85 → 1 + 3 * (ds + 1) < k / 5 + k % 5 → p_ch c u k = 0 := fun k hk hl => p_blw_sup (fun k hk hl => hsup k hk (by omega)) hbr.1 _ hk (B := 1 + 3 * ds) (by omega)
      have hsu : p_su (fun k => (va_up L 101 G) 101 (85 * N + k)) := fun k hk hl => (hch k hk).trans (hcs k hk (by omega))
      have htm : p_tm (fun k => (va_up L 101 G) 101 (85 * N + k)) = p_tm (p_ch c u) := p_tm_eq hch
      simp only [gM_7, gM_10, Option.bind_some, e_on, hS, k3, p_ldI pk_103 (show s < 40 by omega) (by decide), e103, hd2, hd, p_stI pk_103 (show N < 40 by omega) (by decide)]
      rw [q9_times (by omega) hsu, Option.bind_some, htm, q9_isSome (by have := p_tm_le (p_ch c u); omega), Option.bind_some]
      unfold fX9_findTree_b160 fX9_findTree_b164
      rw [gM_p7, gM_p7, Option.bind_some, Option.bind_some, nI_add, nI_add, nI_add, t5_s]
      have f1 : p_fr [103, 111, 112] I (va_up I1 103 (upd (I 103) N (nI (ds + 1)))) := (g2.mono (by simp)).up (k := 103) (by simp) _
      have fL : p_fr [101] L (va_up L 101 G) := (p_fr.rf _ _).up (by simp) _
      have hold : ∀ q, q < N → (1 ≤ dp q ∧ dp q ≤ D) ∧ (va_up I1 103 (upd (I 103) N (nI (ds + 1)))) 103 q = nI (dp q) ∧ p_br (p_tm (cs q)) = true ∧ (∀ k, k < 85 → 1 + 3 * dp q < k / 5 + k % 5 → cs q k = 0) ∧ ∀ k, k < 85 → p_s9 (va_up L 101 G) q k = cs q k := fun q hq => by
        obtain ⟨a1, a2, a3, a4, a5⟩ := hn q hq
        refine ⟨a1, ?_, a3, a4, fun k hk => ?_⟩
        · rw [va_up_s]
          simp only [upd]
          rw [if_neg (by omega)]
          exact a2
        · rw [p_s9_up (by omega) hk k2]
          exact a5 k hk
      cases hbc : p_br (p_tm (p_ch c u))
      · rw [if_pos eb_f]
        have z : ∀ g, p_g0 g → ∀ d, g d (p_ch c u) = 0 := fun g hg d => hg d _ hbc
        obtain ⟨N2, S2, I2, L2, cs2, dp2, r1, r2, r3, r4, r5, r6, r7, r8, r9, r10, r11, r12, r13, r14⟩ := tree_in hD hds hds1 hm hb k39 l4 hTN d f (u + 1) N (p_s S 96 7 (nI (N + 0))) (va_up I1 103 (upd (I 103) N (nI (ds + 1)))) (va_up L 101 G) cs dp (by omega) (hw.fr (f1 97 (by decide))) hold p_s_at hs hc hd (by rw [p_cs_t _ hp, z _ (p_g0_N _)]; exact hT)
        refine ⟨N2, S2, I2, L2, cs2, dp2, r1, r2, r3, by rw [r4, p_s_ne (by decide)], by rw [r5, p_s_ne (by decide)], ((p_f3.rf S).put (Or.inl rfl) _).tr r6, f1.tr r7, fL.tr r8, ?_, r10, r11, r12, r13, fun g hg => ?_⟩
        · rw [p_cs_t _ hp] at r9
          have := z (fun _ => p_b1) p_g0_1 0
          omega
        · have h14 := r14 g hg
          rw [p_cs_t _ hp, z g hg] at h14
          exact h14
      · rw [if_neg eb_t]
        have push := fun g => p_pd_push g cs dp D (show s + 1 ≤ N by omega) (p_ch c u) (ds + 1)
        have eD : D + 1 - (ds + 1) = D - ds := by omega
        obtain ⟨N2, S2, I2, L2, cs2, dp2, r1, r2, r3, r4, r5, r6, r7, r8, r9, r10, r11, r12, r13, r14⟩ := tree_in (s := s) (ds := ds) (c := c) hD hds hds1 hm hb k39 l4 hTN d f (u + 1) (N + 1) (p_s S 96 7 (nI (N + 1))) (va_up I1 103 (upd (I 103) N (nI (ds + 1)))) (va_up L 101 G) (va_up cs N (p_ch c u)) (va_up dp N (ds + 1)) (by omega) (hw.fr (f1 97 (by decide))) (fun q hq => by
          by_cases e : q = N
          · subst e
            simp only [va_up_s]
            exact ⟨⟨by omega, by omega⟩, by simp [upd], hbc, hcs, hch⟩
          · rw [va_up_n e, va_up_n e]
            exact hold q (by omega)) p_s_at (by omega) (by rw [va_up_n (show s ≠ N by omega)]; exact hc) (by rw [va_up_n (show s ≠ N by omega)]; exact hd) (by
          rw [push, p_cs_t _ hp, eD]
          omega)
        refine ⟨N2, S2, I2, L2, cs2, dp2, r1, r2, r3, by rw [r4, p_s_ne (by decide)], by rw [r5, p_s_ne (by decide)], ((p_f3.rf S).put (Or.inl rfl) _).tr r6, f1.tr r7, fL.tr r8, ?_, r10, r11, r12, r13, fun g hg => ?_⟩
        · rw [p_cs_t _ hp] at r9
          have : p_b1 (p_ch c u) = 1 := by unfold p_b1; rw [hbc]; rfl
          omega
        · have h14 := r14 g hg
          rw [push, p_cs_t _ hp, eD] at h14
          omega
    · have hp' : p_slp Λ lw n c (p_tm c) u = false := by simpa using hp
      rw [hp', if_pos eb_f, t5_s]
      obtain ⟨N2, S2, I2, L2, cs2, dp2, r1, r2, r3, r4, r5, r6, r7, r8, r9, r10, r11, r12, r13, r14⟩ := tree_in hD hds hds1 hm hb k39 l4 hTN d f (u + 1) N S I1 L cs dp (by omega) (hw.fr (g2 97 (by decide))) (fun q hq => by rw [e103]; exact hn q hq) hS hs hc hd (by rw [p_cs_f _ hp]; exact hT)
      rw [p_cs_f _ hp] at r9
      refine ⟨N2, S2, I2, L2, cs2, dp2, r1, r2, r3, r4, r5, r6, (g2.mono (by simp)).tr r7, r8, r9, r10, r11, r12, r13, fun g hg => ?_⟩
      have h14 := r14 g hg
      rw [p_cs_f _ hp] at h14
      exact h14
end TREE9
