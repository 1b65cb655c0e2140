def p_sm (f : Nat → Nat) : Nat → Nat
  | 0 => 0
  | n + 1 => p_sm f n + f n
theorem p_sm_eq {f g : Nat → Nat} : ∀ n, (∀ k, k < n → f k = g k) → p_sm f n = p_sm g n
  | 0, _ => rfl
  | n + 1, h => by rw [p_sm, p_sm, p_sm_eq n (fun k hk => h k (by omega)), h n (by omega)]
theorem p_sm_0 : ∀ n, p_sm (fun _ => 0) n = 0
  | 0 => rfl
  | n + 1 => by rw [p_sm, p_sm_0 n]
def p_tt (u : Nat) : Int64 := (nI u - nI 5).toInt64
def p_ch (c : Nat → Int64) (u : Nat) : Nat → Int64 := p_blw c (p_tm c) (p_tt u)
-- a sum over the slopes of a shape
def p_cs (g : (Nat → Int64) → Nat) (P : (Nat → Int64) → Nat → Nat → Bool) (c : Nat → Int64) (n : Nat) : Nat := p_sm (fun u => if P c (p_tm c) u then g (p_ch c u) else 0) n
theorem p_cs_t (g : (Nat → Int64) → Nat) {P : (Nat → Int64) → Nat → Nat → Bool} {c : Nat → Int64} {u : Nat} (h : P c (p_tm c) u = true) : p_cs g P c (u + 1) = p_cs g P c u + g (p_ch c u) := by
  simp only [p_cs, p_sm]
  rw [if_pos h]
theorem p_cs_f (g : (Nat → Int64) → Nat) {P : (Nat → Int64) → Nat → Nat → Bool} {c : Nat → Int64} {u : Nat} (h : ¬ P c (p_tm c) u = true) : p_cs g P c (u + 1) = p_cs g P c u := by
  simp only [p_cs, p_sm]
  rw [if_neg h, Nat.add_zero]
def p_b1 (c : Nat → Int64) : Nat := if p_br (p_tm c) then 1 else 0
def p_tN (P : (Nat → Int64) → Nat → Nat → Bool) : Nat → (Nat → Int64) → Nat
  | 0, _ => 0
  | d + 1, c => if p_br (p_tm c) then 1 + p_cs (p_tN P d) P c 11 else 0
def p_tB (P : (Nat → Int64) → Nat → Nat → Bool) : Nat → (Nat → Int64) → Nat
  | 0, _ => 0
  | d + 1, c => if p_br (p_tm c) then p_tm c * (p_tm c - 1) / 2 + p_cs (p_tB P d) P c 11 else 0
def p_tE (P : (Nat → Int64) → Nat → Nat → Bool) : Nat → (Nat → Int64) → Nat
  | 0, _ => 0
  | d + 1, c => if p_br (p_tm c) then p_cs (p_tE P d) P c 11 + (if d = 0 then (if p_tm c = 1 then 1 else 0) else if p_cs p_b1 P c 11 = 0 then 1 else 0) else 0
theorem p_b1_le (P : (Nat → Int64) → Nat → Nat → Bool) (c : Nat → Int64) : ∀ n, p_cs p_b1 P c n ≤ n
  | 0 => Nat.le_refl 0
  | n + 1 => by
    have := p_b1_le P c n
    unfold p_cs at this ⊢
    rw [p_sm]
    unfold p_b1 at this ⊢
    split
    · split <;> omega
    · omega
def p_pq (P : (Nat → Int64) → Nat → Nat → Bool) : Prop := ∀ c f : Nat → Int64, (∀ k, k < 85 → c k = f k) → P c = P f
theorem p_ch_eq {c f : Nat → Int64} (h : ∀ k, k < 85 → c k = f k) (u : Nat) : p_ch c u = p_ch f u := by
  unfold p_ch
  rw [p_tm_eq h, p_blw_eq h]
theorem p_cs_eq {g : (Nat → Int64) → Nat} {P : (Nat → Int64) → Nat → Nat → Bool} (hP : p_pq P) {c f : Nat → Int64} (h : ∀ k, k < 85 → c k = f k) (n : Nat) : p_cs g P c n = p_cs g P f n := by
  unfold p_cs
  refine p_sm_eq n (fun k _ => ?_)
  rw [p_tm_eq h, hP c f h, p_ch_eq h]
theorem p_tN_eq {P : (Nat → Int64) → Nat → Nat → Bool} (hP : p_pq P) {c f : Nat → Int64} (h : ∀ k, k < 85 → c k = f k) : ∀ d, p_tN P d c = p_tN P d f
  | 0 => rfl
  | d + 1 => by unfold p_tN; rw [p_tm_eq h, p_cs_eq hP h]
theorem p_tB_eq {P : (Nat → Int64) → Nat → Nat → Bool} (hP : p_pq P) {c f : Nat → Int64} (h : ∀ k, k < 85 → c k = f k) : ∀ d, p_tB P d c = p_tB P d f
  | 0 => rfl
  | d + 1 => by unfold p_tB; rw [p_tm_eq h, p_cs_eq hP h]
theorem p_tE_eq {P : (Nat → Int64) → Nat → Nat → Bool} (hP : p_pq P) {c f : Nat → Int64} (h : ∀ k, k < 85 → c k = f k) : ∀ d, p_tE P d c = p_tE P d f
  | 0 => rfl
  | d + 1 => by unfold p_tE; rw [p_tm_eq h, p_cs_eq hP h, p_cs_eq hP h]
theorem p_slp_q (Λ : Nat → p_Lw) (lw : Nat → Nat) (n : Nat) : p_pq (p_slp Λ lw n) := fun c f h => by
  funext m u
  unfold p_slp
  rw [p_sl_eq h]
-- three counters of a view
def p_g3 (S : Nat → Nat → Int32) (v : Nat) (a b c : Int32) : Nat → Nat → Int32 := va_up S v (fun k => if k = 0 then S v 0 + a else if k = 1 then S v 1 + b else if k = 2 then S v 2 + c else S v k)
theorem p_g3_0 {S : Nat → Nat → Int32} {v : Nat} {a b c : Int32} : p_g3 S v a b c v 0 = S v 0 + a := by simp [p_g3, va_up]
theorem p_g3_1 {S : Nat → Nat → Int32} {v : Nat} {a b c : Int32} : p_g3 S v a b c v 1 = S v 1 + b := by simp [p_g3, va_up]
theorem p_g3_2 {S : Nat → Nat → Int32} {v : Nat} {a b c : Int32} : p_g3 S v a b c v 2 = S v 2 + c := by simp [p_g3, va_up]
theorem p_g3_n {S : Nat → Nat → Int32} {v k : Nat} {a b c : Int32} (h : k ≠ v) : p_g3 S v a b c k = S k := va_up_n h
theorem p_g3_z (S : Nat → Nat → Int32) (v : Nat) : p_g3 S v (nI 0) (nI 0) (nI 0) = S := by
  unfold p_g3
  rw [show (fun k => if k = 0 then S v 0 + nI 0 else if k = 1 then S v 1 + nI 0 else if k = 2 then S v 2 + nI 0 else S v k) = S v from ?_, p_up_id]
  funext k
  rw [nI_0]
  simp only [Int32.add_zero]
  split
  · next h => rw [h]
  · split
    · next h => rw [h]
    · split
      · next h => rw [h]
      · rfl
theorem p_g3_g3 (S : Nat → Nat → Int32) (v : Nat) (a b c a' b' c' : Int32) : p_g3 (p_g3 S v a b c) v a' b' c' = p_g3 S v (a + a') (b + b') (c + c') := by
  unfold p_g3
  rw [va_up_up, va_up_s]
  congr 1
  funext k
  simp only [if_true, show ¬ ((1 : Nat) = 0) by decide, show ¬ ((2 : Nat) = 0) by decide, show ¬ ((2 : Nat) = 1) by decide, if_false, Int32.add_assoc]
  split
  · rfl
  · split
    · rfl
    · split <;> rfl
theorem p_g3_p (S : Nat → Nat → Int32) (v : Nat) (a b : Int32) : p_s (p_s S v 0 (S v 0 + a)) v 1 (S v 1 + b) = p_g3 S v a b (nI 0) := by
  unfold p_s p_g3
  rw [va_up_up, va_up_s]
  congr 1
  funext k
  rw [nI_0]
  simp only [upd, Int32.add_zero]
  by_cases h1 : k = 1
  · subst h1; simp
  · rw [if_neg h1, if_neg h1]
    split
    · rfl
    · split
      · next h => rw [h]
      · rfl
theorem p_g3_e (S : Nat → Nat → Int32) (v : Nat) (a b c e : Int32) : p_s (p_g3 S v a b c) v 2 (S v 2 + c + e) = p_g3 S v a b (c + e) := by
  unfold p_s p_g3
  rw [va_up_up, va_up_s]
  congr 1
  funext k
  simp only [upd]
  by_cases h1 : k = 2
  · subst h1; simp [Int32.add_assoc]
  · rw [if_neg h1, if_neg h1, if_neg h1]
def p_lf (v e : Nat) (L L' : Nat → Nat → Int64) : Prop := ∀ b, (∀ e', e < e' → e' < 3 → b ≠ v + 7 + 2 * e') → L' b = L b
theorem p_isV.nw {v w : Nat} (hv : p_isV v w) : w ≠ v := by rcases hv with ⟨rfl, rfl⟩ | ⟨rfl, rfl⟩ <;> omega
theorem eb_f : e_b false = 0 := rfl
theorem eb_t : ¬ e_b true = 0 := by decide
theorem p_tN_s (P : (Nat → Int64) → Nat → Nat → Bool) (d : Nat) (c : Nat → Int64) : p_tN P (d + 1) c = if p_br (p_tm c) then 1 + p_cs (p_tN P d) P c 11 else 0 := rfl
theorem p_tB_s (P : (Nat → Int64) → Nat → Nat → Bool) (d : Nat) (c : Nat → Int64) : p_tB P (d + 1) c = if p_br (p_tm c) then p_tm c * (p_tm c - 1) / 2 + p_cs (p_tB P d) P c 11 else 0 := rfl
theorem p_tE_s (P : (Nat → Int64) → Nat → Nat → Bool) (d : Nat) (c : Nat → Int64) : p_tE P (d + 1 + 1) c = if p_br (p_tm c) then p_cs (p_tE P (d + 1)) P c 11 + (if p_cs p_b1 P c 11 = 0 then 1 else 0) else 0 := rfl
theorem p_cs_z {g : (Nat → Int64) → Nat} (P : (Nat → Int64) → Nat → Nat → Bool) (c : Nat → Int64) (hg : ∀ c, g c = 0) (n : Nat) : p_cs g P c n = 0 := by
  unfold p_cs
  refine (p_sm_eq (g := fun _ => 0) n (fun k _ => ?_)).trans (p_sm_0 n)
  split
  · exact hg _
  · rfl
theorem p_cs_0 (g : (Nat → Int64) → Nat) (P : (Nat → Int64) → Nat → Nat → Bool) (c : Nat → Int64) : p_cs g P c 0 = 0 := rfl
theorem p_tN_1 (P : (Nat → Int64) → Nat → Nat → Bool) (c : Nat → Int64) : p_tN P 1 c = if p_br (p_tm c) then 1 else 0 := by
  rw [p_tN_s, p_cs_z (g := p_tN P 0) P c (fun _ => rfl)]
theorem p_tB_1 (P : (Nat → Int64) → Nat → Nat → Bool) (c : Nat → Int64) : p_tB P 1 c = if p_br (p_tm c) then p_tm c * (p_tm c - 1) / 2 else 0 := by
  rw [p_tB_s, p_cs_z (g := p_tB P 0) P c (fun _ => rfl), Nat.add_zero]
theorem p_tE_1 (P : (Nat → Int64) → Nat → Nat → Bool) (c : Nat → Int64) : p_tE P 1 c = if p_br (p_tm c) then (if p_tm c = 1 then 1 else 0) else 0 := by
  unfold p_tE
  rw [p_cs_z (g := p_tE P 0) P c (fun _ => rfl), if_pos rfl, Nat.zero_add]
section GROW
variable {K : Nat} {T : Nat → Nat → Option Nat} {Λ : Nat → p_Lw}
theorem grow_loop {v w n e d D : Nat} {rec : Nat → Int32 → Int32 → e_H → Option (Bool × e_H)} {P : (Nat → Int64) → Nat → Nat → Bool} (hP : p_pq P) (hv : p_isV v w) (he : e < 2) (c : Nat → Int64) (hb : p_br (p_tm c) = true)
    (IH : ∀ (S I : Nat → Nat → Int32) (L : Nat → Nat → Int64), S w 1 = nI n → ∃ I' L', rec v (nI (e + 2)) (nI D) (p_H K S I L T Λ) = some (p_br (p_tm (L (v + 9 + 2 * e))), (p_H K (p_g3 S v (nI (p_tN P d (L (v + 9 + 2 * e)))) (nI (p_tB P d (L (v + 9 + 2 * e)))) (nI (p_tE P d (L (v + 9 + 2 * e))))) (I') (L') T Λ)) ∧ p_fr [w + 3] I I' ∧ p_lf v (e + 1) L L')
    (S : Nat → Nat → Int32) (hn : S w 1 = nI n) (a0 b0 : Nat) : ∀ (dd f u : Nat) (I : Nat → Nat → Int32) (L : Nat → Nat → Int64), u + dd = 11 → L (v + 7 + 2 * e) = c →
    ∃ I' L', fX6_grow_L117 rec (dd + 1 + f) v (nI (e + 1)) (nI D) (nI (p_cs p_b1 P c u)) (p_bits (P c (p_tm c)) 11) (nI u - nI 5) (p_H K (p_g3 S v (nI (a0 + p_cs (p_tN P d) P c u)) (nI (b0 + p_cs (p_tB P d) P c u)) (nI (p_cs (p_tE P d) P c u))) I L T Λ) = some (true, (p_H K (p_g3 S v (nI (a0 + p_cs (p_tN P d) P c 11)) (nI (b0 + p_cs (p_tB P d) P c 11)) (nI (p_cs (p_tE P d) P c 11 + if p_cs p_b1 P c 11 = 0 then 1 else 0))) (I') (L') T Λ)) ∧ p_fr [w + 3] I I' ∧ p_lf v e L L'
  | 0, f, u, I, L, hu, hc => by
    refine ⟨I, L, ?_, p_fr.rf _ _, fun _ _ => rfl⟩
    rw [show 0 + 1 + f = f + 1 by omega]
    show fX6_grow_b117 _ _ _ _ _ _ _ _ _ = _
    unfold fX6_grow_b117 fX6_grow_b181
    have hle := p_b1_le P c 11
    rw [show u = 11 by omega, if_pos t5_e]
    simp only [gV_o hv, gV_0 hv, gV_1 hv, gV_2 hv, gV_3 hv, gV_4 hv, gV_5 hv, gV_6 hv, gV_7 hv, gV_8 hv, gV_p0 hv, gV_p1 hv, gV_p2 hv, p_lenI (pk_v1 hv), p_lenI (pk_v2 hv), p_lenI (pk_v3 hv), p_lenF (pk_v4 hv), p_lenL (pk_v5 hv), Option.bind_some, e_on, p_g3_2]
    by_cases h : p_cs p_b1 P c 11 = 0
    · rw [if_pos (by rw [h]; rfl), if_pos h, p_g3_e, nI_add]
    · rw [if_neg (nI_ne0 (by omega) (by omega)), if_neg h, p_g3_e, nI_add]
  | dd + 1, f, u, I, L, hu, hc => by
    rw [show dd + 1 + 1 + f = (dd + 1 + f) + 1 by omega]
    have ih := grow_loop (d := d) hP hv he c hb IH S hn a0 b0 dd f (u + 1)
    show ∃ I' L', fX6_grow_b117 _ _ _ _ _ _ _ _ _ = _ ∧ _
    unfold fX6_grow_b117 fX6_grow_b160
    rw [if_neg (t5_n (by omega)), t5_a, p_bits_at _ 11 (by omega) u (by omega), t5_s]
    by_cases hp : P c (p_tm c) u = true
    · rw [p_cs_t _ hp, p_cs_t _ hp, p_cs_t _ hp, p_cs_t _ hp] at ih
      rw [if_pos (show u < 11 ∧ P c (p_tm c) u = true from ⟨by omega, hp⟩), if_pos rfl]
      generalize hA : p_cs (p_tN P d) P c u = A at *
      generalize hB : p_cs (p_tB P d) P c u = B at *
      generalize hE : p_cs (p_tE P d) P c u = E at *
      generalize hF : p_cs p_b1 P c u = F at *
      obtain ⟨c1, hc1, hbl⟩ := q_blow (S := p_g3 S v (nI (a0 + A)) (nI (b0 + B)) (nI E)) (I := I) (L := L) (T := T) (Λ := Λ) (K := K) hv he (by rw [hc]; exact hb) (nI u - nI 5)
      rw [hc] at hc1
      obtain ⟨I1, L1, h1, h2, h3⟩ := IH (p_g3 S v (nI (a0 + A)) (nI (b0 + B)) (nI E)) I (va_up L (v + 9 + 2 * e) c1) (by rw [p_g3_n hv.nw]; exact hn)
      rw [va_up_s, p_tN_eq hP hc1, p_tB_eq hP hc1, p_tE_eq hP hc1, p_tm_eq hc1, p_g3_g3, nI_add, nI_add, nI_add, Nat.add_assoc a0 A, Nat.add_assoc b0 B] at h1
      have hc2 : L1 (v + 7 + 2 * e) = c := by rw [h3 _ (fun e' h h' => by omega), va_up_n (by omega), hc]
      obtain ⟨I2, L2, k1, k2, k3⟩ := ih I1 L1 (by omega) hc2
      refine ⟨I2, L2, ?_, h2.tr k2, fun b hb' => ?_⟩
      · rw [hbl, Option.bind_some]
        simp only [e_on]
        rw [nI_s, h1, Option.bind_some, ← k1]
        unfold p_b1 p_ch p_tt
        cases p_br (p_tm (p_blw c (p_tm c) (nI u - nI 5).toInt64))
        · rfl
        · show (if e_b true = 0 then _ else _) = _
          rw [if_neg eb_t, nI_s]
          rfl
      · rw [k3 b hb', h3 b (fun e' h h' => hb' e' (by omega) h'), va_up_n (fun z => hb' (e + 1) (by omega) (by omega) (by omega))]
    · rw [p_cs_f _ hp, p_cs_f _ hp, p_cs_f _ hp, p_cs_f _ hp] at ih
      rw [if_neg (show ¬ (u < 11 ∧ P c (p_tm c) u = true) from fun z => hp z.2), if_neg (by decide)]
      exact ih I L (by omega) hc
theorem p_mm {m : Nat} (h1 : 1 ≤ m) (h2 : m ≤ 16) : nI m * (nI m - nI 1) / nI 2 = nI (m * (m - 1) / 2) := by
  have : m * (m - 1) ≤ 16 * 15 := Nat.mul_le_mul h2 (by omega)
  rw [pk_sub h1, nI_mul, nI_div (by omega) (by decide)]
theorem grow_ok {v w n D : Nat} {lw : Nat → Nat} (hv : p_isV v w) (hl : p_laws T K w n lw) (hf : p_lwf Λ lw n) (hD : D ≤ 3) (f0 : Nat) : ∀ (d e : Nat) (S I : Nat → Nat → Int32) (L : Nat → Nat → Int64), e + (d + 1) = D → S w 1 = nI n →
    ∃ I' L', fX6_grow_R (d + 1 + f0) v (nI (e + 1)) (nI D) (p_H K S I L T Λ) = some (p_br (p_tm (L (v + 7 + 2 * e))), (p_H K (p_g3 S v (nI (p_tN (p_slp Λ lw n) (d + 1) (L (v + 7 + 2 * e)))) (nI (p_tB (p_slp Λ lw n) (d + 1) (L (v + 7 + 2 * e)))) (nI (p_tE (p_slp Λ lw n) (d + 1) (L (v + 7 + 2 * e))))) (I') (L') T Λ)) ∧ p_fr [w + 3] I I' ∧ p_lf v e L L' := by
  intro d
  induction d with
  | zero =>
    intro e S I L hd hn
    have hs := pk_sv hv (show e < 3 by omega)
    have h17 := p_tm_le (L (v + 7 + 2 * e))
    have e1 : v + 6 + 2 * e + 1 = v + 7 + 2 * e := by omega
    refine ⟨I, L, ?_, p_fr.rf _ _, fun _ _ => rfl⟩
    rw [show 0 + 1 + f0 = f0 + 1 by omega]
    show fX6_grow_r _ _ _ _ _ = _
    unfold fX6_grow_r fX6_grow_b95
    rw [p_tN_1, p_tB_1, p_tE_1]
    generalize hc : L (v + 7 + 2 * e) = c at *
    simp only [gV_o hv, gV_0 hv, gV_1 hv, gV_2 hv, gV_3 hv, gV_4 hv, gV_5 hv, gV_6 hv, gV_7 hv, gV_8 hv, gV_p0 hv, gV_p1 hv, gV_p2 hv, p_lenI (pk_v1 hv), p_lenI (pk_v2 hv), p_lenI (pk_v3 hv), p_lenF (pk_v4 hv), p_lenL (pk_v5 hv), Option.bind_some, e_on, p_lenF (pk_v4 hv), show nI (e + 1) - nI 1 = nI e from nI_pred e, p_ldF (pk_v4 hv) (show e < 3 by omega) (by decide), if_pos (show e < 3 by omega), q_least hs, e1, hc, q_branches (show p_tm c ≤ 40 by omega)]
    rw [if_neg (nI_nlt (by omega) (by omega)), if_neg (nI_nlt (by omega) (by omega)), if_pos (nI_le (by omega) (by decide)), if_pos (show nI (e + 1) = nI D by congr 1)]
    cases hb : p_br (p_tm c)
    · rw [if_pos eb_f, if_neg (by decide), if_neg (by decide), if_neg (by decide), p_g3_z]
    · have h1 : 1 ≤ p_tm c ∧ p_tm c ≤ 16 := by unfold p_br at hb; simpa using hb
      rw [if_neg eb_t, show p_s S v 0 (S v 0 + nI 1) v 1 = S v 1 by simp [p_s, va_up, upd], p_mm h1.1 h1.2, p_g3_p]
      rw [if_pos rfl, if_pos rfl, if_pos rfl, p_g3_2]
      by_cases h3 : p_tm c = 1
      · rw [if_pos (by rw [h3]), if_pos h3, p_g3_e, nI_add, Nat.zero_add]
      · rw [if_neg (fun z => h3 ((nI_eq (by omega) (by decide)).mp z)), if_neg h3, p_g3_e, nI_add, Nat.zero_add]
  | succ d ih =>
    intro e S I L hd hn
    have hs := pk_sv hv (show e < 3 by omega)
    have h17 := p_tm_le (L (v + 7 + 2 * e))
    have e1 : v + 6 + 2 * e + 1 = v + 7 + 2 * e := by omega
    have e2 : v + 7 + 2 * (e + 1) = v + 9 + 2 * e := by omega
    rw [show d + 1 + 1 + f0 = (d + 1 + f0) + 1 by omega]
    show ∃ I' L', fX6_grow_r _ _ _ _ _ = _ ∧ _
    unfold fX6_grow_r
    rw [p_tN_s, p_tB_s, p_tE_s]
    generalize hc : L (v + 7 + 2 * e) = c at *
    simp only [gV_o hv, gV_0 hv, gV_1 hv, gV_2 hv, gV_3 hv, gV_4 hv, gV_5 hv, gV_6 hv, gV_7 hv, gV_8 hv, gV_p0 hv, gV_p1 hv, gV_p2 hv, p_lenI (pk_v1 hv), p_lenI (pk_v2 hv), p_lenI (pk_v3 hv), p_lenF (pk_v4 hv), p_lenL (pk_v5 hv), Option.bind_some, e_on, p_lenF (pk_v4 hv), show nI (e + 1) - nI 1 = nI e from nI_pred e, p_ldF (pk_v4 hv) (show e < 3 by omega) (by decide), if_pos (show e < 3 by omega), q_least hs, e1, hc, q_branches (show p_tm c ≤ 40 by omega)]
    rw [if_neg (nI_nlt (by omega) (by omega)), if_neg (nI_nlt (by omega) (by omega)), if_pos (nI_le (by omega) (by decide)), if_neg (fun z => absurd ((nI_eq (by omega) (by omega)).mp z) (by omega))]
    cases hb : p_br (p_tm c)
    · refine ⟨I, L, ?_, p_fr.rf _ _, fun _ _ => rfl⟩
      rw [if_pos eb_f, if_neg (by decide), if_neg (by decide), if_neg (by decide), p_g3_z]
    · rw [if_pos rfl, if_pos rfl, if_pos rfl]
      have h1 : 1 ≤ p_tm c ∧ p_tm c ≤ 16 := by unfold p_br at hb; simpa using hb
      rw [if_neg eb_t, show p_s S v 0 (S v 0 + nI 1) v 1 = S v 1 by simp [p_s, va_up, upd], p_mm h1.1 h1.2, p_g3_p]
      obtain ⟨st', hsb⟩ := q_slopeBits (S := p_g3 S v (nI 1) (nI (p_tm c * (p_tm c - 1) / 2)) (nI 0)) (I := I) (L := L) hv hs (show p_tm c ≤ 40 by omega) hl (by rw [p_g3_n hv.nw]; exact hn) hf
      rw [e1, hc] at hsb
      rw [hsb, Option.bind_some, t5_0]
      obtain ⟨I', L', g1, g2, g3⟩ := grow_loop (d := d + 1) (D := D) (n := n) (rec := fX6_grow_R (d + 1 + f0)) (K := K) (T := T) (Λ := Λ) (p_slp_q Λ lw n) hv (show e < 2 by omega) c hb (fun S I L hn => by
        have := ih (e + 1) S I L (by omega) hn
        rw [e2] at this
        exact this) S hn 1 (p_tm c * (p_tm c - 1) / 2) 11 188 0 (va_up I (w + 3) st') L (by omega) hc
      rw [p_cs_0, p_cs_0, p_cs_0, p_cs_0, Nat.add_zero, Nat.add_zero] at g1
      exact ⟨I', L', g1, ((p_fr.rf _ _).up (by simp) _).tr g2, g3⟩
theorem q_grow {v w n D : Nat} {lw : Nat → Nat} {S I : Nat → Nat → Int32} {L : Nat → Nat → Int64} (hv : p_isV v w) (hl : p_laws T K w n lw) (hf : p_lwf Λ lw n) (hD : D ≤ 3) (hD1 : 1 ≤ D) (hn : S w 1 = nI n) :
    ∃ I' L', fX6_grow v (nI 1) (nI D) (p_H K S I L T Λ) = some (p_br (p_tm (L (v + 7))), (p_H K (p_g3 S v (nI (p_tN (p_slp Λ lw n) D (L (v + 7)))) (nI (p_tB (p_slp Λ lw n) D (L (v + 7)))) (nI (p_tE (p_slp Λ lw n) D (L (v + 7))))) (I') (L') T Λ)) ∧ p_fr [w + 3] I I' ∧ p_lf v 0 L L' := by
  have := grow_ok hv hl hf hD (100 - D) (D - 1) 0 S I L (by omega) hn
  rw [show D - 1 + 1 = D by omega, show D + (100 - D) = 100 by omega] at this
  exact this
end GROW
