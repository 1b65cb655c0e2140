-- a long that is an integer within a bound
def p_ib (v : Int64) (B : Int) : Prop := ∃ z : Int, v = Int64.ofInt z ∧ -B ≤ z ∧ z ≤ B
theorem p_ib.add {a b : Int64} {A B : Int} (h : p_ib a A) (h' : p_ib b B) : p_ib (a + b) (A + B) := by
  obtain ⟨x, rfl, h1, h2⟩ := h
  obtain ⟨y, rfl, h3, h4⟩ := h'
  exact ⟨x + y, (Int64.ofInt_add x y).symm, by omega, by omega⟩
theorem p_ib.mul {a b : Int64} {A B : Int} (h : p_ib a A) (h' : p_ib b B) : p_ib (a * b) (A * B) := by
  obtain ⟨x, rfl, h1, h2⟩ := h
  obtain ⟨y, rfl, h3, h4⟩ := h'
  refine ⟨x * y, (Int64.ofInt_mul x y).symm, ?_, ?_⟩
  · have e1 := Int.mul_nonneg (show 0 ≤ A - x by omega) (show 0 ≤ B - y by omega)
    have e2 := Int.mul_nonneg (show 0 ≤ A + x by omega) (show 0 ≤ B + y by omega)
    grind
  · have e1 := Int.mul_nonneg (show 0 ≤ A - x by omega) (show 0 ≤ B + y by omega)
    have e2 := Int.mul_nonneg (show 0 ≤ A + x by omega) (show 0 ≤ B - y by omega)
    grind
theorem p_ib.mono {a : Int64} {A B : Int} (h : p_ib a A) (hAB : A ≤ B) : p_ib a B := by
  obtain ⟨x, rfl, h1, h2⟩ := h
  exact ⟨x, rfl, by omega, by omega⟩
theorem p_ib_0 : p_ib 0 0 := ⟨0, rfl, by decide, by decide⟩
theorem p_ib_2 : p_ib 2 2 := ⟨2, rfl, by decide, by decide⟩
theorem p_ib_3 : p_ib 3 3 := ⟨3, rfl, by decide, by decide⟩
theorem p_ib_4 : p_ib 4 4 := ⟨4, rfl, by decide, by decide⟩
theorem p_ib_6 : p_ib 6 6 := ⟨6, rfl, by decide, by decide⟩
theorem p_ib_sf {x : Int64} {f : Nat → Int64} {B : Int} (hB : 0 ≤ B) (hx : p_ib x 5) (hf : ∀ b, b < 5 → p_ib (f b) B) {k : Nat} (hk : k < 5) : p_ib (p_sf x f k) (781 * B) := by
  have h0 := hf 0 (by decide)
  have h1 := hf 1 (by decide)
  have h2 := hf 2 (by decide)
  have h3 := hf 3 (by decide)
  have h4 := hf 4 (by decide)
  rcases (show k = 0 ∨ k = 1 ∨ k = 2 ∨ k = 3 ∨ k = 4 by omega) with rfl | rfl | rfl | rfl | rfl
  · exact ((((h0.add (h1.mul hx)).add (h2.mul (hx.mul hx))).add (h3.mul ((hx.mul hx).mul hx))).add (h4.mul (((hx.mul hx).mul hx).mul hx))).mono (by omega)
  · exact (((h1.add ((p_ib_2.mul h2).mul hx)).add ((p_ib_3.mul h3).mul (hx.mul hx))).add ((p_ib_4.mul h4).mul ((hx.mul hx).mul hx))).mono (by omega)
  · exact ((h2.add ((p_ib_3.mul h3).mul hx)).add ((p_ib_6.mul h4).mul (hx.mul hx))).mono (by omega)
  · exact (h3.add ((p_ib_4.mul h4).mul hx)).mono (by omega)
  · exact h4.mono (by omega)
def p_ic (c : Nat → Int64) (B : Int) : Prop := ∀ k, k < 85 → p_ib (c k) B
theorem p_ic_dg {c : Nat → Int64} {B : Int} (hB : 0 ≤ B) (h : p_ic c B) (m : Nat) {j : Nat} (hj : j < 5) : p_ib (p_dg c m j) B := by
  unfold p_dg
  split
  · exact h _ (by omega)
  · exact p_ib_0.mono hB
theorem p_ic_blw {c : Nat → Int64} {B : Int} (hB : 0 ≤ B) (h : p_ic c B) (m : Nat) {t : Int64} (ht : p_ib t 5) : p_ic (p_blw c m t) (781 * B) := fun k hk => by
  unfold p_blw
  exact p_ib_sf hB ht (fun b hb => p_ic_dg hB h _ hb) (by omega)
theorem p_ic_shp {t : Nat → Nat → Int32} {x y : Int64} (hx : p_ib x 5) (hy : p_ib y 5) (ht : ∀ k l, k + l ≤ 4 → -198 ≤ (t k l).toInt ∧ (t k l).toInt ≤ 198) : p_ic (p_shp t x y) (781 * (781 * 198)) := fun k hk => by
  unfold p_shp
  split
  · refine p_ib_sf (by decide) hy (fun b hb => p_ib_sf (by decide) hx (fun a ha => ?_) (by omega)) (by omega)
    unfold p_t2
    split
    · next h => exact ⟨(t a b).toInt, by rw [← Int32.toInt_toInt64, Int64.ofInt_toInt], (ht a b h).1, (ht a b h).2⟩
    · exact p_ib_0.mono (by decide)
  · exact p_ib_0.mono (by decide)
theorem p_tt_z : ∀ u, u < 11 → p_tt u = Int64.ofInt ((u : Int) - 5) := by decide
theorem p_ib_tt {u : Nat} (h : u < 11) : p_ib (p_tt u) 5 := ⟨(u : Int) - 5, p_tt_z u h, by omega, by omega⟩
theorem p_ib_px {n : Nat} (h : n < 121) : p_ib (p_px n) 5 := p_ib_tt (u := n / 11) (by omega)
theorem p_ib_py {n : Nat} (h : n < 121) : p_ib (p_py n) 5 := p_ib_tt (u := n % 11) (by omega)
theorem z_0 {z : Int} (h1 : -9000000000000000000 ≤ z) (h2 : z ≤ 9000000000000000000) (h : Int64.ofInt z = 0) : z = 0 := by
  have h3 := congrArg Int64.toInt h
  rw [Int64.toInt_ofInt, Int.bmod_eq_of_le (by simp [Int64.size]; omega) (by simp [Int64.size]; omega)] at h3
  exact h3
theorem z_cancel {a b g : Int} (h : (a - b) * g = 0) (hab : a ≠ b) : g = 0 := by
  rcases Int.mul_eq_zero.mp h with e | e
  · omega
  · exact e
theorem z_e2 (z0 z1 z2 z3 z4 x y : Int) : (x - y) * (z1 + z2 * (x + y) + z3 * (x * x + x * y + y * y) + z4 * (x * x * x + x * x * y + x * y * y + y * y * y)) = (((((0 * x + z4) * x + z3) * x + z2) * x + z1) * x + z0) - (((((0 * y + z4) * y + z3) * y + z2) * y + z1) * y + z0) := by grind
theorem z_e3 (z1 z2 z3 z4 a x y : Int) : (x - y) * (z2 + z3 * (a + x + y) + z4 * (a * a + x * x + y * y + a * x + a * y + x * y)) = (z1 + z2 * (a + x) + z3 * (a * a + a * x + x * x) + z4 * (a * a * a + a * a * x + a * x * x + x * x * x)) - (z1 + z2 * (a + y) + z3 * (a * a + a * y + y * y) + z4 * (a * a * a + a * a * y + a * y * y + y * y * y)) := by grind
theorem z_e4 (z2 z3 z4 a b x y : Int) : (x - y) * (z3 + z4 * (a + b + x + y)) = (z2 + z3 * (a + b + x) + z4 * (a * a + b * b + x * x + a * b + a * x + b * x)) - (z2 + z3 * (a + b + y) + z4 * (a * a + b * b + y * y + a * b + a * y + b * y)) := by grind
theorem z_e5 (z3 z4 s x y : Int) : (x - y) * z4 = (z3 + z4 * (s + x)) - (z3 + z4 * (s + y)) := by grind
theorem z_by {d g p q : Int} (e : d * g = p - q) (hp : p = 0) (hq : q = 0) (hd : d ≠ 0) : g = 0 := by
  rw [hp, hq] at e
  rcases Int.mul_eq_zero.mp (show d * g = 0 by omega) with e | e
  · exact absurd e hd
  · exact e
theorem z_roots {z0 z1 z2 z3 z4 a b c d e : Int} (hab : a ≠ b) (hac : a ≠ c) (had : a ≠ d) (hae : a ≠ e) (hbc : b ≠ c) (hbd : b ≠ d) (hbe : b ≠ e) (hcd : c ≠ d) (hce : c ≠ e) (hde : d ≠ e)
    (h : ∀ x, x = a ∨ x = b ∨ x = c ∨ x = d ∨ x = e → ((((0 * x + z4) * x + z3) * x + z2) * x + z1) * x + z0 = 0) : z0 = 0 ∧ z1 = 0 ∧ z2 = 0 ∧ z3 = 0 ∧ z4 = 0 := by
  have ha := h a (by simp)
  have hb := h b (by simp)
  have hc := h c (by simp)
  have hd := h d (by simp)
  have he := h e (by simp)
  have g1 := z_by (z_e2 z0 z1 z2 z3 z4 a b) ha hb (by omega)
  have g2 := z_by (z_e2 z0 z1 z2 z3 z4 a c) ha hc (by omega)
  have g3 := z_by (z_e2 z0 z1 z2 z3 z4 a d) ha hd (by omega)
  have g4 := z_by (z_e2 z0 z1 z2 z3 z4 a e) ha he (by omega)
  have k1 := z_by (z_e3 z1 z2 z3 z4 a b c) g1 g2 (by omega)
  have k2 := z_by (z_e3 z1 z2 z3 z4 a b d) g1 g3 (by omega)
  have k3 := z_by (z_e3 z1 z2 z3 z4 a b e) g1 g4 (by omega)
  have l1 := z_by (z_e4 z2 z3 z4 a b c d) k1 k2 (by omega)
  have l2 := z_by (z_e4 z2 z3 z4 a b c e) k1 k3 (by omega)
  have m1 : z4 = 0 := z_by (z_e5 z3 z4 (a + b + c) d e) l1 l2 (by omega)
  subst m1
  rw [Int.zero_mul, Int.add_zero] at l1
  subst l1
  rw [Int.zero_mul, Int.zero_mul, Int.add_zero, Int.add_zero] at k1
  subst k1
  rw [Int.zero_mul, Int.zero_mul, Int.zero_mul, Int.add_zero, Int.add_zero, Int.add_zero] at g1
  subst g1
  rw [show ((((0 * a + 0) * a + 0) * a + 0) * a + 0) * a + z0 = z0 by simp] at ha
  exact ⟨ha, rfl, rfl, rfl, rfl⟩
theorem p_sm_pick (Q : Nat → Bool) : ∀ n k, k < p_sm (fun u => if Q u then 1 else 0) n → ∃ u, u < n ∧ Q u = true ∧ k ≤ p_sm (fun u => if Q u then 1 else 0) u
  | 0, k, h => by simp [p_sm] at h
  | n + 1, k, h => by
    rw [p_sm] at h
    by_cases hq : Q n = true
    · rw [if_pos hq] at h
      exact ⟨n, by omega, hq, by omega⟩
    · rw [if_neg hq] at h
      obtain ⟨u, h1, h2, h3⟩ := p_sm_pick Q n k (by omega)
      exact ⟨u, by omega, h2, h3⟩
theorem p_roots {c : Nat → Int64} {B : Int} (hB : 0 ≤ B) (hBB : 781 * B ≤ 9000000000000000000) (h : p_ic c B) (hm : p_tm c < 17) {Q : Nat → Bool} (hQ : ∀ u, u < 11 → Q u = true → p_sl c (p_tm c) (p_tt u) = 0) : p_sm (fun u => if Q u then 1 else 0) 11 ≤ 4 := by
  rcases Nat.lt_or_ge 4 (p_sm (fun u => if Q u then 1 else 0) 11) with h4 | h4
  · exfalso
    obtain ⟨u4, a4, q4, n4⟩ := p_sm_pick Q _ _ h4
    obtain ⟨u3, a3, q3, n3⟩ := p_sm_pick Q u4 3 (by omega)
    obtain ⟨u2, a2, q2, n2⟩ := p_sm_pick Q u3 2 (by omega)
    obtain ⟨u1, a1, q1, n1⟩ := p_sm_pick Q u2 1 (by omega)
    obtain ⟨u0, a0, q0, n0⟩ := p_sm_pick Q u1 0 (by omega)
    obtain ⟨z0, e0, b0, d0⟩ := p_ic_dg hB h (p_tm c) (show 0 < 5 by decide)
    obtain ⟨z1, e1, b1, d1⟩ := p_ic_dg hB h (p_tm c) (show 1 < 5 by decide)
    obtain ⟨z2, e2, b2, d2⟩ := p_ic_dg hB h (p_tm c) (show 2 < 5 by decide)
    obtain ⟨z3, e3, b3, d3⟩ := p_ic_dg hB h (p_tm c) (show 3 < 5 by decide)
    obtain ⟨z4, e4, b4, d4⟩ := p_ic_dg hB h (p_tm c) (show 4 < 5 by decide)
    have key : ∀ u : Nat, u < 11 → Q u = true → ((((0 * ((u : Int) - 5) + z4) * ((u : Int) - 5) + z3) * ((u : Int) - 5) + z2) * ((u : Int) - 5) + z1) * ((u : Int) - 5) + z0 = 0 := by
      intro u hu hq
      have hr := hQ u hu hq
      have hv : p_sl c (p_tm c) (p_tt u) = Int64.ofInt (((((0 * ((u : Int) - 5) + z4) * ((u : Int) - 5) + z3) * ((u : Int) - 5) + z2) * ((u : Int) - 5) + z1) * ((u : Int) - 5) + z0) := by
        simp only [p_sl, p_hs, e0, e1, e2, e3, e4, p_tt_z u hu, Int64.ofInt_add, Int64.ofInt_mul]
        rfl
      rw [hv] at hr
      rcases (show u = 0 ∨ u = 1 ∨ u = 2 ∨ u = 3 ∨ u = 4 ∨ u = 5 ∨ u = 6 ∨ u = 7 ∨ u = 8 ∨ u = 9 ∨ u = 10 by omega) with rfl | rfl | rfl | rfl | rfl | rfl | rfl | rfl | rfl | rfl | rfl <;> exact z_0 (by omega) (by omega) hr
    have hz := z_roots (z0 := z0) (z1 := z1) (z2 := z2) (z3 := z3) (z4 := z4) (a := (u0 : Int) - 5) (b := (u1 : Int) - 5) (c := (u2 : Int) - 5) (d := (u3 : Int) - 5) (e := (u4 : Int) - 5) (by omega) (by omega) (by omega) (by omega) (by omega) (by omega) (by omega) (by omega) (by omega) (by omega) (fun x hx => by
      rcases hx with rfl | rfl | rfl | rfl | rfl
      · exact key u0 (by omega) q0
      · exact key u1 (by omega) q1
      · exact key u2 (by omega) q2
      · exact key u3 (by omega) q3
      · exact key u4 (by omega) q4)
    obtain ⟨r0, r1, r2, r3, r4⟩ := hz
    obtain ⟨j, hj, hn⟩ := p_tm_at hm
    have zz : Int64.ofInt 0 = 0 := rfl
    rcases (show j = 0 ∨ j = 1 ∨ j = 2 ∨ j = 3 ∨ j = 4 by omega) with rfl | rfl | rfl | rfl | rfl
    · exact hn (by rw [e0, r0]; rfl)
    · exact hn (by rw [e1, r1]; rfl)
    · exact hn (by rw [e2, r2]; rfl)
    · exact hn (by rw [e3, r3]; rfl)
    · exact hn (by rw [e4, r4]; rfl)
  · exact h4
theorem p_sm_le {f g : Nat → Nat} : ∀ n, (∀ k, k < n → f k ≤ g k) → p_sm f n ≤ p_sm g n
  | 0, _ => Nat.le_refl 0
  | n + 1, h => by
    have h1 := p_sm_le n (fun k hk => h k (by omega))
    have h2 := h n (by omega)
    rw [p_sm, p_sm]
    omega
theorem p_sm_mul (f : Nat → Nat) (M : Nat) : ∀ n, p_sm (fun u => M * f u) n = M * p_sm f n
  | 0 => rfl
  | n + 1 => by rw [p_sm, p_sm, p_sm_mul f M n, Nat.mul_add]
theorem p_cs_le {g : (Nat → Int64) → Nat} {P : (Nat → Int64) → Nat → Nat → Bool} {c : Nat → Int64} {M : Nat} (hM : ∀ u, u < 11 → g (p_ch c u) ≤ M) (h4 : p_sm (fun u => if P c (p_tm c) u then 1 else 0) 11 ≤ 4) : p_cs g P c 11 ≤ M * 4 := by
  refine Nat.le_trans (p_sm_le (g := fun u => M * (if P c (p_tm c) u then 1 else 0)) 11 (fun k hk => ?_)) ?_
  · split
    · have := hM k hk
      omega
    · omega
  · rw [p_sm_mul]
    exact Nat.mul_le_mul_left M h4
def p_pr (P : (Nat → Int64) → Nat → Nat → Bool) : Prop := ∀ c m u, P c m u = true → p_sl c m (p_tt u) = 0
theorem p_slp_r (Λ : Nat → p_Lw) (lw : Nat → Nat) (n : Nat) : p_pr (p_slp Λ lw n) := fun c m u h => by
  unfold p_slp at h
  simp only [Bool.and_eq_true, decide_eq_true_eq] at h
  exact h.1
theorem p_tN_21 {P : (Nat → Int64) → Nat → Nat → Bool} (hP : p_pr P) {c : Nat → Int64} (h : p_ic c (781 * (781 * 198))) {d : Nat} (hd : d ≤ 3) : p_tN P d c ≤ 21 := by
  have one : ∀ c, p_tN P 1 c ≤ 1 := fun c => by rw [p_tN_1]; split <;> omega
  have two : ∀ c, p_ic c (781 * (781 * (781 * 198))) → p_tN P 2 c ≤ 5 := fun c hc => by
    rw [p_tN_s]
    split
    · next hb =>
      have hb2 : 1 ≤ p_tm c ∧ p_tm c ≤ 16 := by unfold p_br at hb; simpa using hb
      have := p_cs_le (g := p_tN P 1) (P := P) (c := c) (M := 1) (fun u _ => one _) (p_roots (by decide) (by decide) hc (by omega) (fun u _ hu => hP _ _ _ hu))
      omega
    · omega
  rcases (show d = 0 ∨ d = 1 ∨ d = 2 ∨ d = 3 by omega) with rfl | rfl | rfl | rfl
  · exact Nat.zero_le _
  · exact Nat.le_trans (one c) (by decide)
  · refine Nat.le_trans (two c (fun k hk => (h k hk).mono (by decide))) (by decide)
  · rw [p_tN_s]
    split
    · next hb =>
      have hb2 : 1 ≤ p_tm c ∧ p_tm c ≤ 16 := by unfold p_br at hb; simpa using hb
      have := p_cs_le (g := p_tN P 2) (P := P) (c := c) (M := 5) (fun u hu => two _ (p_ic_blw (by decide) h _ (p_ib_tt hu))) (p_roots (by decide) (by decide) h (by omega) (fun u _ hu => hP _ _ _ hu))
      omega
    · omega
