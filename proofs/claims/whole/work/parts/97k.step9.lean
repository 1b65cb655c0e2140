theorem p_cO_o (W : List Int32) : p_cO (-11 :: W) = p_cO W + 1 := by
  show p_cO W + (if (-11 : Int32) = -11 then 1 else 0) = _
  rw [if_pos rfl]
theorem p_cO_n {w : Int32} (h : w ≠ -11) (W : List Int32) : p_cO (w :: W) = p_cO W := by
  show p_cO W + (if w = -11 then 1 else 0) = _
  rw [if_neg h]
  rfl
theorem p_cN_o (W : List Int32) : p_cN (-10 :: W) = p_cN W + 1 := by
  show p_cN W + (if (-10 : Int32) = -10 then 1 else 0) = _
  rw [if_pos rfl]
theorem p_cN_n {w : Int32} (h : w ≠ -10) (W : List Int32) : p_cN (w :: W) = p_cN W := by
  show p_cN W + (if w = -10 then 1 else 0) = _
  rw [if_neg h]
  rfl
theorem stl_ok (r : Nat) : ∀ W D : List Int32, (p_stl r W D).1.length + (p_stl r W D).2.length = W.length + D.length ∧ p_cO (p_stl r W D).1 = p_cO W
  | [], D => ⟨rfl, rfl⟩
  | w :: W, D => by
    unfold p_stl
    by_cases h : w = -11
    · rw [if_pos h]
      exact ⟨rfl, rfl⟩
    · rw [if_neg h]
      by_cases h2 : p_rk w < r
      · rw [if_pos h2]
        exact ⟨rfl, rfl⟩
      · rw [if_neg h2]
        obtain ⟨h3, h4⟩ := stl_ok r W (w :: D)
        refine ⟨by rw [h3]; simp; omega, by rw [h4, p_cO_n h]⟩
abbrev p_cf : Type := (Nat × Int32) × (List Int32 × List Int32) × Nat × (Nat → Bool)
def p_sts (bt : Nat → Int32) (n ky : Nat) (c : p_cf) (S I : Nat → Nat → Int32) : Prop := p_q9 bt n ky S I c.2.1.1 c.2.1.2 c.2.2.1 c.2.2.2 ∧ p_t9 bt n S c.1.1 c.1.2 ∧ c.1.1 ≤ n ∧ c.2.1.2.length + c.2.1.1.length ≤ c.1.1
def p_ks : List Nat := [14, 15, 16, 17, 18, 23, 24, 26]
def p_to (bt : Nat → Int32) (n ky : Nat) (w1 : Bool) (c1 : p_cf) (w2 : Bool) (c2 : p_cf) : Prop := ∃ kk, c1.1.1 + kk ≤ c2.1.1 ∧ ∀ (K : Nat) (S I : Nat → Nat → Int32) (L : Nat → Nat → Int64) (T : Nat → Nat → Option Nat) (Λ : Nat → p_Lw), p_sts bt n ky c1 S I → ∃ S' I', p_sts bt n ky c2 S' I' ∧ p_fk p_ks S S' ∧ p_fI I I' ∧ ∀ f, fX9_takesE_L28 (f + kk) 96 (nI (p_cO c1.2.1.1)) (nI (p_cN c1.2.1.1)) (e_b w1) (p_H K S I L T Λ) = fX9_takesE_L28 f 96 (nI (p_cO c2.2.1.1)) (nI (p_cN c2.2.1.1)) (e_b w2) (p_H K S' I' L T Λ)
def p_no (bt : Nat → Int32) (n ky : Nat) (w1 : Bool) (c1 : p_cf) (at_ : Nat) : Prop := ∃ kk, c1.1.1 + kk ≤ n ∧ ∀ (K : Nat) (S I : Nat → Nat → Int32) (L : Nat → Nat → Int64) (T : Nat → Nat → Option Nat) (Λ : Nat → p_Lw), p_sts bt n ky c1 S I → ∃ S' I', S' 96 15 = nI at_ ∧ p_fk p_ks S S' ∧ p_fI I I' ∧ ∀ f, fX9_takesE_L28 (f + kk + 1) 96 (nI (p_cO c1.2.1.1)) (nI (p_cN c1.2.1.1)) (e_b w1) (p_H K S I L T Λ) = some (false, p_H K S' I' L T Λ)
theorem p_to.rf {bt : Nat → Int32} {n ky : Nat} {w : Bool} {c : p_cf} : p_to bt n ky w c w c := ⟨0, by omega, fun K S I L T Λ h => ⟨S, I, h, p_fk.rf _ _, p_fI.rf _, fun f => rfl⟩⟩
theorem p_to.tr {bt : Nat → Int32} {n ky : Nat} {w1 w2 w3 : Bool} {c1 c2 c3 : p_cf} (h : p_to bt n ky w1 c1 w2 c2) (h' : p_to bt n ky w2 c2 w3 c3) : p_to bt n ky w1 c1 w3 c3 := by
  obtain ⟨k1, a1, a2⟩ := h
  obtain ⟨k2, b1, b2⟩ := h'
  refine ⟨k2 + k1, by omega, fun K S I L T Λ hs => ?_⟩
  obtain ⟨S', I', g1, g2, g3, g4⟩ := a2 K S I L T Λ hs
  obtain ⟨S'', I'', m1, m2, m3, m4⟩ := b2 K S' I' L T Λ g1
  refine ⟨S'', I'', m1, g2.tr m2, g3.tr m3, fun f => ?_⟩
  rw [← Nat.add_assoc, g4, m4]
theorem p_to.no {bt : Nat → Int32} {n ky at_ : Nat} {w1 w2 : Bool} {c1 c2 : p_cf} (h : p_to bt n ky w1 c1 w2 c2) (h' : p_no bt n ky w2 c2 at_) : p_no bt n ky w1 c1 at_ := by
  obtain ⟨k1, a1, a2⟩ := h
  obtain ⟨k2, b1, b2⟩ := h'
  refine ⟨k2 + k1, by omega, fun K S I L T Λ hs => ?_⟩
  obtain ⟨S', I', g1, g2, g3, g4⟩ := a2 K S I L T Λ hs
  obtain ⟨S'', I'', m1, m2, m3, m4⟩ := b2 K S' I' L T Λ g1
  refine ⟨S'', I'', m1, g2.tr m2, g3.tr m3, fun f => ?_⟩
  rw [show f + (k2 + k1) + 1 = (f + k2 + 1) + k1 by omega, g4, m4]
def p_pt (bt : Nat → Int32) (n ky f : Nat) (e : Int32) : Option Int32 := if p_tkn bt n f e = 2 then some (p_tvl bt n f) else if p_tkn bt n f e = 1 ∧ p_tnx bt n f = f + 1 ∧ ¬ p_nm ky (p_by bt n f) < 0 then some (nI 10000 + p_nm ky (p_by bt n f)) else none
theorem tkn_sg {bt : Nat → Int32} {n f : Nat} {e : Int32} (hf : f < n) (h1 : p_ltr (p_by bt n f) = false) (h2 : p_dig (p_by bt n f) = false) : p_tkn bt n f e = 3 ∧ p_tnx bt n f = f + 1 ∧ p_ted bt n f e = e ∧ p_tvl bt n f = p_by bt n f := by
  refine ⟨?_, ?_, ?_, ?_⟩
  · unfold p_tkn
    rw [if_neg (show ¬ n ≤ f by omega), h1, if_neg (by decide), h2, if_neg (by decide)]
  · unfold p_tnx
    rw [if_neg (show ¬ n ≤ f by omega), h1, if_neg (by decide), h2, if_neg (by decide)]
  · unfold p_ted
    rw [if_neg (show ¬ n ≤ f by omega), h1, if_neg (by decide), h2, if_neg (by decide)]
  · unfold p_tvl
    rw [h2, if_neg (by decide)]
theorem tnx_le {bt : Nat → Int32} {n f : Nat} (hf : f ≤ n) : f ≤ p_tnx bt n f ∧ p_tnx bt n f ≤ n ∧ (f < n → f < p_tnx bt n f) := by
  unfold p_tnx
  by_cases h : n ≤ f
  · rw [if_pos h]
    exact ⟨Nat.le_refl _, hf, fun z => absurd z (by omega)⟩
  · rw [if_neg h]
    cases hl : p_ltr (p_by bt n f)
    · rw [if_neg (by decide)]
      cases hd : p_dig (p_by bt n f)
      · rw [if_neg (by decide)]
        exact ⟨by omega, by omega, fun _ => by omega⟩
      · rw [if_pos rfl]
        obtain ⟨r1, r2, r3, r4⟩ := p_re_ok p_dig (bt := bt) hf
        refine ⟨r1, r2, fun _ => ?_⟩
        by_cases e : f = p_re p_dig bt n f
        · have := r4 (by decide)
          rw [← e, hd] at this
          exact absurd this (by decide)
        · omega
    · rw [if_pos rfl]
      obtain ⟨r1, r2, r3, r4⟩ := p_re_ok p_ltr (bt := bt) hf
      refine ⟨r1, r2, fun _ => ?_⟩
      by_cases e : f = p_re p_ltr bt n f
      · have := r4 (by decide)
        rw [← e, hl] at this
        exact absurd this (by decide)
      · omega
theorem ltr_dig {b : Int32} (h : p_ltr b = true) : p_dig b = false := by
  have z := of_decide_eq_true h
  exact decide_eq_false (fun y => y.2 (Int32.lt_of_lt_of_le (show nI 57 < nI 97 by decide) (Int32.not_lt.mp z.1)))
theorem tkn_12 {bt : Nat → Int32} {n f : Nat} {e : Int32} (h : p_tkn bt n f e = 1 ∨ p_tkn bt n f e = 2) : f < n ∧ p_ted bt n f e = nI (p_tnx bt n f) ∧ (p_tkn bt n f e = 1 → p_ltr (p_by bt n f) = true) := by
  unfold p_tkn at h ⊢
  unfold p_ted p_tnx
  by_cases h0 : n ≤ f
  · rw [if_pos h0] at h
    rcases h with h | h <;> exact absurd h (by decide)
  · rw [if_neg h0] at h ⊢
    rw [if_neg h0, if_neg h0]
    cases hl : p_ltr (p_by bt n f)
    · rw [hl, if_neg (by decide)] at h
      rw [if_neg (show ¬ (false = true) by decide), if_neg (show ¬ (false = true) by decide), if_neg (show ¬ (false = true) by decide)]
      cases hd : p_dig (p_by bt n f)
      · rw [hd, if_neg (by decide)] at h
        rcases h with h | h <;> exact absurd h (by decide)
      · rw [if_pos rfl, if_pos rfl]
        refine ⟨by omega, rfl, fun z => ?_⟩
        rw [if_pos rfl] at z
        split at z <;> exact absurd z (by decide)
    · rw [if_pos rfl, if_pos rfl]
      exact ⟨by omega, rfl, fun _ => rfl⟩
section STEP9
variable {K : Nat} {L : Nat → Nat → Int64} {T : Nat → Nat → Option Nat} {Λ : Nat → p_Lw}
variable {bt : Nat → Int32} {n ky : Nat}
theorem part_b87 {S I : Nat → Nat → Int32} {W D : List Int32} {a q : Nat} {τ : Nat → Bool} (ht : p_tb bt n) (h : p_q9 bt n ky S I W D a τ) (hl : D.length + W.length < 96) (hq : q ≤ n) (h14 : S 96 14 = nI q) (h18 : S 96 18 = nI q) (x : Int32) : ∃ S' I', fX9_takesPart_b87x1 96 x (nI D.length) 108 (p_H K S I L T Λ) = some (true, p_H K S' I' L T Λ) ∧ p_q9 bt n ky S' I' (p_stl 6 W (x :: D)).1 (p_stl 6 W (x :: D)).2 (a + 1) τ ∧ p_t9 bt n S' q (nI q) ∧ p_fk p_ks S S' ∧ p_fI I I' := by
  obtain ⟨h1, h2, h3, h4, h5, h6, h7, h8, h9⟩ := id h
  have hq1 : p_q9 bt n ky (p_s (p_s S 96 23 (nI (D.length + 1))) 96 24 (nI (a + 1))) (va_up I 108 (upd (I 108) D.length x)) W (x :: D) (a + 1) τ := ⟨by rw [p_s_ne (by decide), p_s_ne (by decide)]; exact h1, by rw [va_up_n (by decide)]; exact h2, by rw [p_s_ne (by decide), p_s_ne (by decide)]; exact h3, by rw [p_s_ne (by decide), p_s_at]; rfl, by rw [va_up_s]; exact h5.push x, p_s_at, by rw [p_s_ne (by decide), p_s_ne (by decide)]; exact h7, by rw [va_up_n (by decide)]; exact h8, by rw [va_up_n (by decide)]; exact h9⟩
  obtain ⟨S2, I2, g1, g2, g3, g4⟩ := q9_settle (K := K) (L := L) (T := T) (Λ := Λ) (r := 6) (by decide) (by simp; omega) hq1
  have j14 : S2 96 14 = nI q := by rw [g3.2 14 (by decide), p_s_ne (by decide), p_s_ne (by decide)]; exact h14
  have j18 : S2 96 18 = nI q := by rw [g3.2 18 (by decide), p_s_ne (by decide), p_s_ne (by decide)]; exact h18
  obtain ⟨S3, m1, m2, m3⟩ := q9_go (K := K) (L := L) (T := T) (Λ := Λ) (I := I2) ht g2.1 g2.2.1 hq j14 j18
  refine ⟨S3, I2, ?_, g2.fk m3, m2, ?_, ((p_fI.rf I).up (Or.inl rfl) _).tr g4⟩
  · unfold fX9_takesPart_b87x1
    simp only [gM_23, gM_24, gM_p23, gM_p24, Option.bind_some, e_on, p_stI pk_108 (show D.length < 96 by omega) (show 96 < 2 ^ 31 by decide), h4, p_s_ne (show (24 : Nat) ≠ 23 by decide), h6, nI_s, g1, m1]
  · exact ((((p_fk.rf _ S).put (by decide) _).put (by decide) _).tr (g3.mono (by decide))).tr (m3.mono (by decide))
theorem q9_part {S I : Nat → Nat → Int32} {c : p_cf} (ht : p_tb bt n) (hk : ky ≤ 2) (h : p_sts bt n ky c S I) {x : Int32} (hx : p_pt bt n ky (p_skp bt n c.1.1) c.1.2 = some x) : ∃ S' I', fX9_takesPart 96 (p_H K S I L T Λ) = some (true, p_H K S' I' L T Λ) ∧ p_sts bt n ky ((p_tnx bt n (p_skp bt n c.1.1), nI (p_tnx bt n (p_skp bt n c.1.1))), p_stl 6 c.2.1.1 (x :: c.2.1.2), c.2.2.1 + 1, c.2.2.2) S' I' ∧ p_fk p_ks S S' ∧ p_fI I I' := by
  obtain ⟨⟨q, e⟩, ⟨W, D⟩, a, τ⟩ := c
  obtain ⟨hq9, ht9, hqn, hlen⟩ := h
  have hqn' : q ≤ n := hqn
  have hlen' : D.length + W.length ≤ q := hlen
  have hx' : p_pt bt n ky (p_skp bt n q) e = some x := hx
  have hn := ht.1
  obtain ⟨f, hf⟩ : ∃ f, f = p_skp bt n q := ⟨_, rfl⟩
  have hle := p_skp_le (bt := bt) hqn'
  obtain ⟨t1, t2, t3, t4, t5⟩ := ht9
  show ∃ S' I', _ ∧ p_sts bt n ky ((p_tnx bt n (p_skp bt n q), nI (p_tnx bt n (p_skp bt n q))), p_stl 6 W (x :: D), a + 1, τ) S' I' ∧ _
  have t1' : S 96 15 = nI (p_skp bt n q) := t1
  have t2' : S 96 14 = nI (p_tnx bt n (p_skp bt n q)) := t2
  have t3' : S 96 16 = nI (p_tkn bt n (p_skp bt n q) e) := t3
  have t4' : p_skp bt n q < n → S 96 17 = p_tvl bt n (p_skp bt n q) := t4
  have t5' : S 96 18 = p_ted bt n (p_skp bt n q) e := t5
  rw [← hf] at t1' t2' t3' t4' t5' hx' hle ⊢
  unfold p_pt at hx'
  have fin : (p_tkn bt n f e = 1 ∨ p_tkn bt n f e = 2) → ∃ S' I', fX9_takesPart_b87x1 96 x (nI D.length) 108 (p_H K S I L T Λ) = some (true, p_H K S' I' L T Λ) ∧ p_sts bt n ky ((p_tnx bt n f, nI (p_tnx bt n f)), p_stl 6 W (x :: D), a + 1, τ) S' I' ∧ p_fk p_ks S S' ∧ p_fI I I' := fun hkk => by
    obtain ⟨k1, k2, k3⟩ := tkn_12 hkk
    have hnx := tnx_le (bt := bt) hle.2
    obtain ⟨S', I', g1, g2, g3, g4, g5⟩ := part_b87 (K := K) (L := L) (T := T) (Λ := Λ) ht hq9 (show D.length + W.length < 96 by omega) hnx.2.1 t2' (by rw [t5', k2]) x
    refine ⟨S', I', g1, ⟨g2, g3, hnx.2.1, ?_⟩, g4, g5⟩
    have := (stl_ok 6 W (x :: D)).1
    show (p_stl 6 W (x :: D)).2.length + (p_stl 6 W (x :: D)).1.length ≤ p_tnx bt n f
    have h3 := hnx.2.2 k1
    simp only [List.length_cons] at this
    omega
  by_cases h2 : p_tkn bt n f e = 2
  · rw [if_pos h2] at hx'
    obtain ⟨S', I', g1, g2⟩ := fin (Or.inr h2)
    refine ⟨S', I', ?_, g2⟩
    have hlt := (tkn_12 (Or.inr h2)).1
    have ev : S 96 17 = x := by rw [t4' hlt]; exact Option.some.inj hx'
    unfold fX9_takesPart fX9_takesPart_b36 fX9_takesPart_b37 fX9_takesPart_b52
    rw [gM_o, Option.bind_some, gM_16, Option.bind_some, t3', h2, if_neg (by decide), Option.bind_some, if_pos rfl, gM_22, Option.bind_some]
    show ((o_getI _ 96 9 23).bind _) = _
    rw [gM_23, Option.bind_some, Option.bind_some, if_pos rfl, gM_17, Option.bind_some, ev, hq9.2.2.2.1]
    exact g1
  · rw [if_neg h2] at hx'
    by_cases h1 : p_tkn bt n f e = 1 ∧ p_tnx bt n f = f + 1 ∧ ¬ p_nm ky (p_by bt n f) < 0
    · rw [if_pos h1] at hx'
      obtain ⟨S', I', g1, g2⟩ := fin (Or.inl h1.1)
      refine ⟨S', I', ?_, g2⟩
      obtain ⟨k1, k2, k3⟩ := tkn_12 (Or.inl h1.1)
      have ev : S 96 17 = p_by bt n f := by
        rw [t4' k1]
        unfold p_tvl
        rw [ltr_dig (k3 h1.1), if_neg (by decide)]
      have nameq := q9_nameOf (K := K) (L := L) (T := T) (Λ := Λ) (I := I) hk hq9.2.2.1 (p_by bt n f)
      unfold fX9_takesPart fX9_takesPart_b36 fX9_takesPart_b37 fX9_takesPart_b52
      rw [gM_o, Option.bind_some, gM_16, Option.bind_some, t3', h1.1, if_pos rfl, gM_14, Option.bind_some, gM_15, Option.bind_some, t2', t1', h1.2.1, pk_sub (by omega), show f + 1 - f = 1 by omega, if_pos rfl, gM_17, Option.bind_some, ev, nameq, Option.bind_some, if_neg h1.2.2, Option.bind_some, if_neg (by decide), if_neg (by decide), gM_22, Option.bind_some]
      show ((o_getI _ 96 9 23).bind _) = _
      rw [gM_23, Option.bind_some, Option.bind_some, if_neg (by decide), Option.bind_some, nameq, Option.bind_some, hq9.2.2.2.1, show nI 10000 + p_nm ky (p_by bt n f) = x from Option.some.inj hx']
      exact g1
    · rw [if_neg h1] at hx'
      exact absurd hx' (by simp)
theorem q9_part_no {S I : Nat → Nat → Int32} {c : p_cf} (hk : ky ≤ 2) (h : p_sts bt n ky c S I) (hn : n ≤ 96) (hx : p_pt bt n ky (p_skp bt n c.1.1) c.1.2 = none) : fX9_takesPart 96 (p_H K S I L T Λ) = some (false, p_H K S I L T Λ) := by
  obtain ⟨⟨q, e⟩, ⟨W, D⟩, a, τ⟩ := c
  obtain ⟨hq9, ht9, hqn, hlen⟩ := h
  have hqn' : q ≤ n := hqn
  have hx' : p_pt bt n ky (p_skp bt n q) e = none := hx
  have hle := p_skp_le (bt := bt) hqn'
  obtain ⟨t1, t2, t3, t4, t5⟩ := ht9
  have t1' : S 96 15 = nI (p_skp bt n q) := t1
  have t2' : S 96 14 = nI (p_tnx bt n (p_skp bt n q)) := t2
  have t3' : S 96 16 = nI (p_tkn bt n (p_skp bt n q) e) := t3
  have t4' : p_skp bt n q < n → S 96 17 = p_tvl bt n (p_skp bt n q) := t4
  obtain ⟨f, hf⟩ : ∃ f, f = p_skp bt n q := ⟨_, rfl⟩
  rw [← hf] at t1' t2' t3' t4' hx' hle
  have hnx := tnx_le (bt := bt) hle.2
  have h7 : p_tkn bt n f e < 2 ^ 31 := by
    unfold p_tkn
    repeat' split
    all_goals decide
  unfold p_pt at hx'
  by_cases h2 : p_tkn bt n f e = 2
  · rw [if_pos h2] at hx'
    exact absurd hx' (by simp)
  · rw [if_neg h2] at hx'
    by_cases h1 : p_tkn bt n f e = 1 ∧ p_tnx bt n f = f + 1 ∧ ¬ p_nm ky (p_by bt n f) < 0
    · rw [if_pos h1] at hx'
      exact absurd hx' (by simp)
    · have g0 : fX9_takesPart_b36 96 (p_H K S I L T Λ) = some (false, p_H K S I L T Λ) := by
        unfold fX9_takesPart_b36 fX9_takesPart_b37
        rw [gM_16, Option.bind_some, t3', if_neg (fun z => h2 ((nI_eq h7 (by decide)).mp z)), if_pos nI_0]
      unfold fX9_takesPart
      rw [gM_o, Option.bind_some, gM_16, Option.bind_some, t3']
      by_cases h1a : p_tkn bt n f e = 1
      · obtain ⟨k1, k2, k3⟩ := tkn_12 (Or.inl h1a)
        have ev : S 96 17 = p_by bt n f := by
          rw [t4' k1]
          unfold p_tvl
          rw [ltr_dig (k3 h1a), if_neg (by decide)]
        rw [h1a, if_pos rfl, gM_14, Option.bind_some, gM_15, Option.bind_some, t2', t1', pk_sub hnx.1]
        by_cases h1b : p_tnx bt n f = f + 1
        · rw [h1b, show f + 1 - f = 1 by omega, if_pos rfl, gM_17, Option.bind_some, ev, q9_nameOf hk hq9.2.2.1, Option.bind_some, if_pos (Classical.not_not.mp (fun z => h1 ⟨h1a, h1b, z⟩))]
          exact g0
        · rw [if_neg (fun z => h1b (by have := (nI_eq (show p_tnx bt n f - f < 2 ^ 31 by omega) (by decide)).mp z; omega))]
          exact g0
      · rw [if_neg (fun z => h1a ((nI_eq h7 (by decide)).mp z))]
        exact g0
end STEP9
