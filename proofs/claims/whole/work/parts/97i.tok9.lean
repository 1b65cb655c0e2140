def p_tkn (bt : Nat → Int32) (n f : Nat) (e : Int32) : Nat := if n ≤ f then 0 else if p_ltr (p_by bt n f) then (if nI f = e then 4 else 1) else if p_dig (p_by bt n f) then (if nI f = e ∨ f + 4 < p_re p_dig bt n f then 4 else 2) else 3
def p_tnx (bt : Nat → Int32) (n f : Nat) : Nat := if n ≤ f then f else if p_ltr (p_by bt n f) then p_re p_ltr bt n f else if p_dig (p_by bt n f) then p_re p_dig bt n f else f + 1
def p_tvl (bt : Nat → Int32) (n f : Nat) : Int32 := if p_dig (p_by bt n f) then p_nv bt f (min 4 (p_re p_dig bt n f - f)) else p_by bt n f
def p_ted (bt : Nat → Int32) (n f : Nat) (e : Int32) : Int32 := if n ≤ f then e else if p_ltr (p_by bt n f) then nI (p_re p_ltr bt n f) else if p_dig (p_by bt n f) then nI (p_re p_dig bt n f) else e
def p_cO : List Int32 → Nat
  | [] => 0
  | w :: W => p_cO W + if w = -11 then 1 else 0
def p_cN : List Int32 → Nat
  | [] => 0
  | w :: W => p_cN W + if w = -10 then 1 else 0
def p_q9 (bt : Nat → Int32) (n ky : Nat) (S I : Nat → Nat → Int32) (W D : List Int32) (a : Nat) (τ : Nat → Bool) : Prop := S 96 13 = nI n ∧ (∀ x, x < n → I 105 x = bt x) ∧ S 96 19 = nI ky ∧ S 96 23 = nI D.length ∧ p_sk (I 108) D ∧ S 96 24 = nI a ∧ S 96 26 = nI W.length ∧ p_sk (I 109) W ∧ ∀ i, i ≤ p_cO W → I 110 i = e_b (τ i)
def p_t9 (bt : Nat → Int32) (n : Nat) (S : Nat → Nat → Int32) (q : Nat) (e : Int32) : Prop := S 96 15 = nI (p_skp bt n q) ∧ S 96 14 = nI (p_tnx bt n (p_skp bt n q)) ∧ S 96 16 = nI (p_tkn bt n (p_skp bt n q) e) ∧ (p_skp bt n q < n → S 96 17 = p_tvl bt n (p_skp bt n q)) ∧ S 96 18 = p_ted bt n (p_skp bt n q) e
def p_fk (ks : List Nat) (S S' : Nat → Nat → Int32) : Prop := (∀ a, a ≠ 96 → S' a = S a) ∧ ∀ k, k ∉ ks → S' 96 k = S 96 k
theorem p_fk.rf (ks : List Nat) (S : Nat → Nat → Int32) : p_fk ks S S := ⟨fun _ _ => rfl, fun _ _ => rfl⟩
theorem p_fk.tr {ks : List Nat} {S S' S'' : Nat → Nat → Int32} (h : p_fk ks S S') (h' : p_fk ks S' S'') : p_fk ks S S'' := ⟨fun a ha => (h'.1 a ha).trans (h.1 a ha), fun k hk => (h'.2 k hk).trans (h.2 k hk)⟩
theorem p_fk.put {ks : List Nat} {S S' : Nat → Nat → Int32} (h : p_fk ks S S') {k : Nat} (hk : k ∈ ks) (x : Int32) : p_fk ks S (p_s S' 96 k x) := ⟨fun a ha => (p_s_n ha).trans (h.1 a ha), fun j hj => by
  rw [p_s_ne (fun z => hj (by rw [z]; exact hk))]
  exact h.2 j hj⟩
theorem p_fk.mono {ks ls : List Nat} {S S' : Nat → Nat → Int32} (h : p_fk ks S S') (hk : ∀ k ∈ ks, k ∈ ls) : p_fk ls S S' := ⟨h.1, fun k z => h.2 k (fun y => z (hk k y))⟩
theorem p_q9.fk {bt : Nat → Int32} {n ky : Nat} {S S' I : Nat → Nat → Int32} {W D : List Int32} {a : Nat} {τ : Nat → Bool} (h : p_q9 bt n ky S I W D a τ) (hf : p_fk [14, 15, 16, 17, 18] S S') : p_q9 bt n ky S' I W D a τ := by
  obtain ⟨h1, h2, h3, h4, h5, h6, h7, h8, h9⟩ := h
  exact ⟨by rw [hf.2 13 (by decide)]; exact h1, h2, by rw [hf.2 19 (by decide)]; exact h3, by rw [hf.2 23 (by decide)]; exact h4, h5, by rw [hf.2 24 (by decide)]; exact h6, by rw [hf.2 26 (by decide)]; exact h7, h8, h9⟩
theorem p_t9.fk {bt : Nat → Int32} {n q : Nat} {e : Int32} {S S' : Nat → Nat → Int32} {ks : List Nat} (h : p_t9 bt n S q e) (hf : p_fk ks S S') (hk : 14 ∉ ks ∧ 15 ∉ ks ∧ 16 ∉ ks ∧ 17 ∉ ks ∧ 18 ∉ ks) : p_t9 bt n S' q e := by
  obtain ⟨h1, h2, h3, h4, h5⟩ := h
  exact ⟨by rw [hf.2 15 hk.2.1]; exact h1, by rw [hf.2 14 hk.1]; exact h2, by rw [hf.2 16 hk.2.2.1]; exact h3, fun z => by rw [hf.2 17 hk.2.2.2.1]; exact h4 z, by rw [hf.2 18 hk.2.2.2.2]; exact h5⟩
section TOK9
variable {K : Nat} {I : Nat → Nat → Int32} {L : Nat → Nat → Int64} {T : Nat → Nat → Option Nat} {Λ : Nat → p_Lw}
variable {bt : Nat → Int32} {n : Nat}
theorem q9_isLetter {S : Nat → Nat → Int32} (ht : p_tb bt n) (h0 : S 96 13 = nI n) (hI : ∀ x, x < n → I 105 x = bt x) {i : Nat} (hi : i < 2 ^ 31) : fX9_isLetter 96 (nI i) (p_H K S I L T Λ) = some (p_ltr (p_by bt n i)) := by
  have hn := ht.1
  unfold fX9_isLetter p_by p_ltr
  simp only [gM_o, gM_13, gM_12, Option.bind_some, e_on, h0]
  by_cases h : i < n
  · rw [if_neg (nI_ge h (by omega)), p_ldI pk_105 (by omega) (by decide), Option.bind_some, Option.bind_some, hI i h, if_pos h]
    by_cases h1 : bt i < nI 97
    · rw [if_pos h1]; simp [h1]
    · rw [if_neg h1]
      by_cases h2 : nI 122 < bt i
      · rw [if_pos h2]; simp [h1, h2]
      · rw [if_neg h2]; simp [h1, h2]
  · rw [if_pos (nI_le (by omega) hi), if_neg h]
    decide
theorem q9_isFigure {S : Nat → Nat → Int32} (ht : p_tb bt n) (h0 : S 96 13 = nI n) (hI : ∀ x, x < n → I 105 x = bt x) {i : Nat} (hi : i < 2 ^ 31) : fX9_isFigure 96 (nI i) (p_H K S I L T Λ) = some (p_dig (p_by bt n i)) := by
  have hn := ht.1
  unfold fX9_isFigure p_by p_dig
  simp only [gM_o, gM_13, gM_12, Option.bind_some, e_on, h0]
  by_cases h : i < n
  · rw [if_neg (nI_ge h (by omega)), p_ldI pk_105 (by omega) (by decide), Option.bind_some, Option.bind_some, hI i h, if_pos h]
    by_cases h1 : bt i < nI 48
    · rw [if_pos h1]; simp [h1]
    · rw [if_neg h1]
      by_cases h2 : nI 57 < bt i
      · rw [if_pos h2]; simp [h1, h2]
      · rw [if_neg h2]; simp [h1, h2]
  · rw [if_pos (nI_le (by omega) hi), if_neg h]
    decide
theorem go0 {S : Nat → Nat → Int32} (ht : p_tb bt n) (h0 : S 96 13 = nI n) (hI : ∀ x, x < n → I 105 x = bt x) : ∀ (d m i : Nat), i + d = n → fX9_go_L0 (d + 1 + m) 96 (p_H K (p_s S 96 14 (nI i)) I L T Λ) = fX9_go_b38 96 (p_H K (p_s S 96 14 (nI (p_rn p_blk bt d i))) I L T Λ)
  | 0, m, i, hi => by
    have hn := ht.1
    rw [show 0 + 1 + m = m + 1 by omega]
    show fX9_go_b0 _ _ _ = _
    unfold fX9_go_b0
    rw [gM_14, Option.bind_some, gM_13, Option.bind_some, p_s_at, p_s_ne (by decide), h0, if_pos (nI_le (by omega) (by omega))]
    rfl
  | d + 1, m, i, hi => by
    have hn := ht.1
    rw [show d + 1 + 1 + m = (d + 1 + m) + 1 by omega]
    show fX9_go_b0 _ _ _ = _
    unfold fX9_go_b0
    simp only [gM_14, gM_13, gM_12, gM_p14, Option.bind_some, e_on, p_s_at, p_s_up]
    rw [p_s_ne (by decide), h0, if_neg (nI_ge (by omega) (by omega)), p_ldI pk_105 (by omega) (by decide), Option.bind_some, hI i (by omega), nI_s]
    show _ = fX9_go_b38 96 (p_H K (p_s S 96 14 (nI (if p_blk (bt i) then p_rn p_blk bt d (i + 1) else i))) I L T Λ)
    by_cases h : bt i = nI 32
    · rw [if_pos h, if_pos (show p_blk (bt i) = true from decide_eq_true h)]
      exact go0 ht h0 hI d m (i + 1) (by omega)
    · rw [if_neg h, if_neg (by rw [show p_blk (bt i) = false from decide_eq_false h]; decide)]
theorem go93 {S : Nat → Nat → Int32} (ht : p_tb bt n) (h0 : S 96 13 = nI n) (hI : ∀ x, x < n → I 105 x = bt x) (l1 : Int32) : ∀ (d m i : Nat), i + d = n → fX9_go_L93 (d + 1 + m) 96 l1 (p_H K (p_s S 96 14 (nI i)) I L T Λ) = (if l1 = 0 then fX9_go_b127 96 (nI 1) 96 (p_H K (p_s S 96 14 (nI (p_rn p_ltr bt d i))) I L T Λ) else fX9_go_b127 96 (nI 4) 96 (p_H K (p_s S 96 14 (nI (p_rn p_ltr bt d i))) I L T Λ))
  | 0, m, i, hi => by
    have hn := ht.1
    have h0' : p_s S 96 14 (nI i) 96 13 = nI n := by rw [p_s_ne (by decide)]; exact h0
    rw [show 0 + 1 + m = m + 1 by omega]
    show fX9_go_b93 _ _ _ _ = _
    unfold fX9_go_b93
    rw [gM_14, Option.bind_some, p_s_at, q9_isLetter ht h0' hI (by omega), Option.bind_some, show p_by bt n i = -1 from if_neg (by omega), show p_ltr (-1) = false by decide, if_pos eb_f]
    rfl
  | d + 1, m, i, hi => by
    have hn := ht.1
    have h0' : p_s S 96 14 (nI i) 96 13 = nI n := by rw [p_s_ne (by decide)]; exact h0
    rw [show d + 1 + 1 + m = (d + 1 + m) + 1 by omega]
    show fX9_go_b93 _ _ _ _ = _
    unfold fX9_go_b93
    rw [gM_14, Option.bind_some, p_s_at, q9_isLetter ht h0' hI (by omega), Option.bind_some, show p_by bt n i = bt i from if_pos (by omega)]
    show _ = (if l1 = 0 then fX9_go_b127 96 (nI 1) 96 (p_H K (p_s S 96 14 (nI (if p_ltr (bt i) then p_rn p_ltr bt d (i + 1) else i))) I L T Λ) else fX9_go_b127 96 (nI 4) 96 (p_H K (p_s S 96 14 (nI (if p_ltr (bt i) then p_rn p_ltr bt d (i + 1) else i))) I L T Λ))
    cases h : p_ltr (bt i)
    · rw [if_pos eb_f]
      rfl
    · rw [if_neg eb_t, Option.bind_some, gM_p14, Option.bind_some, p_s_up, nI_s]
      exact go93 ht h0 hI l1 d m (i + 1) (by omega)
theorem go170 {S0 : Nat → Nat → Int32} (ht : p_tb bt n) (h0 : S0 96 13 = nI n) (hI : ∀ x, x < n → I 105 x = bt x) {f : Nat} (hf : f ≤ n) (h15 : S0 96 15 = nI f) (l1 : Int32) : ∀ (d m i : Nat) (S : Nat → Nat → Int32), i + d = p_re p_dig bt n f → f ≤ i → p_fk [14, 17] S0 S → S 96 14 = nI i → S 96 17 = p_nv bt f (min 4 (i - f)) → ∃ S', p_fk [14, 17] S0 S' ∧ S' 96 14 = nI (p_re p_dig bt n f) ∧ S' 96 17 = p_nv bt f (min 4 (p_re p_dig bt n f - f)) ∧ fX9_go_L170 (d + 1 + m) 96 l1 (p_H K S I L T Λ) = (if l1 = 0 then (if p_re p_dig bt n f - f ≤ 4 then fX9_go_b261 96 (nI 2) 96 (p_H K S' I L T Λ) else fX9_go_b256 96 96 (p_H K S' I L T Λ)) else fX9_go_b256 96 96 (p_H K S' I L T Λ))
  | 0, m, i, S, hi, hfi, hfk, h14, h17 => by
    obtain ⟨r1, r2, r3, r4⟩ := p_re_ok p_dig (bt := bt) hf
    have hn := ht.1
    have ei : i = p_re p_dig bt n f := by omega
    refine ⟨S, hfk, by rw [h14, ei], by rw [h17, ei], ?_⟩
    rw [show 0 + 1 + m = m + 1 by omega]
    show fX9_go_b170 _ _ _ _ = _
    unfold fX9_go_b170
    rw [gM_14, Option.bind_some, h14, q9_isFigure ht (by rw [hfk.2 13 (by decide)]; exact h0) hI (by omega), Option.bind_some, ei, r4 (by decide), if_pos eb_f]
    by_cases hl : l1 = 0
    · rw [if_pos hl, if_pos hl, Option.bind_some, gM_15, Option.bind_some, hfk.2 15 (by decide), h15, pk_sub r1]
      by_cases h4 : p_re p_dig bt n f - f ≤ 4
      · rw [if_pos (nI_le h4 (by decide)), if_pos h4]
      · rw [if_neg (nI_ge (by omega) (by omega)), if_neg h4]
    · rw [if_neg hl, if_neg hl]
  | d + 1, m, i, S, hi, hfi, hfk, h14, h17 => by
    obtain ⟨r1, r2, r3, r4⟩ := p_re_ok p_dig (bt := bt) hf
    have hn := ht.1
    have hd : p_dig (p_by bt n i) = true := r3 i hfi (by omega)
    have eb : p_by bt n i = bt i := if_pos (by omega)
    have step : ∀ v, v = p_nv bt f (min 4 (i + 1 - f)) → ∃ S', p_fk [14, 17] S0 S' ∧ S' 96 14 = nI (p_re p_dig bt n f) ∧ S' 96 17 = p_nv bt f (min 4 (p_re p_dig bt n f - f)) ∧ fX9_go_b222 (fX9_go_L170 (d + 1 + m)) 96 l1 v 96 (p_H K S I L T Λ) = (if l1 = 0 then (if p_re p_dig bt n f - f ≤ 4 then fX9_go_b261 96 (nI 2) 96 (p_H K S' I L T Λ) else fX9_go_b256 96 96 (p_H K S' I L T Λ)) else fX9_go_b256 96 96 (p_H K S' I L T Λ)) := fun v hv => by
      obtain ⟨S', g1, g2, g3, g4⟩ := go170 ht h0 hI hf h15 l1 d m (i + 1) (p_s (p_s S 96 17 v) 96 14 (nI (i + 1))) (by omega) (by omega) ((hfk.put (by decide) _).put (by decide) _) p_s_at (by rw [p_s_ne (by decide), p_s_at, hv])
      refine ⟨S', g1, g2, g3, ?_⟩
      unfold fX9_go_b222
      rw [gM_p17, Option.bind_some, gM_14, Option.bind_some, p_s_ne (by decide), h14, gM_p14, Option.bind_some, nI_s]
      exact g4
    rw [show d + 1 + 1 + m = (d + 1 + m) + 1 by omega]
    show ∃ S', _ ∧ _ ∧ _ ∧ fX9_go_b170 _ _ _ _ = _
    unfold fX9_go_b170
    simp only [gM_14, gM_15, gM_17, gM_12, Option.bind_some, e_on, h14, h17, q9_isFigure ht (show S 96 13 = nI n by rw [hfk.2 13 (by decide)]; exact h0) hI (show i < 2 ^ 31 by omega), hd, if_neg eb_t, hfk.2 15 (by decide), h15, p_ldI pk_105 (show i < 96 by omega) (show 96 < 2 ^ 31 by decide), hI i (by omega)]
    rw [pk_sub hfi]
    by_cases h4 : 4 ≤ i - f
    · rw [if_pos (nI_le h4 (by omega))]
      exact step _ (by rw [show min 4 (i - f) = min 4 (i + 1 - f) by omega])
    · rw [if_neg (nI_ge (by omega) (by omega))]
      refine step _ ?_
      rw [show min 4 (i + 1 - f) = min 4 (i - f) + 1 by omega]
      show nI 10 * p_nv bt f (min 4 (i - f)) + bt i - nI 48 = p_nv bt f (min 4 (i - f)) * nI 10 + bt (f + min 4 (i - f)) - nI 48
      rw [show f + min 4 (i - f) = i by omega, Int32.mul_comm]
theorem q9_go {S : Nat → Nat → Int32} {q : Nat} {e : Int32} (ht : p_tb bt n) (h0 : S 96 13 = nI n) (hI : ∀ x, x < n → I 105 x = bt x) (hq : q ≤ n) (h14 : S 96 14 = nI q) (h18 : S 96 18 = e) : ∃ S', fX9_go 96 (p_H K S I L T Λ) = some (p_H K S' I L T Λ) ∧ p_t9 bt n S' q e ∧ p_fk [14, 15, 16, 17, 18] S S' := by
  have hn := ht.1
  have g0 := go0 (K := K) (L := L) (T := T) (Λ := Λ) ht h0 hI (n - q) (199 - (n - q)) q (by omega)
  rw [← h14, p_s_id, show n - q + 1 + (199 - (n - q)) = 200 by omega] at g0
  have hle := p_skp_le (bt := bt) hq
  obtain ⟨f, hf⟩ : ∃ f, f = p_skp bt n q := ⟨_, rfl⟩
  have g0' : fX9_go_L0 200 96 (p_H K S I L T Λ) = fX9_go_b38 96 (p_H K (p_s S 96 14 (nI f)) I L T Λ) := by rw [hf]; exact g0
  unfold fX9_go p_t9
  rw [gM_o, Option.bind_some, g0', ← hf]
  rw [← hf] at hle
  unfold fX9_go_b38
  rw [gM_14, Option.bind_some, p_s_at, gM_p15, Option.bind_some, gM_15, Option.bind_some, gM_18, Option.bind_some, p_s_at, p_s_ne (show (18 : Nat) ≠ 15 by decide), p_s_ne (show (18 : Nat) ≠ 14 by decide), h18]
  obtain ⟨S1, hS1⟩ : ∃ S1, S1 = p_s (p_s S 96 14 (nI f)) 96 15 (nI f) := ⟨_, rfl⟩
  have k13 : S1 96 13 = nI n := by rw [hS1, p_s_ne (by decide), p_s_ne (by decide)]; exact h0
  have k14 : S1 96 14 = nI f := by rw [hS1, p_s_ne (by decide), p_s_at]
  have k15 : S1 96 15 = nI f := by rw [hS1, p_s_at]
  have k18 : S1 96 18 = e := by rw [hS1, p_s_ne (by decide), p_s_ne (by decide)]; exact h18
  have kf : p_fk [14, 15, 16, 17, 18] S S1 := by
    rw [hS1]
    exact ((p_fk.rf _ S).put (by decide) _).put (by decide) _
  rw [← hS1]
  have main : ∀ t0 : Int32, (t0 = 0 ↔ ¬ nI f = e) → ∃ S', fX9_go_b62 96 t0 (p_H K S1 I L T Λ) = some (p_H K S' I L T Λ) ∧ (S' 96 15 = nI f ∧ S' 96 14 = nI (p_tnx bt n f) ∧ S' 96 16 = nI (p_tkn bt n f e) ∧ (f < n → S' 96 17 = p_tvl bt n f) ∧ S' 96 18 = p_ted bt n f e) ∧ p_fk [14, 15, 16, 17, 18] S S' := by
    intro t0 ht0
    unfold fX9_go_b62
    rw [gM_15, Option.bind_some, gM_13, Option.bind_some, k15, k13]
    by_cases hfn : n ≤ f
    · rw [if_pos (by rw [show f = n by omega]), gM_p16, Option.bind_some]
      refine ⟨_, rfl, ⟨?_, ?_, ?_, fun z => absurd z (by omega), ?_⟩, kf.put (by decide) _⟩
      · rw [p_s_ne (by decide)]; exact k15
      · rw [p_s_ne (by decide), k14]
        unfold p_tnx
        rw [if_pos hfn]
      · rw [p_s_at]
        unfold p_tkn
        rw [if_pos hfn]
      · rw [p_s_ne (by decide), k18]
        unfold p_ted
        rw [if_pos hfn]
    · rw [if_neg (fun z => hfn (by have := (nI_eq (by omega) (by omega)).mp z; omega)), Option.bind_some, q9_isLetter ht k13 hI (by omega), Option.bind_some]
      obtain ⟨y, hy, ey⟩ := ht.2 f (by omega)
      have eb : p_by bt n f = bt f := if_pos (by omega)
      cases hl : p_ltr (p_by bt n f)
      · rw [if_pos eb_f, Option.bind_some, q9_isFigure ht k13 hI (by omega), Option.bind_some]
        cases hd : p_dig (p_by bt n f)
        · rw [if_pos eb_f, gM_p16, Option.bind_some]
          simp only [gM_12, gM_15, Option.bind_some, e_on, p_s_ne (show (15 : Nat) ≠ 16 by decide), k15, p_ldI pk_105 (show f < 96 by omega) (show 96 < 2 ^ 31 by decide), hI f (by omega), gM_p17, gM_14, gM_p14]
          refine ⟨_, rfl, ⟨?_, ?_, ?_, fun _ => ?_, ?_⟩, ((kf.put (by decide) _).put (by decide) _).put (by decide) _⟩
          · rw [p_s_ne (by decide), p_s_ne (by decide), p_s_ne (by decide)]; exact k15
          · rw [p_s_at, p_s_ne (by decide), p_s_ne (by decide), k14, nI_s]
            unfold p_tnx
            rw [if_neg hfn, hl, if_neg (by decide), hd, if_neg (by decide)]
          · rw [p_s_ne (by decide), p_s_ne (by decide), p_s_at]
            unfold p_tkn
            rw [if_neg hfn, hl, if_neg (by decide), hd, if_neg (by decide)]
          · rw [p_s_ne (by decide), p_s_at]
            unfold p_tvl
            rw [hd, if_neg (by decide), eb]
          · rw [p_s_ne (by decide), p_s_ne (by decide), p_s_ne (by decide), k18]
            unfold p_ted
            rw [if_neg hfn, hl, if_neg (by decide), hd, if_neg (by decide)]
        · obtain ⟨r1, r2, r3, r4⟩ := p_re_ok p_dig (bt := bt) hle.2
          rw [if_neg eb_t, gM_p17, Option.bind_some]
          obtain ⟨S2, m1, m2, m3, m4⟩ := go170 (K := K) (L := L) (T := T) (Λ := Λ) (S0 := S1) ht k13 hI hle.2 k15 t0 (p_re p_dig bt n f - f) (199 - (p_re p_dig bt n f - f)) f (p_s S1 96 17 (nI 0)) (by omega) (Nat.le_refl _) ((p_fk.rf _ _).put (by decide) _) (by rw [p_s_ne (by decide)]; exact k14) (by rw [p_s_at, Nat.sub_self]; rfl)
          rw [show p_re p_dig bt n f - f + 1 + (199 - (p_re p_dig bt n f - f)) = 200 by omega] at m4
          rw [m4]
          have kf2 : p_fk [14, 15, 16, 17, 18] S S2 := kf.tr (m1.mono (by decide))
          have fin : ∀ k : Nat, k = p_tkn bt n f e → ∃ S', fX9_go_b261 96 (nI k) 96 (p_H K S2 I L T Λ) = some (p_H K S' I L T Λ) ∧ (S' 96 15 = nI f ∧ S' 96 14 = nI (p_tnx bt n f) ∧ S' 96 16 = nI (p_tkn bt n f e) ∧ (f < n → S' 96 17 = p_tvl bt n f) ∧ S' 96 18 = p_ted bt n f e) ∧ p_fk [14, 15, 16, 17, 18] S S' := by
            intro k hk
            unfold fX9_go_b261
            rw [gM_p16, Option.bind_some, gM_14, Option.bind_some, p_s_ne (by decide), m2, gM_p18, Option.bind_some]
            refine ⟨_, rfl, ⟨?_, ?_, ?_, fun _ => ?_, ?_⟩, (kf2.put (by decide) _).put (by decide) _⟩
            · rw [p_s_ne (by decide), p_s_ne (by decide), m1.2 15 (by decide)]; exact k15
            · rw [p_s_ne (by decide), p_s_ne (by decide), m2]
              unfold p_tnx
              rw [if_neg hfn, hl, if_neg (by decide), hd, if_pos rfl]
            · rw [p_s_ne (by decide), p_s_at, hk]
            · rw [p_s_ne (by decide), p_s_ne (by decide), m3]
              unfold p_tvl
              rw [hd, if_pos rfl]
            · rw [p_s_at]
              unfold p_ted
              rw [if_neg hfn, hl, if_neg (by decide), hd, if_pos rfl]
          have ek : p_tkn bt n f e = if nI f = e ∨ f + 4 < p_re p_dig bt n f then 4 else 2 := by
            unfold p_tkn
            rw [if_neg hfn, hl, if_neg (by decide), hd, if_pos rfl]
          by_cases h0' : t0 = 0
          · have hne := ht0.mp h0'
            rw [if_pos h0']
            by_cases h4 : p_re p_dig bt n f - f ≤ 4
            · rw [if_pos h4]
              exact fin 2 (by rw [ek, if_neg (fun z => z.elim hne (fun y => by omega))])
            · rw [if_neg h4]
              exact fin 4 (by rw [ek, if_pos (Or.inr (by omega))])
          · have he : nI f = e := Classical.not_not.mp (fun z => h0' (ht0.mpr z))
            rw [if_neg h0']
            exact fin 4 (by rw [ek, if_pos (Or.inl he)])
      · rw [if_neg eb_t]
        obtain ⟨r1, r2, r3, r4⟩ := p_re_ok p_ltr (bt := bt) hle.2
        have g93 := go93 (K := K) (L := L) (T := T) (Λ := Λ) (S := S1) ht k13 hI t0 (n - f) (199 - (n - f)) f (by omega)
        rw [← k14, p_s_id, show n - f + 1 + (199 - (n - f)) = 200 by omega] at g93
        rw [g93]
        have fin : ∀ k : Nat, k = p_tkn bt n f e → ∃ S', fX9_go_b127 96 (nI k) 96 (p_H K (p_s S1 96 14 (nI (p_rn p_ltr bt (n - f) f))) I L T Λ) = some (p_H K S' I L T Λ) ∧ (S' 96 15 = nI f ∧ S' 96 14 = nI (p_tnx bt n f) ∧ S' 96 16 = nI (p_tkn bt n f e) ∧ (f < n → S' 96 17 = p_tvl bt n f) ∧ S' 96 18 = p_ted bt n f e) ∧ p_fk [14, 15, 16, 17, 18] S S' := by
          intro k hk
          unfold fX9_go_b127
          rw [gM_p16, Option.bind_some]
          simp only [gM_12, gM_15, Option.bind_some, e_on, p_s_ne (show (15 : Nat) ≠ 16 by decide), p_s_ne (show (15 : Nat) ≠ 14 by decide), k15, p_ldI pk_105 (show f < 96 by omega) (show 96 < 2 ^ 31 by decide), hI f (by omega), gM_p17, gM_14, gM_p18]
          refine ⟨_, rfl, ⟨?_, ?_, ?_, fun _ => ?_, ?_⟩, (((kf.put (by decide) _).put (by decide) _).put (by decide) _).put (by decide) _⟩
          · rw [p_s_ne (by decide), p_s_ne (by decide), p_s_ne (by decide), p_s_ne (by decide)]; exact k15
          · rw [p_s_ne (by decide), p_s_ne (by decide), p_s_ne (by decide), p_s_at]
            unfold p_tnx
            rw [if_neg hfn, hl, if_pos rfl]
            rfl
          · rw [p_s_ne (by decide), p_s_ne (by decide), p_s_at, hk]
          · rw [p_s_ne (by decide), p_s_at]
            have hd : p_dig (p_by bt n f) = false := by
              have z := of_decide_eq_true hl
              exact decide_eq_false (fun y => y.2 (Int32.lt_of_lt_of_le (show nI 57 < nI 97 by decide) (Int32.not_lt.mp z.1)))
            unfold p_tvl
            rw [hd, if_neg (by decide), eb]
          · rw [p_s_at, p_s_ne (by decide), p_s_ne (by decide), p_s_at]
            unfold p_ted
            rw [if_neg hfn, hl, if_pos rfl]
            rfl
        have ek : p_tkn bt n f e = if nI f = e then 4 else 1 := by
          unfold p_tkn
          rw [if_neg hfn, hl, if_pos rfl]
        by_cases h0' : t0 = 0
        · rw [if_pos h0']
          exact fin 1 (by rw [ek, if_neg (ht0.mp h0')])
        · rw [if_neg h0']
          exact fin 4 (by rw [ek, if_pos (Classical.not_not.mp (fun z => h0' (ht0.mpr z)))])
  by_cases he : nI f = e
  · rw [if_pos he]
    exact main _ ⟨fun z => absurd z (by decide), fun z => absurd he z⟩
  · rw [if_neg he]
    exact main _ ⟨fun _ => he, fun _ => nI_0⟩
end TOK9
