def p_dp : List Int32 → Nat
  | [] => 0
  | x :: C => if -3 ≤ x then p_dp C + 1 else if x = -33 then p_dp C else p_dp C - 1
def p_wfl : List Int32 → Prop
  | [] => True
  | x :: C => p_wfl C ∧ (if -3 ≤ x then True else if x = -33 then 1 ≤ p_dp C else 2 ≤ p_dp C)
def p_tpp (r : Nat) : List Int32 → Prop
  | [] => True
  | w :: _ => w = -11 ∨ p_rk w < r
theorem p_tpp.mono {r r' : Nat} (hr : r ≤ r') : ∀ {W : List Int32}, p_tpp r W → p_tpp r' W
  | [], _ => trivial
  | w :: W, h => by
    rcases h with h | h
    · exact Or.inl h
    · exact Or.inr (by omega)
theorem stl_fl {r : Nat} {W : List Int32} (hW : p_tpp r W) : ∀ (V D : List Int32), (∀ v, v ∈ V → v ≠ -11 ∧ r ≤ p_rk v) → p_stl r (V ++ W) D = (W, V.reverse ++ D)
  | [], D, _ => by
    show p_stl r W D = (W, D)
    cases W with
    | nil => rfl
    | cons w W =>
      unfold p_stl
      by_cases h : w = -11
      · rw [if_pos h]
      · rw [if_neg h]
        rcases hW with z | z
        · exact absurd z h
        · rw [if_pos z]
  | v :: V, D, h => by
    obtain ⟨h1, h2⟩ := h v List.mem_cons_self
    show p_stl r (v :: (V ++ W)) D = _
    unfold p_stl
    rw [if_neg h1, if_neg (by omega), stl_fl hW V (v :: D) (fun x hx => h x (List.mem_cons_of_mem _ hx))]
    simp
theorem cO_app {W : List Int32} : ∀ V : List Int32, (∀ v, v ∈ V → v ≠ -11) → p_cO (V ++ W) = p_cO W
  | [], _ => rfl
  | v :: V, h => by
    show p_cO (v :: (V ++ W)) = _
    rw [p_cO_n (h v List.mem_cons_self), cO_app V (fun x hx => h x (List.mem_cons_of_mem _ hx))]
theorem cN_app {W : List Int32} : ∀ V : List Int32, (∀ v, v ∈ V → v ≠ -10) → p_cN (V ++ W) = p_cN W
  | [], _ => rfl
  | v :: V, h => by
    show p_cN (v :: (V ++ W)) = _
    rw [p_cN_n (h v List.mem_cons_self), cN_app V (fun x hx => h x (List.mem_cons_of_mem _ hx))]
def p_en (q : Nat) (e : Int32) : Prop := ∀ m, q < m → m ≤ 96 → e ≠ nI m
theorem p_en.mono {q q' : Nat} {e : Int32} (h : p_en q e) (hq : q ≤ q') : p_en q' e := fun m h1 h2 => h m (by omega) h2
theorem p_en_nI {q : Nat} (hq : q ≤ 96) : p_en q (nI q) := fun m h1 h2 z => by
  have := (nI_eq (by omega) (by omega)).mp z
  omega
def p_ps (lv : Nat) (b : Int32) (t : Bool) : Prop := ∀ l, lv ≤ l → l ≤ 4 → p_sg (8 + l) b = true → l = 2 ∧ t = true
theorem sg_row {ky lv : Nat} (hl : lv ≤ 4) {b : Int32} (h : p_sg (8 + lv) b = true) : p_sh b ≠ nI 0 ∧ p_rk (p_sh b) = lv + 1 ∧ p_c9 (-b) = p_sh b ∧ p_okc ky (-b) ∧ ¬ (-3 : Int32) ≤ -b ∧ -b ≠ -33 ∧ 0 ≤ b := by
  rcases (show lv = 0 ∨ lv = 1 ∨ lv = 2 ∨ lv = 3 ∨ lv = 4 by omega) with rfl | rfl | rfl | rfl | rfl
  · have e : b = nI 124 := of_decide_eq_true h
    subst e
    exact ⟨by decide, by decide, by decide, by unfold p_okc; right; right; right; right; right; left; decide, by decide, by decide, by decide⟩
  · have e : b = nI 38 := of_decide_eq_true h
    subst e
    exact ⟨by decide, by decide, by decide, by unfold p_okc; right; right; right; right; right; right; left; decide, by decide, by decide, by decide⟩
  · have e : b = nI 60 ∨ b = nI 61 ∨ b = nI 62 := of_decide_eq_true h
    rcases e with rfl | rfl | rfl
    · exact ⟨by decide, by decide, by decide, by unfold p_okc; right; right; right; right; right; right; right; left; decide, by decide, by decide, by decide⟩
    · exact ⟨by decide, by decide, by decide, by unfold p_okc; right; right; right; right; right; right; right; right; left; decide, by decide, by decide, by decide⟩
    · exact ⟨by decide, by decide, by decide, by unfold p_okc; right; right; right; right; right; right; right; right; right; left; decide, by decide, by decide, by decide⟩
  · have e : b = nI 43 ∨ b = nI 45 := of_decide_eq_true h
    rcases e with rfl | rfl
    · exact ⟨by decide, by decide, by decide, by unfold p_okc; right; right; right; right; right; right; right; right; right; right; left; decide, by decide, by decide, by decide⟩
    · exact ⟨by decide, by decide, by decide, by unfold p_okc; right; right; right; right; right; right; right; right; right; right; right; left; decide, by decide, by decide, by decide⟩
  · have e : b = nI 42 ∨ b = nI 47 := of_decide_eq_true h
    rcases e with rfl | rfl
    · exact ⟨by decide, by decide, by decide, by unfold p_okc; right; right; right; right; right; right; right; right; right; right; right; right; left; decide, by decide, by decide, by decide⟩
    · exact ⟨by decide, by decide, by decide, by unfold p_okc; right; right; right; right; right; right; right; right; right; right; right; right; right; decide, by decide, by decide, by decide⟩
theorem sh_row {b : Int32} (h : p_sh b ≠ nI 0) : ∃ l, l ≤ 4 ∧ p_sg (8 + l) b = true ∧ p_rk (p_sh b) = l + 1 := by
  unfold p_sh at h ⊢
  by_cases c1 : b = nI 38
  · rw [if_pos c1, c1]; exact ⟨1, by decide, by decide, by decide⟩
  rw [if_neg c1] at h ⊢
  by_cases c2 : b = nI 42
  · rw [if_pos c2, c2]; exact ⟨4, by decide, by decide, by decide⟩
  rw [if_neg c2] at h ⊢
  by_cases c3 : b = nI 43
  · rw [if_pos c3, c3]; exact ⟨3, by decide, by decide, by decide⟩
  rw [if_neg c3] at h ⊢
  by_cases c4 : b = nI 45
  · rw [if_pos c4, c4]; exact ⟨3, by decide, by decide, by decide⟩
  rw [if_neg c4] at h ⊢
  by_cases c5 : b = nI 47
  · rw [if_pos c5, c5]; exact ⟨4, by decide, by decide, by decide⟩
  rw [if_neg c5] at h ⊢
  by_cases c6 : b = nI 60
  · rw [if_pos c6, c6]; exact ⟨2, by decide, by decide, by decide⟩
  rw [if_neg c6] at h ⊢
  by_cases c7 : b = nI 61
  · rw [if_pos c7, c7]; exact ⟨2, by decide, by decide, by decide⟩
  rw [if_neg c7] at h ⊢
  by_cases c8 : b = nI 62
  · rw [if_pos c8, c8]; exact ⟨2, by decide, by decide, by decide⟩
  rw [if_neg c8] at h ⊢
  by_cases c9 : b = nI 124
  · rw [if_pos c9, c9]; exact ⟨0, by decide, by decide, by decide⟩
  rw [if_neg c9] at h
  exact absurd rfl h
def p_prr (bt : Nat → Int32) (n lv o k at_ : Nat) (C : List Int32) (q : Nat) (e : Int32) (W D : List Int32) (τ : Nat → Bool) : Prop := q ≤ n ∧ p_skp bt n q = p_skp bt n at_ ∧ (e = nI (p_skp bt n q) → p_ltr (p_by bt n (p_skp bt n q)) = false ∧ p_dig (p_by bt n (p_skp bt n q)) = false) ∧ p_en q e ∧ p_cO W = o ∧ p_cN W = k ∧ p_tpp (lv + 1) W ∧ D = C.map p_c9 ∧ (lv ≤ 2 → τ o = false)
def p_po (bt : Nat → Int32) (n lv o at' : Nat) (C' : List Int32) (q' : Nat) (e' : Int32) (V D' : List Int32) (τ τ' : Nat → Bool) : Prop := q' ≤ n ∧ p_skp bt n q' = p_skp bt n at' ∧ p_en q' e' ∧ (∀ v, v ∈ V → v ≠ -11 ∧ v ≠ -10 ∧ lv + 1 ≤ p_rk v) ∧ V.reverse ++ D' = C'.map p_c9 ∧ (∀ i, i < o → τ' i = τ i) ∧ (3 ≤ lv → τ' o = τ o) ∧ p_ps lv (p_by bt n (p_skp bt n at')) (τ' o)
def p_cl (ky at_ : Nat) (C : List Int32) (at' : Nat) (C' : List Int32) : Prop := at_ < at' ∧ C'.length + at_ ≤ C.length + at' ∧ (p_wfl C → p_wfl C' ∧ p_dp C' = p_dp C + 1) ∧ ((∀ x, x ∈ C → p_okc ky x) → ∀ x, x ∈ C' → p_okc ky x)
def p_sim (bt : Nat → Int32) (n ky : Nat) (F : Nat → Int32 → Int32 → Int32 → e_H → Option (Bool × e_H)) (lv o k : Nat) : Prop := ∀ (K : Nat) (S I : Nat → Nat → Int32) (L : Nat → Nat → Int64) (T : Nat → Nat → Option Nat) (Λ : Nat → p_Lw) (at_ : Nat) (C : List Int32) (a : Nat), p_ts bt n ky S I at_ C a → at_ ≤ n → C.length + 4 ≤ at_ → ∃ ok S' I' at' C' a', F 57 (nI lv) (nI o) (nI k) (p_H K S I L T Λ) = some (ok, p_H K S' I' L T Λ) ∧ p_f8 S I S' I' ∧ p_ts bt n ky S' I' at' C' a' ∧ at' ≤ n ∧ (ok = true → p_cl ky at_ C at' C' ∧ (lv ≤ 4 → p_skp bt n at' = at') ∧ ∀ q e W D τ, p_prr bt n lv o k at_ C q e W D τ → ∃ q' e' V D' τ', p_to bt n ky true ((q, e), (W, D), a, τ) false ((q', e'), (V ++ W, D'), a', τ') ∧ p_po bt n lv o at' C' q' e' V D' τ τ') ∧ (ok = false → ∀ q e W D τ, p_prr bt n lv o k at_ C q e W D τ → p_no bt n ky true ((q, e), (W, D), a, τ) at')
-- between operands of a level
def p_ck (bt : Nat → Int32) (n lv o k at_ : Nat) (C : List Int32) (q : Nat) (e : Int32) (W V D : List Int32) (τ : Nat → Bool) (j : Nat) : Prop := q ≤ n ∧ p_skp bt n q = p_skp bt n at_ ∧ p_en q e ∧ p_cO W = o ∧ p_cN W = k ∧ p_tpp (lv + 1) W ∧ (∀ v, v ∈ V → v ≠ -11 ∧ v ≠ -10 ∧ lv + 1 ≤ p_rk v) ∧ V.reverse ++ D = C.map p_c9 ∧ p_ps (lv + 1) (p_by bt n (p_skp bt n at_)) (τ o) ∧ (lv = 2 → τ o = decide (j = 1))
def p_cl2 (ky at_ : Nat) (C : List Int32) (at' : Nat) (C' : List Int32) : Prop := at_ ≤ at' ∧ C'.length + at_ ≤ C.length + at' ∧ (p_wfl C → 1 ≤ p_dp C → p_wfl C' ∧ p_dp C' = p_dp C) ∧ ((∀ x, x ∈ C → p_okc ky x) → ∀ x, x ∈ C' → p_okc ky x)
theorem q_signsOf {lv : Nat} (h : lv ≤ 4) : fX5_signsOf (nI lv) = some (8 + lv) := by
  rcases (show lv = 0 ∨ lv = 1 ∨ lv = 2 ∨ lv = 3 ∨ lv = 4 by omega) with rfl | rfl | rfl | rfl | rfl <;> rfl
theorem six_row {lv : Nat} (h : lv ≤ 4) : p_six (8 + lv) := by
  unfold p_six
  omega
section LEVEL
variable {bt : Nat → Int32} {n ky : Nat}
theorem lev_go {F : Nat → Int32 → Int32 → Int32 → e_H → Option (Bool × e_H)} {lv o k : Nat} (ht : p_tb bt n) (hlv : lv ≤ 4) (ho : o ≤ 8) (hF : p_sim bt n ky F (lv + 1) o k) {most : Nat} (hmost : most = if lv = 2 then 1 else 96) : ∀ (d m j : Nat) (K : Nat) (S I : Nat → Nat → Int32) (L : Nat → Nat → Int64) (T : Nat → Nat → Option Nat) (Λ : Nat → p_Lw) (at_ : Nat) (C : List Int32) (a : Nat), j + d = most → p_ts bt n ky S I at_ C a → at_ ≤ n → C.length + 4 ≤ at_ → j + 1 ≤ at_ → (lv ≤ 3 → p_skp bt n at_ = at_) → ∃ ok S' I' at' C' a', fX5_readLevel_L42 F (d + 1 + m) 57 (nI lv) (nI o) (nI k) (nI most) (nI j) (p_H K S I L T Λ) = some (ok, p_H K S' I' L T Λ) ∧ p_f8 S I S' I' ∧ p_ts bt n ky S' I' at' C' a' ∧ at' ≤ n ∧ (ok = true → p_cl2 ky at_ C at' C' ∧ p_skp bt n at' = at' ∧ ∀ q e W V D τ, p_ck bt n lv o k at_ C q e W V D τ j → ∃ q' e' V' D' τ', p_to bt n ky false ((q, e), (V ++ W, D), a, τ) false ((q', e'), (V' ++ W, D'), a', τ') ∧ p_po bt n lv o at' C' q' e' V' D' τ τ') ∧ (ok = false → ∀ q e W V D τ, p_ck bt n lv o k at_ C q e W V D τ j → p_no bt n ky false ((q, e), (V ++ W, D), a, τ) at')
  | 0, m, j, K, S, I, L, T, Λ, at_, C, a, hj, hts, hat, hC, hj1, hsk => by
    have hn := ht.1
    have hm2 : lv = 2 := by
      by_cases z : lv = 2
      · exact z
      · rw [if_neg z] at hmost
        omega
    rw [if_pos hm2] at hmost
    have ej : j = 1 := by omega
    refine ⟨true, S, I, at_, C, a, ?_, p_f8.rf _ _, hts, hat, fun _ => ⟨⟨Nat.le_refl _, Nat.le_refl _, fun h _ => ⟨h, rfl⟩, fun h => h⟩, hsk (by omega), fun q e W V D τ hck => ?_⟩, fun z => absurd z (by decide)⟩
    · rw [show 0 + 1 + m = m + 1 by omega]
      show fX5_readLevel_b42 _ _ _ _ _ _ _ _ _ = _
      unfold fX5_readLevel_b42
      rw [if_pos (nI_le (by omega) (by omega))]
    · obtain ⟨c1, c2, c3, c4, c5, c6, c7, c8, c9, c10⟩ := hck
      refine ⟨q, e, V, D, τ, p_to.rf, c1, c2, c3, c7, c8, fun _ _ => rfl, fun _ => rfl, fun l h1 h2 h3 => ?_⟩
      by_cases z : l = lv
      · exact ⟨by omega, by rw [c10 hm2, ej]; decide⟩
      · exact c9 l (by omega) h2 h3
  | d + 1, m, j, K, S, I, L, T, Λ, at_, C, a, hj, hts, hat, hC, hj1, hsk => by
    have hn := ht.1
    have hle := p_skp_le (bt := bt) hat
    obtain ⟨f, hf⟩ : ∃ f, f = p_skp bt n at_ := ⟨_, rfl⟩
    have hfl : at_ ≤ f ∧ f ≤ n := by rw [hf]; exact hle
    have hff : p_skp bt n f = f := by rw [hf]; exact p_skp_skp hat
    have hmost96 : most ≤ 96 := by
      rw [hmost]
      split <;> omega
    have g0 := q_nextOf (S := S) (I := I) (L := L) (T := T) (K := K) (Λ := Λ) ht hts.1 hts.2.1 (six_row hlv) hat hts.2.2.1
    rw [← hf] at g0
    rw [show d + 1 + 1 + m = (d + 1 + m) + 1 by omega]
    cases hsg : p_sg (8 + lv) (p_by bt n f)
    · refine ⟨true, p_s S 57 4 (nI f), I, f, C, a, ?_, (p_f8.rf _ _).s _ _, hts.mv f, hfl.2, fun _ => ⟨⟨hfl.1, by omega, fun h _ => ⟨h, rfl⟩, fun h => h⟩, hff, fun q e W V D τ hck => ?_⟩, fun z => absurd z (by decide)⟩
      · show fX5_readLevel_b42 _ _ _ _ _ _ _ _ _ = _
        unfold fX5_readLevel_b42
        rw [if_neg (nI_ge (by omega) (by omega)), q_signsOf hlv, Option.bind_some, g0, Option.bind_some]
        unfold p_nx
        rw [hsg, if_neg (show ¬ (false = true) by decide), if_neg (show ¬ (0 : Int32) ≤ -1 by decide)]
      · obtain ⟨c1, c2, c3, c4, c5, c6, c7, c8, c9, c10⟩ := hck
        refine ⟨q, e, V, D, τ, p_to.rf, c1, by rw [c2, hff, hf], c3, c7, c8, fun _ _ => rfl, fun _ => rfl, fun l h1 h2 h3 => ?_⟩
        rw [hff] at h3
        by_cases z : l = lv
        · rw [z, hsg] at h3
          exact absurd h3 (by decide)
        · exact c9 l (by omega) h2 (by rw [← hf]; exact h3)
    · obtain ⟨x1, x2, x3, x4, x5, x6, x7⟩ := sg_row (ky := ky) hlv hsg
      obtain ⟨o1, o2, o3, o4, o5, o6, o7, y, hy, ey⟩ := sh_op x1
      have hfn : f < n := by_lt hy ey
      obtain ⟨ok, S1, I1, at1, C1, a1, r1, r2, r3, r4, r5, r6⟩ := hF K (p_s S 57 4 (nI (f + 1))) I L T Λ (f + 1) C a (hts.mv (f + 1)) (by omega) (by omega)
      -- the sign is taken on the other side
      have sign : ∀ q e W V D τ, p_ck bt n lv o k at_ C q e W V D τ j → ∃ τ2 : Nat → Bool, p_to bt n ky false ((q, e), (V ++ W, D), a, τ) true ((f + 1, e), (p_sh (p_by bt n f) :: W, C.map p_c9), a, τ2) ∧ p_prr bt n (lv + 1) o k (f + 1) C (f + 1) e (p_sh (p_by bt n f) :: W) (C.map p_c9) τ2 ∧ (∀ i, i ≠ o → τ2 i = τ i) ∧ (3 ≤ lv → τ2 o = τ o) ∧ (lv = 2 → τ2 o = true) := by
        intro q e W V D τ hck
        obtain ⟨c1, c2, c3, c4, c5, c6, c7, c8, c9, c10⟩ := hck
        have hqf : p_skp bt n q = f := by rw [c2, hf]
        have eO : p_cO (V ++ W) = o := by rw [cO_app V (fun v hv => (c7 v hv).1), c4]
        have eN : p_cN (V ++ W) = p_cN W := cN_app V (fun v hv => (c7 v hv).2.1)
        have efl : p_stl (p_rk (p_sh (p_by bt n f))) (V ++ W) D = (W, C.map p_c9) := by
          rw [x2, stl_fl c6 V D (fun v hv => ⟨(c7 v hv).1, (c7 v hv).2.2⟩), c8]
        have hst := st_sign (q := q) (e := e) (W := V ++ W) (D := D) (W1 := W) (D1 := C.map p_c9) (a := a) (τ := τ) (ky := ky) ht (by rw [hqf]; exact x1) (by
          rw [hqf, eO]
          rintro ⟨z1, z2⟩
          have l2 : lv = 2 := by omega
          have hj0 : j = 0 := by
            rw [hmost, if_pos l2] at hj
            omega
          rw [c10 l2, hj0] at z2
          exact absurd z2 (by decide)) (by rw [hqf]; exact efl) eN.symm (by rw [eO]; exact ho)
        rw [hqf, eO] at hst
        refine ⟨_, hst, ⟨by omega, rfl, fun z => ?_, c3.mono (by have := (p_skp_le (bt := bt) c1).1; omega), by rw [p_cO_n o5]; exact c4, by rw [p_cN_n o4]; exact c5, Or.inr (by omega), rfl, fun z => ?_⟩, fun i hi => if_neg hi, fun z => ?_, fun z => ?_⟩
        · have h1 := (p_skp_le (bt := bt) c1).1
          have h2 := p_skp_le (bt := bt) (show f + 1 ≤ n by omega)
          exact absurd z (c3 _ (by omega) (by omega))
        · show (if o = o then _ else _) = _
          rw [if_pos rfl, x2, decide_eq_false (show ¬ lv + 1 = 3 by omega), decide_eq_false (show ¬ 3 < lv + 1 by omega)]
          rfl
        · show (if o = o then _ else _) = _
          rw [if_pos rfl, x2, decide_eq_false (show ¬ lv + 1 = 3 by omega), decide_eq_true (show 3 < lv + 1 by omega)]
          simp
        · show (if o = o then _ else _) = _
          rw [if_pos rfl, x2, decide_eq_true (show lv + 1 = 3 by omega)]
          rfl
      have step : fX5_readLevel_L42 F ((d + 1 + m) + 1) 57 (nI lv) (nI o) (nI k) (nI most) (nI j) (p_H K S I L T Λ) = if (e_b ok) = 0 then (some (false, p_H K S1 I1 L T Λ)) else ((fX5_write 57 (-(p_by bt n f)) (p_H K S1 I1 L T Λ)).bind fun h6 => fX5_readLevel_L42 F (d + 1 + m) 57 (nI lv) (nI o) (nI k) (nI most) (nI (j + 1)) h6) := by
        show fX5_readLevel_b42 _ _ _ _ _ _ _ _ _ = _
        unfold fX5_readLevel_b42
        rw [if_neg (nI_ge (by omega) (by omega)), q_signsOf hlv, Option.bind_some, g0, Option.bind_some]
        unfold p_nx
        rw [hsg, if_pos rfl, if_pos x7, gT_4, Option.bind_some, p_s_at, nI_s, gT_p4, Option.bind_some, p_s_up, nI_s, r1, Option.bind_some, nI_s]
      have hf8 : p_f8 S I S1 I1 := ((p_f8.rf S I).s 4 _).tr r2
      cases ok with
      | false =>
        refine ⟨false, S1, I1, at1, C1, a1, ?_, hf8, r3, r4, fun z => absurd z (by decide), fun _ q e W V D τ hck => ?_⟩
        · rw [step, if_pos eb_f]
        · obtain ⟨τ2, s1, s2, -, -, -⟩ := sign q e W V D τ hck
          exact s1.no (r6 rfl _ _ _ _ _ s2)
      | true =>
        obtain ⟨⟨p1, p2, p3, p4⟩, p5, p6⟩ := r5 rfl
        have hC1 : C1.length < 96 := by omega
        obtain ⟨ok2, S2, I2, at2, C2, a2, u1, u2, u3, u4, u5, u6⟩ := lev_go ht hlv ho hF hmost d m (j + 1) K (p_s S1 57 3 (nI (C1.length + 1))) (va_up I1 59 (upd (I1 59) C1.length (-(p_by bt n f)))) L T Λ at1 (-(p_by bt n f) :: C1) a1 (by omega) (r3.wr _) r4 (by simp; omega) (by omega) (fun z => p5 (by omega))
        have comb : ∀ q e W V D τ, p_ck bt n lv o k at_ C q e W V D τ j → ∃ q1 e1 V1 D1 τ1, p_to bt n ky false ((q, e), (V ++ W, D), a, τ) false ((q1, e1), (V1 ++ W, D1), a1, τ1) ∧ p_ck bt n lv o k at1 (-(p_by bt n f) :: C1) q1 e1 W V1 D1 τ1 (j + 1) ∧ (∀ i, i < o → τ1 i = τ i) ∧ (3 ≤ lv → τ1 o = τ o) := by
          intro q e W V D τ hck
          obtain ⟨τ2, s1, s2, s3, s4, s5⟩ := sign q e W V D τ hck
          obtain ⟨q1, e1, V1, D1, τ1, v1, v2⟩ := p6 _ _ _ _ _ s2
          obtain ⟨w1, w2, w3, w4, w5, w6, w7, w8⟩ := v2
          obtain ⟨c1, c2, c3, c4, c5, c6, c7, c8, c9, c10⟩ := hck
          have ev : V1 ++ p_sh (p_by bt n f) :: W = (V1 ++ [p_sh (p_by bt n f)]) ++ W := by simp
          rw [ev] at v1
          refine ⟨q1, e1, V1 ++ [p_sh (p_by bt n f)], D1, τ1, s1.tr v1, ⟨w1, w2, w3, c4, c5, c6, fun v hv => ?_, ?_, w8, fun z => ?_⟩, fun i hi => (w6 i hi).trans (s3 i (by omega)), fun z => (w7 (by omega)).trans (s4 z)⟩
          · rcases List.mem_append.mp hv with hv | hv
            · obtain ⟨y1, y2, y3⟩ := w4 v hv
              exact ⟨y1, y2, by omega⟩
            · rw [List.mem_singleton.mp hv]
              exact ⟨o5, o4, by omega⟩
          · rw [List.reverse_append, List.append_assoc, w5]
            show p_sh (p_by bt n f) :: C1.map p_c9 = p_c9 (-(p_by bt n f)) :: C1.map p_c9
            rw [x3]
          · have hj0 : j = 0 := by
              rw [hmost, if_pos z] at hj
              omega
            rw [w7 (by omega), s5 z, hj0]
            decide
        refine ⟨ok2, S2, I2, at2, C2, a2, ?_, (hf8.tr (((p_f8.rf _ _).s _ _).i _)).tr u2, u3, u4, fun z => ?_, fun z q e W V D τ hck => ?_⟩
        · rw [step, if_neg eb_t, q_write r3 hC1, Option.bind_some]
          exact u1
        · obtain ⟨⟨y1, y2, y3, y4⟩, y5, y6⟩ := u5 z
          refine ⟨⟨by omega, by simp at y2; omega, fun hw hd => ?_, fun hx => y4 (fun x hx2 => ?_)⟩, y5, fun q e W V D τ hck => ?_⟩
          · obtain ⟨z1, z2⟩ := p3 hw
            have hd1 : p_dp (-(p_by bt n f) :: C1) = p_dp C := by
              show (if (-3 : Int32) ≤ -(p_by bt n f) then _ else if -(p_by bt n f) = -33 then _ else _) = _
              rw [if_neg x5, if_neg x6, z2]
              omega
            have hw1 : p_wfl (-(p_by bt n f) :: C1) := by
              refine ⟨z1, ?_⟩
              rw [if_neg x5, if_neg x6, z2]
              omega
            obtain ⟨z3, z4⟩ := y3 hw1 (by rw [hd1]; exact hd)
            exact ⟨z3, by rw [z4, hd1]⟩
          · rcases List.mem_cons.mp hx2 with z | z
            · rw [z]; exact x4
            · exact p4 hx x z
          · obtain ⟨q1, e1, V1, D1, τ1, s1, s2, s3, s4⟩ := comb q e W V D τ hck
            obtain ⟨q2, e2, V2, D2, τ2, v1, w1, w2, w3, w4, w5, w6, w7, w8⟩ := y6 _ _ _ _ _ _ s2
            exact ⟨q2, e2, V2, D2, τ2, s1.tr v1, w1, w2, w3, w4, w5, fun i hi => (w6 i hi).trans (s3 i hi), fun z => (w7 z).trans (s4 z), w8⟩
        · obtain ⟨q1, e1, V1, D1, τ1, s1, s2, s3, s4⟩ := comb q e W V D τ hck
          exact s1.no (u6 z _ _ _ _ _ _ s2)
theorem sim_lev {F : Nat → Int32 → Int32 → Int32 → e_H → Option (Bool × e_H)} {lv o k : Nat} (ht : p_tb bt n) (hlv : lv ≤ 4) (ho : o ≤ 8) (hF : p_sim bt n ky F (lv + 1) o k) : p_sim bt n ky (fX5_readLevel_r F) lv o k := by
  intro K S I L T Λ at_ C a hts hat hC
  have hn := ht.1
  obtain ⟨ok, S1, I1, at1, C1, a1, r1, r2, r3, r4, r5, r6⟩ := hF K S I L T Λ at_ C a hts hat hC
  have up : ∀ q e W D τ, p_prr bt n lv o k at_ C q e W D τ → p_prr bt n (lv + 1) o k at_ C q e W D τ := fun q e W D τ h => by
    obtain ⟨c1, c2, c3, c4, c5, c6, c7, c8, c9⟩ := h
    exact ⟨c1, c2, c3, c4, c5, c6, c7.mono (by omega), c8, fun z => c9 (by omega)⟩
  cases ok with
  | false =>
    refine ⟨false, S1, I1, at1, C1, a1, ?_, r2, r3, r4, fun z => absurd z (by decide), fun _ q e W D τ hp => r6 rfl _ _ _ _ _ (up _ _ _ _ _ hp)⟩
    unfold fX5_readLevel_r
    rw [if_pos (nI_lt (by omega) (by decide)), nI_s, r1, Option.bind_some, if_pos eb_f]
  | true =>
    obtain ⟨⟨p1, p2, p3, p4⟩, p5, p6⟩ := r5 rfl
    obtain ⟨most, hm⟩ : ∃ most, most = if lv = 2 then 1 else 96 := ⟨_, rfl⟩
    have hm96 : most ≤ 96 := by
      rw [hm]
      split <;> omega
    obtain ⟨ok2, S2, I2, at2, C2, a2, u1, u2, u3, u4, u5, u6⟩ := lev_go ht hlv ho hF hm most (199 - most) 0 K S1 I1 L T Λ at1 C1 a1 (by omega) r3 r4 (by omega) (by omega) (fun z => p5 (by omega))
    rw [show most + 1 + (199 - most) = 200 by omega] at u1
    have ck : ∀ q e W D τ, p_prr bt n lv o k at_ C q e W D τ → ∃ q1 e1 V1 D1 τ1, p_to bt n ky true ((q, e), (W, D), a, τ) false ((q1, e1), (V1 ++ W, D1), a1, τ1) ∧ p_ck bt n lv o k at1 C1 q1 e1 W V1 D1 τ1 0 ∧ (∀ i, i < o → τ1 i = τ i) ∧ (3 ≤ lv → τ1 o = τ o) := by
      intro q e W D τ hp
      obtain ⟨q1, e1, V1, D1, τ1, v1, w1, w2, w3, w4, w5, w6, w7, w8⟩ := p6 _ _ _ _ _ (up _ _ _ _ _ hp)
      obtain ⟨c1, c2, c3, c4, c5, c6, c7, c8, c9⟩ := hp
      refine ⟨q1, e1, V1, D1, τ1, v1, ⟨w1, w2, w3, c5, c6, c7, fun v hv => ?_, w5, w8, fun z => ?_⟩, w6, fun z => w7 (by omega)⟩
      · obtain ⟨y1, y2, y3⟩ := w4 v hv
        exact ⟨y1, y2, by omega⟩
      · rw [w7 (by omega), c9 (by omega)]
        decide
    refine ⟨ok2, S2, I2, at2, C2, a2, ?_, r2.tr u2, u3, u4, fun z => ?_, fun z q e W D τ hp => ?_⟩
    · unfold fX5_readLevel_r fX5_readLevel_b37
      rw [if_pos (nI_lt (by omega) (by decide)), nI_s, r1, Option.bind_some, if_neg eb_t]
      by_cases l2 : lv = 2
      · rw [if_pos (by rw [l2])]
        rw [if_pos l2] at hm
        rw [hm] at u1
        exact u1
      · rw [if_neg (fun z => l2 ((nI_eq (by omega) (by decide)).mp z))]
        rw [if_neg l2] at hm
        rw [hm] at u1
        exact u1
    · obtain ⟨⟨y1, y2, y3, y4⟩, y5, y6⟩ := u5 z
      refine ⟨⟨by omega, by omega, fun hw => ?_, fun hx => y4 (p4 hx)⟩, fun _ => y5, fun q e W D τ hp => ?_⟩
      · obtain ⟨z1, z2⟩ := p3 hw
        obtain ⟨z3, z4⟩ := y3 z1 (by omega)
        exact ⟨z3, by rw [z4, z2]⟩
      · obtain ⟨q1, e1, V1, D1, τ1, s1, s2, s3, s4⟩ := ck q e W D τ hp
        obtain ⟨q2, e2, V2, D2, τ2, v1, w1, w2, w3, w4, w5, w6, w7, w8⟩ := y6 _ _ _ _ _ _ s2
        exact ⟨q2, e2, V2, D2, τ2, s1.tr v1, w1, w2, w3, w4, w5, fun i hi => (w6 i hi).trans (s3 i hi), fun z => (w7 z).trans (s4 z), w8⟩
    · obtain ⟨q1, e1, V1, D1, τ1, s1, s2, s3, s4⟩ := ck q e W D τ hp
      exact s1.no (u6 z _ _ _ _ _ _ s2)
end LEVEL
