def p_ts (bt : Nat → Int32) (n ky : Nat) (S I : Nat → Nat → Int32) (at_ : Nat) (C : List Int32) (a : Nat) : Prop := S 57 0 = nI n ∧ (∀ x, x < n → I 58 x = bt x) ∧ S 57 4 = nI at_ ∧ S 57 3 = nI C.length ∧ p_sk (I 59) C ∧ S 57 6 = nI a ∧ S 57 5 = nI ky
theorem p_ts.mv {bt : Nat → Int32} {n ky : Nat} {S I : Nat → Nat → Int32} {at_ : Nat} {C : List Int32} {a : Nat} (h : p_ts bt n ky S I at_ C a) (q : Nat) : p_ts bt n ky (p_s S 57 4 (nI q)) I q C a := by
  obtain ⟨h1, h2, h3, h4, h5, h6, h7⟩ := h
  exact ⟨by rw [p_s_ne (by decide)]; exact h1, h2, p_s_at, by rw [p_s_ne (by decide)]; exact h4, h5, by rw [p_s_ne (by decide)]; exact h6, by rw [p_s_ne (by decide)]; exact h7⟩
theorem p_ts.lf {bt : Nat → Int32} {n ky : Nat} {S I : Nat → Nat → Int32} {at_ : Nat} {C : List Int32} {a : Nat} (h : p_ts bt n ky S I at_ C a) : p_ts bt n ky (p_s S 57 6 (nI (a + 1))) I at_ C (a + 1) := by
  obtain ⟨h1, h2, h3, h4, h5, h6, h7⟩ := h
  exact ⟨by rw [p_s_ne (by decide)]; exact h1, h2, by rw [p_s_ne (by decide)]; exact h3, by rw [p_s_ne (by decide)]; exact h4, h5, p_s_at, by rw [p_s_ne (by decide)]; exact h7⟩
theorem p_ts.wr {bt : Nat → Int32} {n ky : Nat} {S I : Nat → Nat → Int32} {at_ : Nat} {C : List Int32} {a : Nat} (h : p_ts bt n ky S I at_ C a) (x : Int32) : p_ts bt n ky (p_s S 57 3 (nI (C.length + 1))) (va_up I 59 (upd (I 59) C.length x)) at_ (x :: C) a := by
  obtain ⟨h1, h2, h3, h4, h5, h6, h7⟩ := h
  exact ⟨by rw [p_s_ne (by decide)]; exact h1, by rw [va_up_n (by decide)]; exact h2, by rw [p_s_ne (by decide)]; exact h3, by rw [p_s_at]; rfl, by rw [va_up_s]; exact h5.push x, by rw [p_s_ne (by decide)]; exact h6, by rw [p_s_ne (by decide)]; exact h7⟩
def p_f8 (S I S' I' : Nat → Nat → Int32) : Prop := (∀ a, a ≠ 57 → S' a = S a) ∧ ∀ a, a ≠ 59 → I' a = I a
theorem p_f8.rf (S I : Nat → Nat → Int32) : p_f8 S I S I := ⟨fun _ _ => rfl, fun _ _ => rfl⟩
theorem p_f8.tr {S I S' I' S'' I'' : Nat → Nat → Int32} (h : p_f8 S I S' I') (h' : p_f8 S' I' S'' I'') : p_f8 S I S'' I'' := ⟨fun a ha => (h'.1 a ha).trans (h.1 a ha), fun a ha => (h'.2 a ha).trans (h.2 a ha)⟩
theorem p_f8.s {S I S' I' : Nat → Nat → Int32} (h : p_f8 S I S' I') (k : Nat) (x : Int32) : p_f8 S I (p_s S' 57 k x) I' := ⟨fun a ha => (p_s_n ha).trans (h.1 a ha), h.2⟩
theorem p_f8.i {S I S' I' : Nat → Nat → Int32} (h : p_f8 S I S' I') (f : Nat → Int32) : p_f8 S I S' (va_up I' 59 f) := ⟨h.1, fun a ha => (va_up_n ha).trans (h.2 a ha)⟩
section TAPE8
variable {K : Nat} {S I : Nat → Nat → Int32} {L : Nat → Nat → Int64} {T : Nat → Nat → Option Nat} {Λ : Nat → p_Lw}
variable {bt : Nat → Int32} {n : Nat}
theorem q_byteAt (ht : p_tb bt n) (h0 : S 57 0 = nI n) (hI : ∀ x, x < n → I 58 x = bt x) {i : Nat} (hi : i < 2 ^ 31) : fX5_byteAt 57 (nI i) (p_H K S I L T Λ) = some (p_by bt n i) := by
  have hn := ht.1
  unfold fX5_byteAt p_by
  simp only [gT_o, gT_0, gT_1, Option.bind_some, e_on, p_lenI pk_58, h0]
  rw [if_neg (nI_pos hi)]
  by_cases h : i < n
  · rw [if_neg (nI_ge h (by omega)), if_pos (nI_lt (by omega) (by decide)), p_ldI pk_58 (by omega) (by decide), Option.bind_some, hI i h, if_pos h]
  · rw [if_pos (nI_le (by omega) hi), if_neg h]
theorem skip_go (ht : p_tb bt n) (h0 : S 57 0 = nI n) (hI : ∀ x, x < n → I 58 x = bt x) : ∀ (d m j i : Nat), i + d = n → j + d ≤ 96 → fX5_skipBlanks_L2 (d + 1 + m) 57 (nI j) (p_H K (p_s S 57 4 (nI i)) I L T Λ) = some (p_H K (p_s S 57 4 (nI (p_rn p_blk bt d i))) I L T Λ)
  | 0, m, j, i, hi, hj => by
    have h0' : p_s S 57 4 (nI i) 57 0 = nI n := by rw [p_s_ne (by decide)]; exact h0
    have hn := ht.1
    rw [show 0 + 1 + m = m + 1 by omega]
    show fX5_skipBlanks_b2 _ _ _ _ = _
    unfold fX5_skipBlanks_b2
    by_cases h : 96 ≤ j
    · rw [if_pos (nI_le h (by omega))]; rfl
    · rw [if_neg (nI_ge (by omega) (by omega)), gT_4, Option.bind_some, p_s_at, q_byteAt ht h0' hI (by omega), Option.bind_some]
      unfold p_by
      rw [if_neg (show ¬ i < n by omega), if_neg (by decide)]
      rfl
  | d + 1, m, j, i, hi, hj => by
    have h0' : p_s S 57 4 (nI i) 57 0 = nI n := by rw [p_s_ne (by decide)]; exact h0
    have hn := ht.1
    rw [show d + 1 + 1 + m = (d + 1 + m) + 1 by omega]
    show fX5_skipBlanks_b2 _ _ _ _ = _
    unfold fX5_skipBlanks_b2
    rw [if_neg (nI_ge (by omega) (by omega)), gT_4, Option.bind_some, p_s_at, q_byteAt ht h0' hI (by omega), Option.bind_some]
    have eb : p_by bt n i = bt i := by
      unfold p_by
      rw [if_pos (by omega)]
    rw [eb]
    show _ = some (p_H K (p_s S 57 4 (nI (if p_blk (bt i) then p_rn p_blk bt d (i + 1) else i))) I L T Λ)
    by_cases h : bt i = nI 32
    · rw [if_pos h, if_pos (show p_blk (bt i) = true from decide_eq_true h), Option.bind_some, gT_p4, Option.bind_some, p_s_up, nI_s, nI_s]
      exact skip_go ht h0 hI d m (j + 1) (i + 1) (by omega) (by omega)
    · rw [if_neg h, if_neg (by rw [show p_blk (bt i) = false from decide_eq_false h]; decide)]
theorem q_skip (ht : p_tb bt n) (h0 : S 57 0 = nI n) (hI : ∀ x, x < n → I 58 x = bt x) {i : Nat} (hi : i ≤ n) (h4 : S 57 4 = nI i) : fX5_skipBlanks 57 (p_H K S I L T Λ) = some (p_H K (p_s S 57 4 (nI (p_skp bt n i))) I L T Λ) := by
  have hn := ht.1
  have g := skip_go (S := S) (I := I) (L := L) (T := T) (K := K) (Λ := Λ) ht h0 hI (n - i) (199 - (n - i)) 0 i (by omega) (by omega)
  rw [← h4, p_s_id, show n - i + 1 + (199 - (n - i)) = 200 by omega] at g
  unfold fX5_skipBlanks
  rw [gT_o, Option.bind_some]
  exact g
def p_nx (s : Nat) (b : Int32) : Int32 := if p_sg s b then b else -1
theorem q_nextOf (ht : p_tb bt n) (h0 : S 57 0 = nI n) (hI : ∀ x, x < n → I 58 x = bt x) {i s : Nat} (hs : p_six s) (hi : i ≤ n) (h4 : S 57 4 = nI i) : fX5_nextOf 57 s (p_H K S I L T Λ) = some (p_nx s (p_by bt n (p_skp bt n i)), p_H K (p_s S 57 4 (nI (p_skp bt n i))) I L T Λ) := by
  have hn := ht.1
  have h0' : p_s S 57 4 (nI (p_skp bt n i)) 57 0 = nI n := by rw [p_s_ne (by decide)]; exact h0
  have hle := p_skp_le (bt := bt) hi
  unfold fX5_nextOf p_nx
  rw [gT_o, Option.bind_some, q_skip ht h0 hI hi h4, Option.bind_some, gT_4, Option.bind_some, p_s_at, q_byteAt ht h0' hI (by omega), Option.bind_some]
  rcases p_by_or ht (p_skp bt n i) with ⟨-, e⟩ | ⟨-, y, hy, e, -⟩
  · rw [e, if_pos (by decide), sg_m1]
    rfl
  · rw [e, if_neg (nI_pos (by omega))]
    obtain ⟨v, h1, h2⟩ := sg_ix hs y hy
    rw [h1, Option.bind_some]
    cases hb : p_sg s (nI y)
    · rw [if_pos (Classical.not_not.mp (fun z => by rw [hb] at h2; exact absurd (h2.mpr z) (by decide)))]
      rfl
    · rw [if_neg (h2.mp hb)]
      rfl
theorem q_isDigit (b : Int32) : fX5_isDigit b = some (p_dig b) := by
  unfold fX5_isDigit p_dig
  by_cases h : b < nI 48
  · rw [if_pos h]; simp [h]
  · rw [if_neg h]
    by_cases h2 : nI 57 < b
    · rw [if_pos h2]; simp [h, h2]
    · rw [if_neg h2]; simp [h, h2]
theorem q_isLetter (b : Int32) : fX5_isLetter b = some (p_ltr b) := by
  unfold fX5_isLetter p_ltr
  by_cases h : b < nI 97
  · rw [if_pos h]; simp [h]
  · rw [if_neg h]
    by_cases h2 : nI 122 < b
    · rw [if_pos h2]; simp [h, h2]
    · rw [if_neg h2]; simp [h, h2]
theorem q_write {ky at_ a : Nat} {C : List Int32} (h : p_ts bt n ky S I at_ C a) (hC : C.length < 96) (x : Int32) : fX5_write 57 x (p_H K S I L T Λ) = some (p_H K (p_s S 57 3 (nI (C.length + 1))) (va_up I 59 (upd (I 59) C.length x)) L T Λ) := by
  unfold fX5_write
  simp only [gT_o, gT_3, gT_2, gT_p3, Option.bind_some, e_on, h.2.2.2.1, p_lenI pk_59, p_stI pk_59 hC (show 96 < 2 ^ 31 by decide), nI_s]
  rw [if_neg (nI_pos (by omega)), if_neg (nI_ge hC (by decide))]
-- numbers
theorem num_go (ht : p_tb bt n) {ky at_ a : Nat} {C : List Int32} (h : p_ts bt n ky S I at_ C a) (ha : at_ ≤ n) (hC : C.length < 96) : ∀ (d m j : Nat), j + d = 5 → at_ + j ≤ p_re p_dig bt n at_ → fX5_readNumber_L4 (d + 1 + m) 57 (p_nv bt at_ j) (nI j) (p_H K S I L T Λ) = if p_re p_dig bt n at_ ≤ at_ + 4 then some (true, p_H K (p_s (p_s (p_s S 57 4 (nI (p_re p_dig bt n at_))) 57 6 (nI (a + 1))) 57 3 (nI (C.length + 1))) (va_up I 59 (upd (I 59) C.length (p_nv bt at_ (p_re p_dig bt n at_ - at_)))) L T Λ) else some (false, p_H K S I L T Λ)
  | 0, m, j, hj, hr => by
    have ej : j = 5 := by omega
    subst ej
    rw [show 0 + 1 + m = m + 1 by omega, if_neg (by omega)]
    show fX5_readNumber_b4 _ _ _ _ _ = _
    unfold fX5_readNumber_b4 fX5_readNumber_b50
    rw [if_pos (by decide), if_neg (by decide)]
  | d + 1, m, j, hj, hr => by
    obtain ⟨r1, r2, r3, r4⟩ := p_re_ok p_dig (bt := bt) ha
    have hn := ht.1
    rw [show d + 1 + 1 + m = (d + 1 + m) + 1 by omega]
    show fX5_readNumber_b4 _ _ _ _ _ = _
    unfold fX5_readNumber_b4
    rw [if_neg (nI_nlt (by omega) (by omega)), gT_4, Option.bind_some, h.2.2.1, nI_add, q_byteAt ht h.1 h.2.1 (by omega), Option.bind_some, q_isDigit, Option.bind_some]
    by_cases e : at_ + j = p_re p_dig bt n at_
    · have hd : p_dig (p_by bt n (at_ + j)) = false := by
        rw [e]
        exact r4 (by decide)
      rw [hd, if_pos eb_f, if_pos (by omega)]
      unfold fX5_readNumber_b50
      rw [if_pos (nI_le (by omega) (by decide)), gT_4, Option.bind_some, h.2.2.1, nI_add, gT_p4, Option.bind_some, gT_6, Option.bind_some, p_s_ne (show (6 : Nat) ≠ 4 by decide), h.2.2.2.2.2.1, gT_p6, Option.bind_some, nI_s, e, q_write ((h.mv (p_re p_dig bt n at_)).lf) hC, Option.bind_some, show p_re p_dig bt n at_ - at_ = j by omega]
    · have hlt : at_ + j < p_re p_dig bt n at_ := by omega
      have hd : p_dig (p_by bt n (at_ + j)) = true := r3 _ (by omega) hlt
      rw [hd, if_neg eb_t, Option.bind_some, nI_add, q_byteAt ht h.1 h.2.1 (by omega), Option.bind_some, nI_s]
      have eb : p_by bt n (at_ + j) = bt (at_ + j) := by
        unfold p_by
        rw [if_pos (by omega)]
      rw [eb]
      exact num_go ht h ha hC d m (j + 1) (by omega) (by omega)
theorem q_readNumber (ht : p_tb bt n) {ky at_ a : Nat} {C : List Int32} (h : p_ts bt n ky S I at_ C a) (ha : at_ ≤ n) (hC : C.length < 96) : fX5_readNumber 57 (p_H K S I L T Λ) = if p_re p_dig bt n at_ ≤ at_ + 4 then some (true, p_H K (p_s (p_s (p_s S 57 4 (nI (p_re p_dig bt n at_))) 57 6 (nI (a + 1))) 57 3 (nI (C.length + 1))) (va_up I 59 (upd (I 59) C.length (p_nv bt at_ (p_re p_dig bt n at_ - at_)))) L T Λ) else some (false, p_H K S I L T Λ) := by
  unfold fX5_readNumber
  rw [gT_o, Option.bind_some]
  exact num_go ht h ha hC 5 194 0 (by omega) (p_re_ok p_dig ha).1
theorem q_readName (ht : p_tb bt n) {ky at_ a : Nat} {C : List Int32} (h : p_ts bt n ky S I at_ C a) (hk : ky ≤ 2) (ha : at_ < n) (hC : C.length < 96) : fX5_readName 57 (p_H K S I L T Λ) = if p_nm ky (bt at_) < 0 then some (false, p_H K S I L T Λ) else if p_ltr (p_by bt n (at_ + 1)) then some (false, p_H K S I L T Λ) else some (true, p_H K (p_s (p_s (p_s S 57 4 (nI (at_ + 1))) 57 6 (nI (a + 1))) 57 3 (nI (C.length + 1))) (va_up I 59 (upd (I 59) C.length (-1 - p_nm ky (bt at_)))) L T Λ) := by
  have hn := ht.1
  obtain ⟨y, hy, ey⟩ := ht.2 at_ ha
  have eb : p_by bt n at_ = nI y := by
    unfold p_by
    rw [if_pos ha, ey]
  have key : fX5_readName_b27 57 (4 + ky) (p_H K S I L T Λ) = if p_nm ky (bt at_) < 0 then some (false, p_H K S I L T Λ) else if p_ltr (p_by bt n (at_ + 1)) then some (false, p_H K S I L T Λ) else some (true, p_H K (p_s (p_s (p_s S 57 4 (nI (at_ + 1))) 57 6 (nI (a + 1))) 57 3 (nI (C.length + 1))) (va_up I 59 (upd (I 59) C.length (-1 - p_nm ky (bt at_)))) L T Λ) := by
    unfold fX5_readName_b27
    rw [gT_4, Option.bind_some, h.2.2.1, q_byteAt ht h.1 h.2.1 (by omega), Option.bind_some, eb, nm_ix hk y hy, Option.bind_some, ey]
    by_cases h1 : p_nm ky (nI y) < 0
    · rw [if_pos h1, if_pos h1]
    · rw [if_neg h1, if_neg h1, Option.bind_some, nI_add, q_byteAt ht h.1 h.2.1 (by omega), Option.bind_some, q_isLetter, Option.bind_some]
      cases h2 : p_ltr (p_by bt n (at_ + 1))
      · rw [if_pos eb_f, if_neg (by decide), Option.bind_some, nI_s, gT_p4, Option.bind_some, gT_6, Option.bind_some, p_s_ne (show (6 : Nat) ≠ 4 by decide), h.2.2.2.2.2.1, gT_p6, Option.bind_some, nI_s, q_write ((h.mv (at_ + 1)).lf) hC, Option.bind_some]
      · rw [if_neg eb_t, if_pos rfl]
  unfold fX5_readName
  rw [gT_o, Option.bind_some, gT_5, Option.bind_some, h.2.2.2.2.2.2]
  rcases (show ky = 0 ∨ ky = 1 ∨ ky = 2 by omega) with rfl | rfl | rfl
  · rw [if_pos nI_0]
    exact key
  · rw [if_neg (by decide), Option.bind_some, if_pos rfl]
    exact key
  · rw [if_neg (by decide), Option.bind_some, if_neg (by decide)]
    exact key
end TAPE8
