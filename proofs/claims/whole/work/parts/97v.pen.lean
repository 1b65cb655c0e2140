section PEN
variable {K : Nat} {L : Nat → Nat → Int64} {T : Nat → Nat → Option Nat} {Λ : Nat → p_Lw}
theorem pen_go {S : Nat → Nat → Int32} {tn c : Nat} (ht : tn < 14) (hc : c < 96) (h23 : S 96 23 = nI c) : ∀ (d m i : Nat) (I : Nat → Nat → Int32), i + d = c → I 97 2 = nI tn → ∃ I', fX9_text_L115 (d + 1 + m) 96 (nI tn) (nI i) (p_H K S I L T Λ) = some (nI tn, p_H K S I' L T Λ) ∧ (∀ b, b ≠ 97 → I' b = I b) ∧ I' 97 2 = nI (tn + 1) ∧ (∀ x, x ≠ 2 → (x < 127 + 96 * tn + i ∨ 127 + 96 * tn + c ≤ x) → I' 97 x = I 97 x) ∧ ∀ j, i ≤ j → j < c → I' 97 (127 + 96 * tn + j) = I 108 j
  | 0, m, i, I, hi, h2 => by
    refine ⟨va_up I 97 (upd (I 97) 2 (nI (tn + 1))), ?_, fun b hb => va_up_n hb, ?_, fun x hx _ => ?_, fun j h1 h2 => absurd h2 (by omega)⟩
    · rw [show 0 + 1 + m = m + 1 by omega]
      show fX9_text_b115 _ _ _ _ _ = _
      unfold fX9_text_b115
      simp only [gM_23, gM_0, Option.bind_some, e_on, h23, p_ldI pk_97 (show 2 < 1471 by decide) (show 1471 < 2 ^ 31 by decide), h2, nI_s, p_stI pk_97 (show 2 < 1471 by decide) (show 1471 < 2 ^ 31 by decide)]
      rw [if_pos (nI_le (by omega) (by omega))]
    · rw [va_up_s]
      simp [upd]
    · rw [va_up_s]
      simp [upd, hx]
  | d + 1, m, i, I, hi, h2 => by
    obtain ⟨I', g1, g2, g3, g4, g5⟩ := pen_go (S := S) ht hc h23 d m (i + 1) (va_up I 97 (upd (I 97) (127 + 96 * tn + i) (I 108 i))) (by omega) (by
      rw [va_up_s]
      simp only [upd]
      rw [if_neg (show ¬ 2 = 127 + 96 * tn + i by omega)]
      exact h2)
    refine ⟨I', ?_, fun b hb => (g2 b hb).trans (va_up_n hb), g3, fun x hx h => ?_, fun j h1 h2 => ?_⟩
    · rw [show d + 1 + 1 + m = (d + 1 + m) + 1 by omega]
      show fX9_text_b115 _ _ _ _ _ = _
      unfold fX9_text_b115
      simp only [gM_23, gM_0, gM_22, Option.bind_some, e_on, h23, p_ldI pk_108 (show i < 96 by omega) (show 96 < 2 ^ 31 by decide), nI_mul, nI_add, nI_s, p_stI pk_97 (show 127 + 96 * tn + i < 1471 by omega) (show 1471 < 2 ^ 31 by decide)]
      rw [if_neg (nI_ge (by omega) (by omega))]
      exact g1
    · rw [g4 x hx (by omega), va_up_s]
      simp only [upd]
      rw [if_neg (show ¬ x = 127 + 96 * tn + i by omega)]
    · by_cases e : j = i
      · rw [e, g4 _ (by omega) (by omega), va_up_s]
        simp [upd]
      · rw [g5 j (by omega) h2, va_up_n (by decide)]
theorem pen_no {S I : Nat → Nat → Int32} {p : Nat} (h15 : S 96 15 = nI p) : fX9_text_b33 96 (nI 0) (p_H K S I L T Λ) = some (-100 - nI p, p_H K (p_s S 96 13 (nI 0)) I L T Λ) := by
  unfold fX9_text_b33
  rw [gM_p13, Option.bind_some, if_pos nI_0, gM_15, Option.bind_some, p_s_ne (by decide), h15]
theorem pen_full {S I : Nat → Nat → Int32} (h2 : I 97 2 = nI 14) : fX9_text_b33 96 (nI 1) (p_H K S I L T Λ) = some (-1000000003, p_H K (p_s S 96 13 (nI 0)) I L T Λ) := by
  unfold fX9_text_b33
  rw [gM_p13, Option.bind_some, if_neg (by decide), gM_0, Option.bind_some]
  show ((o_ldI _ 97 0 _).bind _) = _
  rw [p_ldI pk_97 (show 2 < 1471 by decide) (by decide), Option.bind_some, h2, if_pos rfl]
theorem pen_new {S I : Nat → Nat → Int32} {tn c ky a : Nat} (ht : tn < 14) (hc : c < 96) (h23 : S 96 23 = nI c) (h19 : S 96 19 = nI ky) (h24 : S 96 24 = nI a) (h2 : I 97 2 = nI tn) : ∃ I', fX9_text_b33 96 (nI 1) (p_H K S I L T Λ) = some (nI tn, p_H K (p_s S 96 13 (nI 0)) I' L T Λ) ∧ (∀ b, b ≠ 97 → I' b = I b) ∧ I' 97 2 = nI (tn + 1) ∧ I' 97 (99 + 2 * tn) = nI (1000 * ky + c) ∧ I' 97 (100 + 2 * tn) = nI a ∧ (∀ x, x ≠ 2 → x ≠ 99 + 2 * tn → x ≠ 100 + 2 * tn → (x < 127 + 96 * tn ∨ 127 + 96 * tn + c ≤ x) → I' 97 x = I 97 x) ∧ ∀ j, j < c → I' 97 (127 + 96 * tn + j) = I 108 j := by
  obtain ⟨J, hJ⟩ : ∃ J, J = va_up (va_up I 97 (upd (I 97) (99 + 2 * tn) (nI (1000 * ky + c)))) 97 (upd ((va_up I 97 (upd (I 97) (99 + 2 * tn) (nI (1000 * ky + c)))) 97) (99 + 2 * tn + 1) (nI a)) := ⟨_, rfl⟩
  have j97 : ∀ x, J 97 x = if x = 99 + 2 * tn + 1 then nI a else if x = 99 + 2 * tn then nI (1000 * ky + c) else I 97 x := fun x => by
    rw [hJ, va_up_s, va_up_s]
    simp only [upd]
  have jn : ∀ b, b ≠ 97 → J b = I b := fun b hb => by rw [hJ, va_up_n hb, va_up_n hb]
  obtain ⟨I', g1, g2, g3, g4, g5⟩ := pen_go (K := K) (L := L) (T := T) (Λ := Λ) (S := p_s S 96 13 (nI 0)) ht hc (by rw [p_s_ne (by decide)]; exact h23) c (199 - c) 0 J (by omega) (by
    rw [j97, if_neg (by omega), if_neg (by omega)]
    exact h2)
  rw [show c + 1 + (199 - c) = 200 by omega] at g1
  refine ⟨I', ?_, fun b hb => (g2 b hb).trans (jn b hb), g3, ?_, ?_, fun x x1 x2 x3 x4 => ?_, fun j hj => ?_⟩
  · unfold fX9_text_b33
    rw [gM_p13, Option.bind_some, if_neg (by decide), gM_0, Option.bind_some]
    show ((o_ldI _ 97 0 _).bind _) = _
    rw [p_ldI pk_97 (show 2 < 1471 by decide) (by decide), Option.bind_some, h2, if_neg (fun z => by have := (nI_eq (show tn < 2 ^ 31 by omega) (by decide)).mp z; omega)]
    simp only [gM_0, gM_19, gM_23, gM_24, Option.bind_some, e_on, p_ldI pk_97 (show 2 < 1471 by decide) (show 1471 < 2 ^ 31 by decide), h2, p_s_ne (show (19 : Nat) ≠ 13 by decide), p_s_ne (show (23 : Nat) ≠ 13 by decide), p_s_ne (show (24 : Nat) ≠ 13 by decide), h19, h23, h24, nI_mul, nI_add, nI_s, p_stI pk_97 (show 99 + 2 * tn < 1471 by omega) (show 1471 < 2 ^ 31 by decide), p_stI pk_97 (show 99 + 2 * tn + 1 < 1471 by omega) (show 1471 < 2 ^ 31 by decide)]
    rw [← hJ]
    exact g1
  · rw [g4 _ (by omega) (by omega), j97, if_neg (by omega), if_pos rfl]
  · rw [g4 _ (by omega) (by omega), j97, if_pos (by omega)]
  · rw [g4 x x1 (by omega), j97, if_neg (by omega), if_neg x2]
  · rw [g5 j (Nat.zero_le _) hj, jn 108 (by decide)]
end PEN
