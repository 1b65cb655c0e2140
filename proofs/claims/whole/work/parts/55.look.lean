def p_fr {α : Type} (A : List Nat) (I I' : Nat → α) : Prop := ∀ b, b ∉ A → I' b = I b
theorem p_fr.rf {α : Type} (A : List Nat) (I : Nat → α) : p_fr A I I := fun _ _ => rfl
theorem p_fr.tr {α : Type} {A : List Nat} {I J J' : Nat → α} (h : p_fr A I J) (h' : p_fr A J J') : p_fr A I J' := fun b hb => (h' b hb).trans (h b hb)
theorem p_fr.up {α : Type} {A : List Nat} {I J : Nat → α} (h : p_fr A I J) {k : Nat} (hk : k ∈ A) (v : α) : p_fr A I (va_up J k v) := fun b hb => by
  rw [va_up_n (fun z => hb (by rw [z]; exact hk))]
  exact h b hb
theorem p_fr.mono {α : Type} {A B : List Nat} {I J : Nat → α} (h : p_fr A I J) (hA : ∀ a ∈ A, a ∈ B) : p_fr B I J := fun b hb => h b (fun z => hb (hA b z))
theorem p_ixn_inj {i j k l : Nat} (h : i + j ≤ 4) (h' : k + l ≤ 4) (e : p_ixn i j = p_ixn k l) : i = k ∧ j = l := by
  rcases (show i = 0 ∨ i = 1 ∨ i = 2 ∨ i = 3 ∨ i = 4 by omega) with rfl | rfl | rfl | rfl | rfl <;> rcases (show k = 0 ∨ k = 1 ∨ k = 2 ∨ k = 3 ∨ k = 4 by omega) with rfl | rfl | rfl | rfl | rfl <;> simp [p_ixn] at e ⊢ <;> omega
-- TERM of i, j of a curve of kind kd with numbers f, by g
def p_tv (kd : Int32) (f : Nat → Int32) (g : Int32 → Int32 → Int32 → Int32) (i j : Nat) : Int32 := if p_under kd (nI 1) then p_fac kd (nI i) (nI j) * p_held (g (nI j) (nI i) (f (p_ixn j i))) else p_fac kd (nI i) (nI j) * p_held (g (nI i) (nI j) (f (p_ixn i j)))
def p_tg (Λ : Nat → p_Lw) (lw : Nat → Nat) (n : Nat) (a b c : Int32) : Int32 := p_lg Λ lw n (nI 0) a b c c
section LOOK
variable {K : Nat} {S I : Nat → Nat → Int32} {L : Nat → Nat → Int64} {T : Nat → Nat → Option Nat} {Λ : Nat → p_Lw}
theorem q_termAt {w a n : Nat} {lw : Nat → Nat} (hw : p_isW w) (hl : p_laws T K w n lw) (h1 : S w 1 = nI n) (hf : p_lwf Λ lw n) (hc : p_isC a) {i j : Nat} (hij : i + j ≤ 4) : ∃ st', fX7_termAt w a (nI i) (nI j) (p_H K S I L T Λ) = some (p_tv (S a 0) (I (a + 1)) (p_tg Λ lw n) i j, (p_H K S (va_up I (w + 3) st') L T Λ)) := by
  unfold fX7_termAt fX7_termAt_b17 fX7_termAt_b29
  simp only [gW_o hw, q_isOf hc, Option.bind_some, e_on, q_factor hc]
  cases hu : p_under (S a 0) (nI 1)
  · obtain ⟨st', h⟩ := q_lawGives (S := S) (I := I) (L := L) hw hl h1 hf (nI 0) (nI i) (nI j) (I (a + 1) (p_ixn i j)) (I (a + 1) (p_ixn i j))
    refine ⟨st', ?_⟩
    simp only [e_b, if_true, q_number hc hij, Option.bind_some, h, q_held, p_tv, hu, p_tg]
    rfl
  · obtain ⟨st', h⟩ := q_lawGives (S := S) (I := I) (L := L) hw hl h1 hf (nI 0) (nI j) (nI i) (I (a + 1) (p_ixn j i)) (I (a + 1) (p_ixn j i))
    refine ⟨st', ?_⟩
    have hji : j + i ≤ 4 := by omega
    simp only [e_b, if_true, show ¬ ((1 : Int32) = 0) by decide, if_false, q_number hc hji, Option.bind_some, h, q_held, p_tv, hu, p_tg]
theorem q_setTerm {v w k : Nat} (hv : p_isV v w) (hk : k < 15) (x : Int32) : fX6_setTerm v (nI k) x (p_H K S I L T Λ) = some (p_H K S (va_up I (v + 1) (upd (I (v + 1)) k x)) L T Λ) := by
  unfold fX6_setTerm
  simp only [gV_o hv, gV_0 hv, gV_1 hv, gV_2 hv, gV_3 hv, gV_4 hv, gV_5 hv, gV_6 hv, gV_7 hv, gV_8 hv, gV_p0 hv, gV_p1 hv, gV_p2 hv, p_lenI (pk_v1 hv), p_lenI (pk_v2 hv), p_lenI (pk_v3 hv), p_lenF (pk_v4 hv), p_lenL (pk_v5 hv), Option.bind_some, e_on, p_stI (pk_v1 hv) hk (by decide)]
  rw [if_neg (nI_pos (by omega)), if_neg (nI_ge hk (by decide))]
def p_done (i j k l : Nat) : Prop := k < i ∨ (k = i ∧ l < j)
theorem look_in {v w a n : Nat} {lw : Nat → Nat} (hv : p_isV v w) (hl : p_laws T K w n lw) (h1 : S w 1 = nI n) (hf : p_lwf Λ lw n) (hc : p_isC a) (ha1 : a + 1 ≠ w + 3) (ha2 : a + 1 ≠ v + 1) (k2 : Nat → Nat → Int32 → e_H → Option e_H) {i : Nat} (hi : i ≤ 4) : ∀ (d m j : Nat) (I1 : Nat → Nat → Int32), j + d = 5 - i → p_fr [w + 3, v + 1] I I1 → (∀ k l, k + l ≤ 4 → p_done i j k l → I1 (v + 1) (p_ixn k l) = p_tv (S a 0) (I (a + 1)) (p_tg Λ lw n) k l) →
    ∃ I2, fX6_look_L9 k2 (d + 1 + m) v a (nI i) (nI j) (p_H K S (I1) L T Λ) = k2 v a (nI (i + 1)) (p_H K S (I2) L T Λ) ∧ p_fr [w + 3, v + 1] I I2 ∧ ∀ k l, k + l ≤ 4 → p_done (i + 1) 0 k l → I2 (v + 1) (p_ixn k l) = p_tv (S a 0) (I (a + 1)) (p_tg Λ lw n) k l
  | 0, m, j, I1, hj, hfr, hd => by
    refine ⟨I1, ?_, hfr, fun k l hkl h => hd k l hkl ?_⟩
    · rw [show 0 + 1 + m = m + 1 by omega]
      show fX6_look_b9 _ _ _ _ _ _ _ = _
      unfold fX6_look_b9
      rw [pk_sub (show i ≤ 4 by omega), if_pos (nI_lt (by omega) (by omega)), nI_s]
    · unfold p_done at h ⊢; omega
  | d + 1, m, j, I1, hj, hfr, hd => by
    have hij : i + j ≤ 4 := by omega
    obtain ⟨st', ht⟩ := q_termAt (S := S) (I := I1) (L := L) (T := T) hv.w hl h1 hf hc hij
    have hwv : w + 3 ≠ v + 1 := by rcases hv with ⟨rfl, rfl⟩ | ⟨rfl, rfl⟩ <;> omega
    have e1 : I1 (a + 1) = I (a + 1) := hfr _ (by simp; omega)
    rw [e1] at ht
    obtain ⟨I2, g1, g2, g3⟩ := look_in hv hl h1 hf hc ha1 ha2 k2 hi d m (j + 1) (va_up (va_up I1 (w + 3) st') (v + 1) (upd ((va_up I1 (w + 3) st') (v + 1)) (p_ixn i j) (p_tv (S a 0) (I (a + 1)) (p_tg Λ lw n) i j))) (by omega) ((hfr.up (by simp) _).up (by simp) _) (fun k l hkl h => by
      rw [va_up_s, va_up_n (Ne.symm hwv)]
      simp only [upd]
      by_cases e : p_ixn k l = p_ixn i j
      · obtain ⟨rfl, rfl⟩ := p_ixn_inj hkl hij e
        rw [if_pos rfl]
      · rw [if_neg e]
        refine hd k l hkl ?_
        unfold p_done at h ⊢
        by_cases e2 : k = i ∧ l = j
        · exact absurd (by rw [e2.1, e2.2]) e
        · omega)
    refine ⟨I2, ?_, g2, g3⟩
    rw [show d + 1 + 1 + m = (d + 1 + m) + 1 by omega]
    show fX6_look_b9 _ _ _ _ _ _ _ = _
    unfold fX6_look_b9
    rw [pk_sub (show i ≤ 4 by omega), if_neg (nI_nlt (by omega) (by omega)), q_indexOf hij, Option.bind_some]
    simp only [gV_o hv, gV_0 hv, gV_1 hv, gV_2 hv, gV_3 hv, gV_4 hv, gV_5 hv, gV_6 hv, gV_7 hv, gV_8 hv, gV_p0 hv, gV_p1 hv, gV_p2 hv, p_lenI (pk_v1 hv), p_lenI (pk_v2 hv), p_lenI (pk_v3 hv), p_lenF (pk_v4 hv), p_lenL (pk_v5 hv), Option.bind_some, e_on, ht, q_setTerm hv (p_ixn_lt hij)]
    rw [nI_s]
    exact g1
theorem look_out {v w a n : Nat} {lw : Nat → Nat} (hv : p_isV v w) (hl : p_laws T K w n lw) (h1 : S w 1 = nI n) (hf : p_lwf Λ lw n) (hc : p_isC a) (ha1 : a + 1 ≠ w + 3) (ha2 : a + 1 ≠ v + 1) : ∀ (d m i : Nat) (I1 : Nat → Nat → Int32), i + d = 5 → p_fr [w + 3, v + 1] I I1 → (∀ k l, k + l ≤ 4 → p_done i 0 k l → I1 (v + 1) (p_ixn k l) = p_tv (S a 0) (I (a + 1)) (p_tg Λ lw n) k l) →
    ∃ I2, fX6_look_L2 (d + 1 + m) v a (nI i) (p_H K S (I1) L T Λ) = some (p_H K S (I2) L T Λ) ∧ p_fr [w + 3, v + 1] I I2 ∧ ∀ k l, k + l ≤ 4 → I2 (v + 1) (p_ixn k l) = p_tv (S a 0) (I (a + 1)) (p_tg Λ lw n) k l
  | 0, m, i, I1, hi, hfr, hd => by
    refine ⟨I1, ?_, hfr, fun k l hkl => hd k l hkl ?_⟩
    · rw [show 0 + 1 + m = m + 1 by omega]
      show fX6_look_b2 _ _ _ _ _ = _
      unfold fX6_look_b2
      rw [if_pos (nI_lt (by omega) (by omega))]
    · unfold p_done; omega
  | d + 1, m, i, I1, hi, hfr, hd => by
    rw [show d + 1 + 1 + m = (d + 1 + m) + 1 by omega]
    obtain ⟨I2, g1, g2, g3⟩ := look_in (L := L) hv hl h1 hf hc ha1 ha2 (fX6_look_L2 (d + 1 + m)) (show i ≤ 4 by omega) (5 - i) (199 - (5 - i)) 0 I1 (by omega) hfr hd
    obtain ⟨I3, k1, k2, k3⟩ := look_out hv hl h1 hf hc ha1 ha2 d m (i + 1) I2 (by omega) g2 g3
    refine ⟨I3, ?_, k2, k3⟩
    show fX6_look_b2 _ _ _ _ _ = _
    unfold fX6_look_b2
    rw [if_neg (nI_nlt (by omega) (by omega)), ← k1, ← g1, show 5 - i + 1 + (199 - (5 - i)) = 200 by omega]
theorem q_look {v w a n : Nat} {lw : Nat → Nat} (hv : p_isV v w) (hl : p_laws T K w n lw) (h1 : S w 1 = nI n) (hf : p_lwf Λ lw n) (hc : p_isC a) (ha1 : a + 1 ≠ w + 3) (ha2 : a + 1 ≠ v + 1) : ∃ I2, fX6_look v a (p_H K S I L T Λ) = some (p_H K S (I2) L T Λ) ∧ p_fr [w + 3, v + 1] I I2 ∧ ∀ k l, k + l ≤ 4 → I2 (v + 1) (p_ixn k l) = p_tv (S a 0) (I (a + 1)) (p_tg Λ lw n) k l := by
  unfold fX6_look
  rw [gV_o hv, Option.bind_some]
  exact look_out hv hl h1 hf hc ha1 ha2 5 194 0 I (by omega) (p_fr.rf _ _) (fun k l _ h => by unfold p_done at h; omega)
end LOOK
