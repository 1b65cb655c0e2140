def p_z (z : Int32) : Nat → Int32
  | 0 => z
  | n + 1 => p_z z n * 1103515245 + nI 12345
theorem p_z_add (z : Int32) (m : Nat) : ∀ n, p_z (p_z z m) n = p_z z (m + n)
  | 0 => rfl
  | n + 1 => by
    show p_z (p_z z m) n * 1103515245 + nI 12345 = p_z z (m + n) * 1103515245 + nI 12345
    rw [p_z_add z m n]
def p_sh8 (v : Int32) : Int32 := ((v).toUInt32 >>> (((nI 8)).toUInt32 &&& Int32.toUInt32 31)).toInt32
def p_dr (v : Int32) : Int32 := (p_sh8 v - p_sh8 v / (nI 7) * (nI 7)) - (nI 3)
theorem sh8_ok (v : Int32) : ∃ j, j < 2 ^ 24 ∧ p_sh8 v = nI j := by
  refine ⟨v.toUInt32.toNat / 256, ?_, ?_⟩
  · have := v.toUInt32.toNat_lt
    omega
  · unfold p_sh8
    have e : ((nI 8).toUInt32 &&& Int32.toUInt32 31) = 8 := by decide
    rw [e]
    have e2 : v.toUInt32 >>> (8 : UInt32) = UInt32.ofNat (v.toUInt32.toNat / 256) := by
      apply UInt32.toNat_inj.mp
      have h := v.toUInt32.toNat_lt
      rw [UInt32.toNat_shiftRight, UInt32.toNat_ofNat_of_lt' (by show _ < 2 ^ 32; omega)]
      show v.toUInt32.toNat >>> 8 = _
      rw [Nat.shiftRight_eq_div_pow]
    rw [e2]
    rfl
theorem dr_bd (v : Int32) : p_bd (p_dr v) := by
  obtain ⟨j, hj, e⟩ := sh8_ok v
  unfold p_dr p_bd
  rw [e, nI_mod (by omega) (by decide), pk_sub_toInt (by omega) (by decide)]
  omega
theorem p_s_up {S : Nat → Nat → Int32} {a k : Nat} {x y : Int32} : p_s (p_s S a k x) a k y = p_s S a k y := by
  unfold p_s
  rw [va_up_up, va_up_s]
  congr 1
  funext j
  simp only [upd]
  split <;> rfl
theorem p_s_id {S : Nat → Nat → Int32} {a k : Nat} : p_s S a k (S a k) = S := by
  unfold p_s
  have e : upd (S a) k (S a k) = S a := by
    funext j
    simp only [upd]
    by_cases h : j = k
    · rw [if_pos h, h]
    · rw [if_neg h]
  rw [e]
  exact p_up_id _ _
section DEAL
variable {K : Nat} {S I : Nat → Nat → Int32} {L : Nat → Nat → Int64} {T : Nat → Nat → Option Nat} {Λ : Nat → p_Lw}
theorem dn_go {c : Nat} (hc : c < 6) (z : Int32) : ∀ (d m x : Nat) (B : Nat → Int32), x + d = 15 → (∀ y, B y = if y < x then p_dr (p_z z (y + 1)) else I (5 + 2 * c + 1) y) → ∃ F, (∀ y, y < 15 → F y = p_dr (p_z z (y + 1))) ∧ fX7_drawNumbers_L2 (d + 1 + m) 1 (5 + 2 * c) (nI x) (p_H K (p_s S 1 2 (p_z z x)) (va_up I (5 + 2 * c + 1) B) L T Λ) = some (p_H K (p_s S 1 2 (p_z z 15)) (va_up I (5 + 2 * c + 1) F) L T Λ)
  | 0, m, x, B, hx, hB => by
    refine ⟨B, fun y hy => by rw [hB, if_pos (by omega)], ?_⟩
    rw [show 0 + 1 + m = m + 1 by omega]
    show fX7_drawNumbers_b2 _ _ _ _ _ = _
    unfold fX7_drawNumbers_b2
    rw [if_pos (nI_le (by omega) (by omega)), show x = 15 by omega]
  | d + 1, m, x, B, hx, hB => by
    obtain ⟨F, hF, g⟩ := dn_go hc z d m (x + 1) (upd B x (p_dr (p_z z (x + 1)))) (by omega) (fun y => by
      simp only [upd]
      by_cases e : y = x
      · rw [if_pos e, if_pos (by omega), e]
      · rw [if_neg e, hB]
        by_cases e2 : y < x
        · rw [if_pos e2, if_pos (by omega)]
        · rw [if_neg e2, if_neg (by omega)])
    refine ⟨F, hF, ?_⟩
    rw [show d + 1 + 1 + m = (d + 1 + m) + 1 by omega, ← g]
    show fX7_drawNumbers_b2 _ _ _ _ _ = _
    unfold fX7_drawNumbers_b2
    rw [if_neg (nI_ge (by omega) (by omega)), gW_2 pk_w1, Option.bind_some, gW_p2 pk_w1, Option.bind_some, gW_2 pk_w1, Option.bind_some, p_s_at, p_s_up, p_s_at, q_setNumber (pk_c hc) (by omega), Option.bind_some, va_up_up, va_up_s, nI_s]
    rfl
theorem q_draws {c : Nat} (hc : c < 6) : ∃ F, (∀ y, y < 15 → F y = p_dr (p_z (S 1 2) (y + 1))) ∧ fX7_drawNumbers 1 (5 + 2 * c) (p_H K S I L T Λ) = some (p_H K (p_s S 1 2 (p_z (S 1 2) 15)) (va_up I (5 + 2 * c + 1) F) L T Λ) := by
  obtain ⟨F, hF, g⟩ := dn_go (S := S) (I := I) (L := L) (T := T) (K := K) (Λ := Λ) hc (S 1 2) 15 184 0 (I (5 + 2 * c + 1)) (by omega) (fun y => by rw [if_neg (by omega)])
  refine ⟨F, hF, ?_⟩
  unfold fX7_drawNumbers
  rw [gW_o pk_w1, Option.bind_some]
  have e : p_s S 1 2 (p_z (S 1 2) 0) = S := p_s_id
  rw [e, p_up_id] at g
  exact g
-- what m curves that are drawn leave behind: class
def p_d8 (S I S' I' : Nat → Nat → Int32) (cn m : Nat) : Prop := S' 1 0 = nI (cn + m) ∧ S' 1 1 = S 1 1 ∧ S' 1 2 = p_z (S 1 2) (15 * m) ∧ (∀ i, i < m → S' (5 + 2 * (cn + i)) 0 = nI 0 ∧ ∀ x, x < 15 → I' (5 + 2 * (cn + i) + 1) x = p_dr (p_z (S 1 2) (15 * i + (x + 1)))) ∧ (∀ a, a ≠ 1 → (∀ i, i < m → a ≠ 5 + 2 * (cn + i)) → S' a = S a) ∧ ∀ a, (∀ i, i < m → a ≠ 5 + 2 * (cn + i) + 1) → I' a = I a
theorem d8_0 {S I : Nat → Nat → Int32} {cn : Nat} (h0 : S 1 0 = nI cn) : p_d8 S I S I cn 0 := ⟨h0, rfl, rfl, fun i hi => absurd hi (Nat.not_lt_zero _), fun _ _ _ => rfl, fun _ _ => rfl⟩
theorem deal8_go {n : Nat} (hn : n ≤ 6) : ∀ (d m j cn ca : Nat) (S I : Nat → Nat → Int32), j + d = n → cn ≤ 6 → S 1 0 = nI cn → ∃ S' I', p_d8 S I S' I' cn (min d (6 - cn)) ∧ fX8_deal_L18 (d + 1 + m) 0 (nI n) (nI ca) (nI j) (p_H K S I L T Λ) = some (nI (ca + min d (6 - cn)), p_H K S' I' L T Λ)
  | 0, m, j, cn, ca, S, I, hj, hcn, h0 => by
    refine ⟨S, I, by rw [Nat.zero_min]; exact d8_0 h0, ?_⟩
    rw [show 0 + 1 + m = m + 1 by omega]
    show fX8_deal_b18 _ _ _ _ _ _ = _
    unfold fX8_deal_b18
    rw [if_pos (nI_le (by omega) (by omega)), Nat.zero_min, Nat.add_zero]
  | d + 1, m, j, cn, ca, S, I, hj, hcn, h0 => by
    by_cases h6 : cn = 6
    · subst h6
      obtain ⟨S', I', k1, k2⟩ := deal8_go hn d m (j + 1) 6 ca S I (by omega) hcn h0
      rw [show min d (6 - 6) = 0 by omega] at k1 k2
      refine ⟨S', I', by rw [show min (d + 1) (6 - 6) = 0 by omega]; exact k1, ?_⟩
      rw [show d + 1 + 1 + m = (d + 1 + m) + 1 by omega, show min (d + 1) (6 - 6) = 0 by omega, ← k2]
      show fX8_deal_b18 _ _ _ _ _ _ = _
      unfold fX8_deal_b18 fX8_deal_b50
      simp only [gB_0, Option.bind_some, e_on, q_addCurve_no h0]
      rw [if_neg (nI_ge (by omega) (by omega)), nI_s]
    · have hc6 : cn < 6 := by omega
      obtain ⟨F, hF, g⟩ := q_draws (S := p_s (p_s S (5 + 2 * cn) 0 (nI 0)) 1 0 (nI (cn + 1))) (I := va_up I (5 + 2 * cn + 1) (p_fill 15 0 (I (5 + 2 * cn + 1)))) (L := L) (T := T) (K := K) (Λ := Λ) hc6
      have ez : p_s (p_s S (5 + 2 * cn) 0 (nI 0)) 1 0 (nI (cn + 1)) 1 2 = S 1 2 := by rw [p_s_ne (by decide), p_s_n (by omega)]
      rw [ez, va_up_up] at g
      rw [ez] at hF
      obtain ⟨S', I', ⟨k1, k2, k3, k4, k5, k6⟩, k7⟩ := deal8_go hn d m (j + 1) (cn + 1) (ca + 1) (p_s (p_s (p_s S (5 + 2 * cn) 0 (nI 0)) 1 0 (nI (cn + 1))) 1 2 (p_z (S 1 2) 15)) (va_up I (5 + 2 * cn + 1) F) (by omega) (by omega) (by rw [p_s_ne (by decide), p_s_at])
      have em : min (d + 1) (6 - cn) = min d (6 - (cn + 1)) + 1 := by omega
      rw [p_s_at] at k3 k4
      refine ⟨S', I', ⟨?_, ?_, ?_, ?_, ?_, ?_⟩, ?_⟩
      · rw [k1, em]; congr 1; omega
      · rw [k2, p_s_ne (by decide), p_s_ne (by decide), p_s_n (by omega)]
      · rw [k3, p_z_add, em]; congr 1; omega
      · intro i hi
        by_cases hi0 : i = 0
        · subst hi0
          constructor
          · rw [Nat.add_zero, k5 (5 + 2 * cn) (by omega) (fun i hi => by omega), p_s_n (by omega), p_s_n (by omega), p_s_at]
          · intro x hx
            show I' (5 + 2 * cn + 1) x = p_dr (p_z (S 1 2) (15 * 0 + (x + 1)))
            rw [k6 (5 + 2 * cn + 1) (fun i hi => by omega), va_up_s, hF x hx, Nat.mul_zero, Nat.zero_add]
        · obtain ⟨l1, l2⟩ := k4 (i - 1) (by omega)
          rw [show cn + 1 + (i - 1) = cn + i by omega] at l1 l2
          refine ⟨l1, fun x hx => ?_⟩
          rw [l2 x hx, p_z_add]
          congr 2
          omega
      · intro a ha hb
        rw [k5 a ha (fun i hi => by have := hb (i + 1) (by omega); omega), p_s_n ha, p_s_n ha, p_s_n (by have := hb 0 (by omega); omega)]
      · intro a hb
        rw [k6 a (fun i hi => by have := hb (i + 1) (by omega); omega), va_up_n (by have := hb 0 (by omega); omega)]
      · rw [show d + 1 + 1 + m = (d + 1 + m) + 1 by omega, em, show ca + (min d (6 - (cn + 1)) + 1) = ca + 1 + min d (6 - (cn + 1)) by omega, ← k7]
        show fX8_deal_b18 _ _ _ _ _ _ = _
        unfold fX8_deal_b18 fX8_deal_b50
        simp only [gB_0, Option.bind_some, e_on, q_addCurve hc6 h0, g]
        rw [if_neg (nI_ge (by omega) (by omega)), nI_s, nI_s]
def p_d9 (A A' : Nat → Int32) (cn m : Nat) : Prop := A' 1 = nI (cn + m) ∧ A' 0 = p_z (A 0) (15 * m) ∧ (∀ i, i < m → A' (3 + 16 * (cn + i)) = nI 0 ∧ ∀ x, x < 15 → A' (4 + 16 * (cn + i) + x) = p_dr (p_z (A 0) (15 * i + (x + 1)))) ∧ ∀ k, 2 ≤ k → k < 3 + 16 * cn ∨ 3 + 16 * (cn + m) ≤ k → A' k = A k
theorem q9_draw : fX9_draw 96 (p_H K S I L T Λ) = some (p_sh8 (I 97 0 * 1103515245 + nI 12345), p_H K S (va_up I 97 (upd (I 97) 0 (I 97 0 * 1103515245 + nI 12345))) L T Λ) := by
  unfold fX9_draw
  simp only [gM_o, gM_0, Option.bind_some, e_on, p_ldI pk_97 (show 0 < 1471 by decide) (by decide), p_stI pk_97 (show 0 < 1471 by decide) (by decide), va_up_s]
  simp only [upd]
  rfl
theorem dn9_go (k15 : Nat → Int32 → Int32 → e_H → Option (Int32 × e_H)) (l1 l2 : Int32) {c : Nat} (hc : c < 6) (A : Nat → Int32) : ∀ (d m x : Nat) (B : Nat → Int32), x + d = 15 → (∀ y, B y = if y = 0 then p_z (A 0) x else if 4 + 16 * c ≤ y ∧ y < 4 + 16 * c + x then p_dr (p_z (A 0) (y - (4 + 16 * c) + 1)) else A y) → ∃ G, (∀ y, G y = if y = 0 then p_z (A 0) 15 else if 4 + 16 * c ≤ y ∧ y < 19 + 16 * c then p_dr (p_z (A 0) (y - (4 + 16 * c) + 1)) else A y) ∧ fX9_deal_L45 k15 (d + 1 + m) 96 l1 l2 (nI (3 + 16 * c)) (nI (x + 1)) (p_H K S (va_up I 97 B) L T Λ) = k15 96 l1 (l2 + nI 1) (p_H K S (va_up I 97 G) L T Λ)
  | 0, m, x, B, hx, hB => by
    have e : x = 15 := by omega
    subst e
    refine ⟨B, fun y => by rw [hB, show 4 + 16 * c + 15 = 19 + 16 * c by omega], ?_⟩
    rw [show 0 + 1 + m = m + 1 by omega]
    show fX9_deal_b45 _ _ _ _ _ _ _ _ = _
    unfold fX9_deal_b45
    rw [if_pos (nI_le (by omega) (by omega))]
  | d + 1, m, x, B, hx, hB => by
    obtain ⟨G, hG, g⟩ := dn9_go k15 l1 l2 hc A d m (x + 1) (upd (upd B 0 (p_z (A 0) (x + 1))) (4 + 16 * c + x) (p_dr (p_z (A 0) (x + 1)))) (by omega) (fun y => by
      simp only [upd]
      by_cases e0 : y = 0
      · rw [if_neg (by omega), if_pos e0, if_pos e0]
      · rw [if_neg e0, if_neg e0]
        by_cases e : y = 4 + 16 * c + x
        · rw [if_pos e, if_pos (by omega), show y - (4 + 16 * c) = x by omega]
        · rw [if_neg e, hB, if_neg e0]
          by_cases e2 : 4 + 16 * c ≤ y ∧ y < 4 + 16 * c + x
          · rw [if_pos e2, if_pos (by omega)]
          · rw [if_neg e2, if_neg (by omega)])
    refine ⟨G, hG, ?_⟩
    rw [show d + 1 + 1 + m = (d + 1 + m) + 1 by omega, ← g]
    have hB0 : B 0 = p_z (A 0) x := by rw [hB, if_pos rfl]
    show fX9_deal_b45 _ _ _ _ _ _ _ _ = _
    unfold fX9_deal_b45
    simp only [gM_0, Option.bind_some, e_on, q9_draw, va_up_s, va_up_up, hB0, nI_add, show 3 + 16 * c + (x + 1) = 4 + 16 * c + x by omega, p_stI pk_97 (show 4 + 16 * c + x < 1471 by omega) (by decide)]
    rw [if_neg (nI_ge (by omega) (by omega))]
    rfl
theorem deal9_go {n : Nat} (hn : n ≤ 6) : ∀ (d m j cn : Nat) (A : Nat → Int32), j + d = n → cn ≤ 6 → A 1 = nI cn → ∃ A', p_d9 A A' cn (min d (6 - cn)) ∧ fX9_deal_L15 (d + 1 + m) 96 (nI n) (nI j) (p_H K S (va_up I 97 A) L T Λ) = some (nI (j + min d (6 - cn)), p_H K S (va_up I 97 A') L T Λ)
  | 0, m, j, cn, A, hj, hcn, h1 => by
    refine ⟨A, by rw [Nat.zero_min]; exact ⟨h1, rfl, fun i hi => absurd hi (Nat.not_lt_zero _), fun _ _ _ => rfl⟩, ?_⟩
    rw [show 0 + 1 + m = m + 1 by omega]
    show fX9_deal_b15 _ _ _ _ _ = _
    unfold fX9_deal_b15
    rw [if_pos (nI_le (by omega) (by omega)), Nat.zero_min, Nat.add_zero]
  | d + 1, m, j, cn, A, hj, hcn, h1 => by
    rw [show d + 1 + 1 + m = (d + 1 + m) + 1 by omega]
    show ∃ A', _ ∧ fX9_deal_b15 _ _ _ _ _ = _
    unfold fX9_deal_b15
    simp only [gM_0, Option.bind_some, e_on, p_ldI pk_97 (show 1 < 1471 by decide) (by decide), va_up_s, h1]
    rw [if_neg (nI_ge (by omega) (by omega))]
    by_cases h6 : cn = 6
    · subst h6
      refine ⟨A, by rw [show min (d + 1) (6 - 6) = 0 by omega]; exact ⟨h1, rfl, fun i hi => absurd hi (Nat.not_lt_zero _), fun _ _ _ => rfl⟩, ?_⟩
      rw [if_pos (nI_le (by omega) (by omega)), show min (d + 1) (6 - 6) = 0 by omega, Nat.add_zero]
    · have hc6 : cn < 6 := by omega
      rw [if_neg (nI_ge (by omega) (by omega)), q9_comes hc6 (by rw [va_up_s]; exact h1), Option.bind_some, va_up_up, va_up_s]
      obtain ⟨G, hG, g⟩ := dn9_go (S := S) (I := I) (L := L) (T := T) (K := K) (Λ := Λ) (fX9_deal_L15 (d + 1 + m)) (nI n) (nI j) hc6 (p_cm A cn (nI 0)) 15 184 0 (p_cm A cn (nI 0)) (by omega) (fun y => by
        by_cases e : y = 0
        · rw [if_pos e, e]; rfl
        · rw [if_neg e, if_neg (by omega)])
      have ez : p_cm A cn (nI 0) 0 = A 0 := by
        unfold p_cm
        rw [if_neg (by omega), if_neg (by omega), if_neg (by omega)]
      rw [ez] at hG
      obtain ⟨A', ⟨k1, k2, k3, k4⟩, k5⟩ := deal9_go hn d m (j + 1) (cn + 1) G (by omega) (by omega) (by
        rw [hG, if_neg (by omega), if_neg (by omega)]
        unfold p_cm
        rw [if_pos rfl])
      have em : min (d + 1) (6 - cn) = min d (6 - (cn + 1)) + 1 := by omega
      have hG0 : G 0 = p_z (A 0) 15 := by rw [hG, if_pos rfl]
      rw [hG0] at k2 k3
      refine ⟨A', ⟨?_, ?_, ?_, ?_⟩, ?_⟩
      · rw [k1, em]; congr 1; omega
      · rw [k2, p_z_add, em]; congr 1; omega
      · intro i hi
        by_cases hi0 : i = 0
        · subst hi0
          constructor
          · show A' (3 + 16 * cn) = nI 0
            rw [k4 _ (by omega) (by omega), hG, if_neg (by omega), if_neg (by omega)]
            unfold p_cm
            rw [if_neg (by omega), if_pos rfl]
          · intro x hx
            show A' (4 + 16 * cn + x) = p_dr (p_z (A 0) (15 * 0 + (x + 1)))
            rw [k4 _ (by omega) (by omega), hG, if_neg (by omega), if_pos (by omega), Nat.mul_zero, Nat.zero_add, show 4 + 16 * cn + x - (4 + 16 * cn) = x by omega]
        · obtain ⟨l1, l2⟩ := k3 (i - 1) (by omega)
          rw [show cn + 1 + (i - 1) = cn + i by omega] at l1 l2
          refine ⟨l1, fun x hx => ?_⟩
          rw [l2 x hx, p_z_add]
          congr 2
          omega
      · intro k hk hk2
        rw [k4 k hk (by omega), hG, if_neg (by omega), if_neg (by omega)]
        unfold p_cm
        rw [if_neg (by omega), if_neg (by omega), if_neg (by omega)]
      · rw [em, show j + (min d (6 - (cn + 1)) + 1) = j + 1 + min d (6 - (cn + 1)) by omega]
        refine Eq.trans ?_ k5
        show fX9_deal_L45 _ 200 96 _ _ (nI 3 + nI 16 * nI cn) _ _ = _
        rw [nI_s] at g
        rw [nI_mul, nI_add]
        exact g
theorem k_deal {S' I' : Nat → Nat → Int32} {A' : Nat → Int32} {lw : Nat → Nat} {cn tn m : Nat} (h : p_wr 1 97 S I T K Λ lw cn tn) (hm : cn + m ≤ 6) (h8 : p_d8 S I S' I' cn m) (h9 : p_d9 (I 97) A' cn m) : p_wr 1 97 S' (va_up I' 97 A') T K Λ lw (cn + m) tn := by
  obtain ⟨a1, a2, a3, a4, a5, a6⟩ := h8
  obtain ⟨b1, b2, b3, b4⟩ := h9
  refine h.mk hm a1 (by rw [va_up_s]; exact b1) (by rw [va_up_s, a3, b2, h.1.2.2.2]) a2 (fun k hk => by rw [va_up_s, b4 k (by omega) (by omega)]) (fun c hc => ?_)
  obtain ⟨h1, h2, h3⟩ := h.ca hc
  unfold p_ca
  rw [va_up_s, va_up_n (show 5 + 2 * c + 1 ≠ 97 by omega)]
  by_cases e : cn ≤ c ∧ c < cn + m
  · obtain ⟨l1, l2⟩ := a4 (c - cn) (by omega)
    obtain ⟨l3, l4⟩ := b3 (c - cn) (by omega)
    rw [show cn + (c - cn) = c by omega] at l1 l2 l3 l4
    rw [l1, l3]
    refine ⟨rfl, ⟨0, by decide, rfl⟩, fun x hx => ?_⟩
    rw [l2 x hx, l4 x hx, h.1.2.2.2]
    exact ⟨rfl, dr_bd _⟩
  · rw [a5 (5 + 2 * c) (by omega) (fun i hi => by omega), a6 (5 + 2 * c + 1) (fun i hi => by omega), b4 (3 + 16 * c) (by omega) (by omega)]
    refine ⟨h1, h2, fun x hx => ?_⟩
    rw [b4 (4 + 16 * c + x) (by omega) (by omega)]
    exact h3 x hx
end DEAL
theorem c_deal (n : Int32) : p_both (fX8_deal 0 n) (fX9_deal 96 n) := by
  intro K S I L T Λ hinv
  obtain ⟨lw, cn, tn, h⟩ := hinv.1
  have hcn := h.1.1
  by_cases hn : ¬ n < nI 1 ∧ ¬ nI 6 < n
  · obtain ⟨D, hD, rfl⟩ : ∃ D, D ≤ 6 ∧ n = nI D := by
      obtain ⟨j, hj, rfl⟩ := nI_of (x := n) (fun z => hn.1 (Int32.lt_trans z (by decide)))
      refine ⟨j, ?_, rfl⟩
      by_cases e : j ≤ 6
      · exact e
      · exact absurd (nI_lt (show 6 < j by omega) (by omega)) hn.2
    have hin : fX9_in (nI D) (nI 1) (nI 6) = some true := by rw [p_in_b, decide_eq_true hn]
    obtain ⟨S', I', g1, g2⟩ := deal8_go (L := L) (T := T) (K := K) (Λ := Λ) hD D (199 - D) 0 cn 0 S I (by omega) hcn h.1.2.1
    have eI : I' 97 = I 97 := g1.2.2.2.2.2 97 (fun i hi => by omega)
    obtain ⟨A', k1, k2⟩ := deal9_go (S := S') (I := I') (L := L) (T := T) (K := K) (Λ := Λ) hD D (199 - D) 0 cn (I 97) (by omega) hcn h.1.2.2.1
    rw [show D + 1 + (199 - D) = 200 by omega, Nat.zero_add] at g2 k2
    rw [← eI, p_up_id] at k2
    refine both_go (h1 := p_H K S' I' L T Λ) (L2 := L) (nI (min D (6 - cn))) ?_ ?_ (hinv.now (S' := S') (I' := va_up I' 97 A') (fun a ha => g1.2.2.2.2.1 a (by omega) (fun i hi => by omega)) (by rw [g1.2.2.2.2.1 57 (by omega) (fun i hi => by omega)]) (by rw [g1.2.2.2.2.1 96 (by omega) (fun i hi => by omega)]) (by rw [g1.2.2.2.2.1 96 (by omega) (fun i hi => by omega)]) (by rw [g1.2.2.2.2.1 96 (by omega) (fun i hi => by omega)]) (fun a z1 z2 z3 => by rw [va_up_n z2, g1.2.2.2.2.2 a (fun i hi => by omega)]) (k_deal h (by omega) g1 k1))
    · unfold fX8_deal
      rw [gB_o, Option.bind_some, if_neg hn.1, if_pos (nI_le hD (by decide))]
      exact g2
    · unfold fX9_deal
      rw [gM_o, Option.bind_some, hin, Option.bind_some, if_neg eb_t]
      exact k2
  · have hin : fX9_in n (nI 1) (nI 6) = some false := by rw [p_in_b, decide_eq_false hn]
    refine both_bad (r := -1000000001) hinv ?_ ?_
    · unfold fX8_deal
      rw [gB_o, Option.bind_some]
      by_cases h1 : n < nI 1
      · rw [if_pos h1]
      · rw [if_neg h1, if_neg (fun z => i32_nlt z (Classical.not_not.mp (fun z => hn ⟨h1, z⟩)))]
    · unfold fX9_deal
      rw [gM_o, Option.bind_some, hin, Option.bind_some, if_pos eb_f]
