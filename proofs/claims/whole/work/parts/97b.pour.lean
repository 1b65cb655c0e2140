def p_pV (R g : Nat → Int32) (y : Nat) : Int32 := if R y = -1000000005 then g y else p_held (R y)
def p_pc (R g : Nat → Int32) : Nat → Nat
  | 0 => 0
  | n + 1 => if p_pV R g n = g n then p_pc R g n else p_pc R g n + 1
theorem p_pc_eq {R g R' g' : Nat → Int32} : ∀ n, (∀ y, y < n → R y = R' y ∧ g y = g' y) → p_pc R g n = p_pc R' g' n
  | 0, _ => rfl
  | n + 1, h => by
    unfold p_pc p_pV
    rw [(h n (by omega)).1, (h n (by omega)).2, p_pc_eq n (fun y hy => h y (by omega))]
theorem p_pc_le (R g : Nat → Int32) : ∀ n, p_pc R g n ≤ n
  | 0 => Nat.le_refl 0
  | n + 1 => by
    have := p_pc_le R g n
    unfold p_pc
    split <;> omega
section POUR
variable {K : Nat} {S I : Nat → Nat → Int32} {L : Nat → Nat → Int64} {T : Nat → Nat → Option Nat} {Λ : Nat → p_Lw}
theorem pour_go {s c z : Nat} (hs : s < 4) (hc : c < 6) (hz : z ≤ 24) (hS : S (63 + 2 * s) 1 = nI z) : ∀ (d f x : Nat) (B : Nat → Int32), x + d = min 15 z → (∀ y, B y = if y < x then p_pV (I (63 + 2 * s + 1)) (I (5 + 2 * c + 1)) y else I (5 + 2 * c + 1) y) → fX8_pour_L46 (d + 1 + f) (63 + 2 * s) (5 + 2 * c) (nI (p_pc (I (63 + 2 * s + 1)) (I (5 + 2 * c + 1)) x)) (nI x) (p_H K S (va_up I (5 + 2 * c + 1) B) L T Λ) = some (nI (p_pc (I (63 + 2 * s + 1)) (I (5 + 2 * c + 1)) (min 15 z)), p_H K S (va_up I (5 + 2 * c + 1) (fun y => if y < min 15 z then p_pV (I (63 + 2 * s + 1)) (I (5 + 2 * c + 1)) y else I (5 + 2 * c + 1) y)) L T Λ)
  | 0, f, x, B, hx, hB => by
    have e : B = fun y => if y < min 15 z then p_pV (I (63 + 2 * s + 1)) (I (5 + 2 * c + 1)) y else I (5 + 2 * c + 1) y := by
      funext y
      rw [hB, show x = min 15 z by omega]
    rw [show 0 + 1 + f = f + 1 by omega, ← e]
    show fX8_pour_b46 _ _ _ _ _ _ = _
    unfold fX8_pour_b46
    rw [show min 15 z = x by omega]
    by_cases h15 : 15 ≤ x
    · rw [if_pos (nI_le h15 (by omega))]
    · rw [if_neg (nI_ge (by omega) (by omega)), gR_1 (pk_rr hs), Option.bind_some, hS, if_pos (nI_le (by omega) (by omega))]
  | d + 1, f, x, B, hx, hB => by
    have hBx : B x = I (5 + 2 * c + 1) x := by rw [hB, if_neg (by omega)]
    rw [show d + 1 + 1 + f = (d + 1 + f) + 1 by omega]
    show fX8_pour_b46 _ _ _ _ _ _ = _
    unfold fX8_pour_b46 fX8_pour_b107
    rw [if_neg (nI_ge (by omega) (by omega)), gR_1 (pk_rr hs), Option.bind_some, hS, if_neg (nI_ge (by omega) (by omega)), q_placeAt (pk_rr hs) hS hz (show x < z by omega), Option.bind_some, va_up_n (show 63 + 2 * s + 1 ≠ 5 + 2 * c + 1 by omega)]
    have stay : p_pV (I (63 + 2 * s + 1)) (I (5 + 2 * c + 1)) x = I (5 + 2 * c + 1) x → fX8_pour_L46 (d + 1 + f) (63 + 2 * s) (5 + 2 * c) (nI (p_pc (I (63 + 2 * s + 1)) (I (5 + 2 * c + 1)) x)) (nI x + nI 1) (p_H K S (va_up I (5 + 2 * c + 1) B) L T Λ) = some (nI (p_pc (I (63 + 2 * s + 1)) (I (5 + 2 * c + 1)) (min 15 z)), p_H K S (va_up I (5 + 2 * c + 1) (fun y => if y < min 15 z then p_pV (I (63 + 2 * s + 1)) (I (5 + 2 * c + 1)) y else I (5 + 2 * c + 1) y)) L T Λ) := fun h => by
      have ih := pour_go hs hc hz hS d f (x + 1) B (by omega) (fun y => by
        rw [hB]
        by_cases e : y < x
        · rw [if_pos e, if_pos (by omega)]
        · rw [if_neg e]
          by_cases e2 : y < x + 1
          · rw [if_pos e2, show y = x by omega, h]
          · rw [if_neg e2])
      rw [p_pc, if_pos h] at ih
      rw [nI_s]
      exact ih
    by_cases hn : I (63 + 2 * s + 1) x = -1000000005
    · rw [if_pos hn]
      exact stay (by unfold p_pV; rw [if_pos hn])
    · have hV : p_pV (I (63 + 2 * s + 1)) (I (5 + 2 * c + 1)) x = p_held (I (63 + 2 * s + 1) x) := by unfold p_pV; rw [if_neg hn]
      rw [if_neg hn, q_held, Option.bind_some, q_numberAt (pk_c hc) (by omega), Option.bind_some, va_up_s, hBx]
      by_cases he : p_held (I (63 + 2 * s + 1) x) = I (5 + 2 * c + 1) x
      · rw [if_pos he]
        exact stay (hV.trans he)
      · rw [if_neg he, Option.bind_some, q_setNumber (pk_c hc) (by omega), Option.bind_some, va_up_s, va_up_up, nI_s, nI_s]
        have ih := pour_go hs hc hz hS d f (x + 1) (upd B x (p_held (I (63 + 2 * s + 1) x))) (by omega) (fun y => by
          simp only [upd]
          by_cases e : y = x
          · rw [if_pos e, if_pos (by omega), e, hV]
          · rw [if_neg e, hB]
            by_cases e2 : y < x
            · rw [if_pos e2, if_pos (by omega)]
            · rw [if_neg e2, if_neg (by omega)])
        rw [p_pc, if_neg (fun h => he (hV.symm.trans h))] at ih
        exact ih
theorem pour9_go {s c z : Nat} (hs : s < 4) (hc : c < 6) (hz : z ≤ 24) (hS : I 114 s = nI z) : ∀ (d f x : Nat) (B : Nat → Int32), x + d = min 15 z → (∀ y, B y = if 4 + 16 * c ≤ y ∧ y < 4 + 16 * c + x then p_pV (fun y => I 115 (24 * s + y)) (fun y => I 97 (4 + 16 * c + y)) (y - (4 + 16 * c)) else I 97 y) → ∃ G, (∀ y, G y = if 4 + 16 * c ≤ y ∧ y < 4 + 16 * c + min 15 z then p_pV (fun y => I 115 (24 * s + y)) (fun y => I 97 (4 + 16 * c + y)) (y - (4 + 16 * c)) else I 97 y) ∧ fX9_pour_L36 (d + 1 + f) 96 (nI s) (nI c) (nI (p_pc (fun y => I 115 (24 * s + y)) (fun y => I 97 (4 + 16 * c + y)) x)) (nI x) (p_H K S (va_up I 97 B) L T Λ) = some (nI (p_pc (fun y => I 115 (24 * s + y)) (fun y => I 97 (4 + 16 * c + y)) (min 15 z)), p_H K S (va_up I 97 G) L T Λ)
  | 0, f, x, B, hx, hB => by
    refine ⟨B, fun y => by rw [hB, show x = min 15 z by omega], ?_⟩
    rw [show 0 + 1 + f = f + 1 by omega]
    show fX9_pour_b36 _ _ _ _ _ _ _ = _
    unfold fX9_pour_b36
    rw [show min 15 z = x by omega]
    by_cases h15 : 15 ≤ x
    · rw [if_pos (nI_le h15 (by omega))]
    · rw [if_neg (nI_ge (by omega) (by omega))]
      simp only [gM_31, Option.bind_some, e_on, p_ldI pk_114 hs (show 4 < 2 ^ 31 by decide)]
      rw [va_up_n (by decide), hS, if_pos (nI_le (by omega) (by omega))]
  | d + 1, f, x, B, hx, hB => by
    have hBx : B (4 + 16 * c + x) = I 97 (4 + 16 * c + x) := by rw [hB, if_neg (by omega)]
    obtain ⟨G, hG, ih⟩ := pour9_go hs hc hz hS d f (x + 1) (upd B (4 + 16 * c + x) (p_pV (fun y => I 115 (24 * s + y)) (fun y => I 97 (4 + 16 * c + y)) x)) (by omega) (fun y => by
      simp only [upd]
      by_cases e : y = 4 + 16 * c + x
      · rw [if_pos e, if_pos (by omega), e, show 4 + 16 * c + x - (4 + 16 * c) = x by omega]
      · rw [if_neg e, hB]
        by_cases e2 : 4 + 16 * c ≤ y ∧ y < 4 + 16 * c + x
        · rw [if_pos e2, if_pos (by omega)]
        · rw [if_neg e2, if_neg (by omega)])
    refine ⟨G, hG, ?_⟩
    rw [show d + 1 + 1 + f = (d + 1 + f) + 1 by omega, ← ih]
    show fX9_pour_b36 _ _ _ _ _ _ _ = _
    unfold fX9_pour_b36 fX9_pour_b107 fX9_pour_b127
    rw [if_neg (nI_ge (by omega) (by omega))]
    have e114 : va_up I 97 B 114 = I 114 := va_up_n (by decide)
    have e115 : va_up I 97 B 115 = I 115 := va_up_n (by decide)
    simp only [gM_31, gM_32, gM_0, Option.bind_some, e_on, p_ldI pk_114 hs (show 4 < 2 ^ 31 by decide), nI_mul, nI_add, show 3 + 16 * c + 1 + x = 4 + 16 * c + x by omega, p_ldI pk_115 (show 24 * s + x < 96 by omega) (show 96 < 2 ^ 31 by decide), p_ldI pk_97 (show 4 + 16 * c + x < 1471 by omega) (show 1471 < 2 ^ 31 by decide), p_stI pk_97 (show 4 + 16 * c + x < 1471 by omega) (show 1471 < 2 ^ 31 by decide), e114, e115, va_up_s, va_up_up, hBx, q9_within, hS]
    rw [if_neg (nI_ge (by omega) (by omega))]
    have step : ∀ v, (if I 97 (4 + 16 * c + x) = v then fX9_pour_L36 (d + 1 + f) 96 (nI s) (nI c) (nI (p_pc (fun y => I 115 (24 * s + y)) (fun y => I 97 (4 + 16 * c + y)) x + 0)) (nI (x + 1)) (p_H K S (va_up I 97 (upd B (4 + 16 * c + x) v)) L T Λ) else fX9_pour_L36 (d + 1 + f) 96 (nI s) (nI c) (nI (p_pc (fun y => I 115 (24 * s + y)) (fun y => I 97 (4 + 16 * c + y)) x + 1)) (nI (x + 1)) (p_H K S (va_up I 97 (upd B (4 + 16 * c + x) v)) L T Λ)) = fX9_pour_L36 (d + 1 + f) 96 (nI s) (nI c) (nI (if v = I 97 (4 + 16 * c + x) then p_pc (fun y => I 115 (24 * s + y)) (fun y => I 97 (4 + 16 * c + y)) x else p_pc (fun y => I 115 (24 * s + y)) (fun y => I 97 (4 + 16 * c + y)) x + 1)) (nI (x + 1)) (p_H K S (va_up I 97 (upd B (4 + 16 * c + x) v)) L T Λ) := fun v => by
      by_cases h : I 97 (4 + 16 * c + x) = v
      · rw [if_pos h, if_pos h.symm]
        exact rfl
      · rw [if_neg h, if_neg (fun z => h z.symm)]
    by_cases hn : I 115 (24 * s + x) = -1000000005
    · have hV : p_pV (fun y => I 115 (24 * s + y)) (fun y => I 97 (4 + 16 * c + y)) x = I 97 (4 + 16 * c + x) := by unfold p_pV; rw [if_pos hn]
      rw [if_pos hn, if_pos trivial, p_pc, hV, if_pos rfl]
      exact rfl
    · have hV : p_pV (fun y => I 115 (24 * s + y)) (fun y => I 97 (4 + 16 * c + y)) x = p_held (I 115 (24 * s + x)) := by unfold p_pV; rw [if_neg hn]
      rw [if_neg hn]
      refine (step _).trans ?_
      rw [p_pc, hV]
end POUR
theorem c_pour (s c : Int32) : p_both (fX8_pour 0 s c) (fX9_pour 96 s c) := by
  intro K S I L T Λ hinv
  have hrow := hinv.2.2.2.2.1
  obtain ⟨lw, cn, tn, h⟩ := hinv.1
  have hcn := h.1.1
  have h97 := h.1.2.2.1
  rcases rng_or s (n := 3) (by decide) with ⟨q, hq, rfl⟩ | ⟨hno, hr⟩
  · have hq4 : q < 4 := by omega
    obtain ⟨r1, r2, ⟨z, hz, r3, r4⟩, r5⟩ := hrow q hq4
    rcases cur_or c (n := cn) (by omega) with ⟨k, hk, rfl⟩ | hc
    · have hk6 : k < 6 := by omega
      by_cases hm : I 113 q = -1
      · refine both_bad (r := -1000000011) hinv ?_ ?_
        · unfold fX8_pour
          simp only [gB_o, gB_0, Option.bind_some, e_on, q_sheetOf hq4, k_cur h hk, gR_0 (pk_rr hq4), r1, hm]
          rw [if_pos trivial]
        · unfold fX9_pour
          simp only [gM_o, Option.bind_some, e_on, isSheet_yes hq, if_neg eb_t, k_isCurve h97 hcn hk, gM_30, p_ldI pk_113 hq4 (by decide), hm]
          rw [if_neg (by decide)]
      · have h0 : 0 ≤ I 113 q := by
          rcases r2 with e | e | e
          · exact absurd e hm
          · rw [e]; decide
          · rw [e]; decide
        have g1 := pour_go (S := S) (I := I) (L := L) (T := T) (K := K) (Λ := Λ) hq4 hk6 hz r3 (min 15 z) (199 - min 15 z) 0 (I (5 + 2 * k + 1)) (by omega) (fun y => by rw [if_neg (by omega)])
        rw [p_up_id] at g1
        generalize hF : (fun y => if y < min 15 z then p_pV (I (63 + 2 * q + 1)) (I (5 + 2 * k + 1)) y else I (5 + 2 * k + 1) y) = F at g1
        have e97 : va_up I (5 + 2 * k + 1) F 97 = I 97 := va_up_n (by omega)
        have e113 : va_up I (5 + 2 * k + 1) F 113 = I 113 := va_up_n (by omega)
        have e114 : va_up I (5 + 2 * k + 1) F 114 = I 114 := va_up_n (by omega)
        have e115 : va_up I (5 + 2 * k + 1) F 115 = I 115 := va_up_n (by omega)
        obtain ⟨G, hG, g2⟩ := pour9_go (S := S) (I := va_up I (5 + 2 * k + 1) F) (L := L) (T := T) (K := K) (Λ := Λ) hq4 hk6 hz (by rw [e114]; exact r4) (min 15 z) (199 - min 15 z) 0 (I 97) (by omega) (fun y => by rw [if_neg (by omega), e97])
        rw [show va_up (va_up I (5 + 2 * k + 1) F) 97 (I 97) = va_up I (5 + 2 * k + 1) F by rw [← e97, p_up_id]] at g2
        rw [e97, e115] at hG
        rw [e97, e115] at g2
        have hcnt : p_pc (I (63 + 2 * q + 1)) (I (5 + 2 * k + 1)) (min 15 z) = p_pc (fun y => I 115 (24 * q + y)) (fun y => I 97 (4 + 16 * k + y)) (min 15 z) := p_pc_eq _ (fun y hy => ⟨r5 y (by omega), ((h.ca hk6).2.2 y (by omega)).1⟩)
        rw [show min 15 z + 1 + (199 - min 15 z) = 200 by omega] at g1 g2
        refine both_go (h1 := p_H K S (va_up I (5 + 2 * k + 1) F) L T Λ) (L2 := L) (nI (p_pc (fun y => I 115 (24 * q + y)) (fun y => I 97 (4 + 16 * k + y)) (min 15 z))) ?_ ?_ (hinv.now (S' := S) (I' := va_up (va_up I (5 + 2 * k + 1) F) 97 G) (fun a _ => rfl) rfl rfl rfl rfl (fun a z1 z2 z3 => by rw [va_up_n z2, va_up_n (by omega)]) (k_cells (V := fun x => if x < min 15 z then p_pV (fun y => I 115 (24 * q + y)) (fun y => I 97 (4 + 16 * k + y)) x else I 97 (4 + 16 * k + x)) h hk6 rfl rfl (fun _ _ => rfl) (by rw [hG, if_neg (by omega)]; exact h.1.2.2.2) (fun x hx => ?_) (fun y hy => ?_) (fun x hx => ?_)))
        · unfold fX8_pour
          simp only [gB_o, gB_0, Option.bind_some, e_on, q_sheetOf hq4, k_cur h hk, gR_0 (pk_rr hq4), r1, if_neg hm]
          rw [← hcnt]
          exact g1
        · unfold fX9_pour
          simp only [gM_o, Option.bind_some, e_on, isSheet_yes hq, if_neg eb_t, k_isCurve (I := va_up I (5 + 2 * k + 1) F) (by rw [e97]; exact h97) hcn hk, gM_30, p_ldI pk_113 hq4 (show 4 < 2 ^ 31 by decide), e113, if_pos h0]
          exact g2
        · rw [← hF]
          show (if x < min 15 z then _ else _) = (if x < min 15 z then _ else _)
          by_cases e : x < min 15 z
          · rw [if_pos e, if_pos e]
            unfold p_pV
            rw [r5 x (by omega), ((h.ca hk6).2.2 x hx).1]
          · rw [if_neg e, if_neg e]
            exact ((h.ca hk6).2.2 x hx).1
        · rw [hG]
          by_cases e : 4 + 16 * k ≤ y ∧ y < 4 + 16 * k + min 15 z
          · rw [if_pos e, if_pos (by omega), if_pos (by omega)]
          · rw [if_neg e]
            by_cases e2 : 4 + 16 * k ≤ y ∧ y < 19 + 16 * k
            · rw [if_pos e2, if_neg (by omega), show 4 + 16 * k + (y - (4 + 16 * k)) = y by omega]
            · rw [if_neg e2]
        · show p_bd (if x < min 15 z then _ else _)
          have hb := ((h.ca hk6).2.2 x hx).2
          split
          · unfold p_pV
            split
            · exact hb
            · exact p_held_bd _
          · exact hb
    · refine both_bad (r := -1000000001) hinv ?_ ?_
      · unfold fX8_pour
        simp only [gB_o, gB_0, Option.bind_some, e_on, q_sheetOf hq4, k_cur_no h hc]
      · unfold fX9_pour
        simp only [gM_o, Option.bind_some, e_on, isSheet_yes hq, if_neg eb_t, k_isCurve_no h97 hcn hc, if_pos eb_f]
  · refine both_bad (r := -1000000001) hinv ?_ ?_
    · unfold fX8_pour
      rcases cur_or c (n := cn) (by omega) with ⟨k, hk, rfl⟩ | hc
      · simp only [gB_o, gB_0, Option.bind_some, e_on, q_sheetOf_no hr, k_cur h hk]
      · simp only [gB_o, gB_0, Option.bind_some, e_on, q_sheetOf_no hr, k_cur_no h hc]
    · unfold fX9_pour
      simp only [gM_o, Option.bind_some, e_on, isSheet_no hr, if_pos eb_f]
-- copy
def p_run (z : Nat) (p m : Int32) : Bool := if m < 0 then false else if nI z < m then false else if p < 0 then false else if (nI z - m) < p then false else true
def p_run9 (z1 z2 : Nat) (p a m : Int32) : Bool := if p < 0 then false else if a < 0 then false else if m < 0 then false else if (nI z1 - m) < p then false else if a ≤ (nI z2 - m) then true else false
theorem sub_toInt {z m : Nat} (hz : z ≤ 24) (hm : m < 2 ^ 31) : (nI z - nI m).toInt = (z : Int) - m := by
  rw [Int32.toInt_sub, nI_toInt (by omega), nI_toInt hm, Int.bmod_eq_of_le (by omega) (by omega)]
theorem sub_lt {z m p : Nat} (hz : z ≤ 24) (hm : m < 2 ^ 31) (hp : p < 2 ^ 31) : (nI z - nI m < nI p) ↔ z < p + m := by
  rw [Int32.lt_iff_toInt_lt, sub_toInt hz hm, nI_toInt hp]
  omega
theorem run_nat {z p m : Nat} (hz : z ≤ 24) (hm : m < 2 ^ 31) (hp : p < 2 ^ 31) : p_run z (nI p) (nI m) = decide (p + m ≤ z) := by
  unfold p_run
  rw [if_neg (nI_pos hm), if_neg (nI_pos hp)]
  by_cases h : z < m
  · rw [if_pos (nI_lt h hm), decide_eq_false (by omega)]
  · rw [if_neg (nI_nlt (by omega) (by omega))]
    by_cases h2 : z < p + m
    · rw [if_pos ((sub_lt hz hm hp).mpr h2), decide_eq_false (by omega)]
    · rw [if_neg (fun y => h2 ((sub_lt hz hm hp).mp y)), decide_eq_true (by omega)]
theorem run_eq {z1 z2 : Nat} (h1 : z1 ≤ 24) (h2 : z2 ≤ 24) (p a m : Int32) : (p_run9 z1 z2 p a m = true ∧ p_run z1 p m = true ∧ p_run z2 a m = true ∧ ∃ pp aa mm, p = nI pp ∧ a = nI aa ∧ m = nI mm ∧ pp + mm ≤ z1 ∧ aa + mm ≤ z2) ∨ (p_run9 z1 z2 p a m = false ∧ (p_run z1 p m && p_run z2 a m) = false) := by
  by_cases hm : m < 0
  · refine Or.inr ⟨?_, ?_⟩
    · unfold p_run9
      rw [if_pos hm]
      split
      · rfl
      · split <;> rfl
    · unfold p_run
      rw [if_pos hm]
      rfl
  · by_cases hp : p < 0
    · refine Or.inr ⟨by unfold p_run9; rw [if_pos hp], ?_⟩
      unfold p_run
      rw [if_neg hm, if_pos hp]
      split <;> rfl
    · by_cases ha : a < 0
      · refine Or.inr ⟨by unfold p_run9; rw [if_neg hp, if_pos ha], ?_⟩
        have e : p_run z2 a m = false := by
          unfold p_run
          rw [if_neg hm, if_pos ha]
          split <;> rfl
        rw [e, Bool.and_false]
      · obtain ⟨mm, hmm, rfl⟩ := nI_of hm
        obtain ⟨pp, hpp, rfl⟩ := nI_of hp
        obtain ⟨aa, haa, rfl⟩ := nI_of ha
        rw [run_nat h1 hmm hpp, run_nat h2 hmm haa]
        unfold p_run9
        rw [if_neg hp, if_neg ha, if_neg hm]
        by_cases g1 : pp + mm ≤ z1
        · rw [if_neg (fun y => by have := (sub_lt h1 hmm hpp).mp y; omega)]
          by_cases g2 : aa + mm ≤ z2
          · refine Or.inl ⟨if_pos ?_, decide_eq_true g1, decide_eq_true g2, pp, aa, mm, rfl, rfl, rfl, g1, g2⟩
            exact Int32.not_lt.mp (fun y => by have := (sub_lt h2 hmm haa).mp y; omega)
          · refine Or.inr ⟨if_neg ?_, by rw [decide_eq_false g2, Bool.and_false]⟩
            exact fun y => i32_nlt y ((sub_lt h2 hmm haa).mpr (by omega))
        · exact Or.inr ⟨by rw [if_pos ((sub_lt h1 hmm hpp).mpr (by omega))], by rw [decide_eq_false g1, Bool.false_and]⟩
section COPY
variable {K : Nat} {S I : Nat → Nat → Int32} {L : Nat → Nat → Int64} {T : Nat → Nat → Option Nat} {Λ : Nat → p_Lw}
theorem q_hasRun {a z : Nat} (ha : p_isR a) (hz : S a 1 = nI z) (p m : Int32) : fX2_hasRun a p m (p_H K S I L T Λ) = some (p_run z p m) := by
  unfold fX2_hasRun p_run
  simp only [gR_o ha, gR_1 ha, Option.bind_some, e_on, hz]
  split
  · rfl
  · split
    · rfl
    · split
      · rfl
      · split <;> rfl
theorem copy91_go {s p m : Nat} (hs : s < 4) (hp : p + m ≤ 24) (l3 l4 : Int32) : ∀ (d f x : Nat) (B : Nat → Int32), x + d = m → (∀ y, y < x → B y = I 115 (24 * s + p + y)) → ∃ G, (∀ y, y < m → G y = I 115 (24 * s + p + y)) ∧ fX9_copy_L105 (d + 1 + f) 96 (nI s) (nI p) l3 l4 (nI m) (nI x) (p_H K S (va_up I 120 B) L T Λ) = fX9_copy_L142 200 96 l3 l4 (nI m) (nI 0) (p_H K S (va_up I 120 G) L T Λ)
  | 0, f, x, B, hx, hB => by
    refine ⟨B, fun y hy => hB y (by omega), ?_⟩
    rw [show 0 + 1 + f = f + 1 by omega]
    show fX9_copy_b105 _ _ _ _ _ _ _ _ _ = _
    unfold fX9_copy_b105
    rw [if_pos (nI_le (by omega) (by omega))]
  | d + 1, f, x, B, hx, hB => by
    obtain ⟨G, hG, ih⟩ := copy91_go hs hp l3 l4 d f (x + 1) (upd B x (I 115 (24 * s + p + x))) (by omega) (fun y hy => by
      simp only [upd]
      by_cases e : y = x
      · rw [if_pos e, e]
      · rw [if_neg e]; exact hB y (by omega))
    refine ⟨G, hG, ?_⟩
    have e115 : va_up I 120 B 115 = I 115 := va_up_n (by decide)
    rw [show d + 1 + 1 + f = (d + 1 + f) + 1 by omega, ← ih]
    show fX9_copy_b105 _ _ _ _ _ _ _ _ _ = _
    unfold fX9_copy_b105
    rw [if_neg (nI_ge (by omega) (by omega))]
    simp only [gM_37, gM_32, Option.bind_some, e_on, nI_mul, nI_add, p_ldI pk_115 (show 24 * s + p + x < 96 by omega) (show 96 < 2 ^ 31 by decide), p_stI pk_120 (show x < 24 by omega) (show 24 < 2 ^ 31 by decide), va_up_s, va_up_up, e115]
theorem copy92_go {t a m : Nat} (ht : t < 4) (ha : a + m ≤ 24) : ∀ (d f x : Nat) (B : Nat → Int32), x + d = m → (∀ y, B y = if 24 * t + a ≤ y ∧ y < 24 * t + a + x then I 120 (y - (24 * t + a)) else I 115 y) → fX9_copy_L142 (d + 1 + f) 96 (nI t) (nI a) (nI m) (nI x) (p_H K S (va_up I 115 B) L T Λ) = some (nI m, p_H K S (va_up I 115 (fun y => if 24 * t + a ≤ y ∧ y < 24 * t + a + m then I 120 (y - (24 * t + a)) else I 115 y)) L T Λ)
  | 0, f, x, B, hx, hB => by
    have e : B = fun y => if 24 * t + a ≤ y ∧ y < 24 * t + a + m then I 120 (y - (24 * t + a)) else I 115 y := by
      funext y
      rw [hB, show x = m by omega]
    rw [show 0 + 1 + f = f + 1 by omega, ← e]
    show fX9_copy_b142 _ _ _ _ _ _ _ = _
    unfold fX9_copy_b142
    rw [if_pos (nI_le (by omega) (by omega))]
  | d + 1, f, x, B, hx, hB => by
    have e120 : va_up I 115 B 120 = I 120 := va_up_n (by decide)
    rw [show d + 1 + 1 + f = (d + 1 + f) + 1 by omega]
    show fX9_copy_b142 _ _ _ _ _ _ _ = _
    unfold fX9_copy_b142
    rw [if_neg (nI_ge (by omega) (by omega))]
    simp only [gM_37, gM_32, Option.bind_some, e_on, nI_mul, nI_add, p_stI pk_115 (show 24 * t + a + x < 96 by omega) (show 96 < 2 ^ 31 by decide), p_ldI pk_120 (show x < 24 by omega) (show 24 < 2 ^ 31 by decide), va_up_s, va_up_up, e120]
    refine copy92_go ht ha d f (x + 1) _ (by omega) (fun y => ?_)
    simp only [upd]
    by_cases e : y = 24 * t + a + x
    · rw [if_pos e, if_pos (by omega), show y - (24 * t + a) = x by omega]
    · rw [if_neg e, hB]
      by_cases e2 : 24 * t + a ≤ y ∧ y < 24 * t + a + x
      · rw [if_pos e2, if_pos (by omega)]
      · rw [if_neg e2, if_neg (by omega)]
end COPY
theorem c_copy (s p t a m : Int32) : p_both (fX8_copy 0 s p t a m) (fX9_copy 96 s p t a m) := by
  intro K S I L T Λ hinv
  have hrow := hinv.2.2.2.2.1
  rcases rng_or s (n := 3) (by decide) with ⟨q, hq, rfl⟩ | ⟨hno, hr⟩
  · have hq4 : q < 4 := by omega
    obtain ⟨r1, r2, ⟨z, hz, r3, r4⟩, r5⟩ := hrow q hq4
    rcases rng_or t (n := 3) (by decide) with ⟨w, hw, rfl⟩ | ⟨hno, hr⟩
    · have hw4 : w < 4 := by omega
      obtain ⟨u1, u2, ⟨y, hy, u3, u4⟩, u5⟩ := hrow w hw4
      have pos : ∀ x : Int32, (x = -1 ∨ x = nI 0 ∨ x = nI 1) → ¬ x = -1 → 0 ≤ x := fun x h hn => by
        rcases h with e | e | e
        · exact absurd e hn
        · rw [e]; decide
        · rw [e]; decide
      by_cases hm : I 113 q = -1
      · refine both_bad (r := -1000000011) hinv ?_ ?_
        · unfold fX8_copy
          simp only [gB_o, Option.bind_some, e_on, q_sheetOf hq4, q_sheetOf hw4, gR_0 (pk_rr hq4), r1, hm]
          rw [if_pos trivial]
        · unfold fX9_copy
          simp only [gM_o, Option.bind_some, e_on, isSheet_yes hq, isSheet_yes hw, if_neg eb_t, gM_30, p_ldI pk_113 hq4 (show 4 < 2 ^ 31 by decide), hm]
          rw [if_pos (by decide)]
      · by_cases hm2 : I 113 w = -1
        · refine both_bad (r := -1000000011) hinv ?_ ?_
          · unfold fX8_copy
            simp only [gB_o, Option.bind_some, e_on, q_sheetOf hq4, q_sheetOf hw4, gR_0 (pk_rr hq4), gR_0 (pk_rr hw4), r1, u1, if_neg hm, if_pos hm2]
          · unfold fX9_copy
            simp only [gM_o, Option.bind_some, e_on, isSheet_yes hq, isSheet_yes hw, if_neg eb_t, gM_30, p_ldI pk_113 hq4 (show 4 < 2 ^ 31 by decide), p_ldI pk_113 hw4 (show 4 < 2 ^ 31 by decide), if_neg (i32_nlt (pos _ r2 hm)), hm2]
            rw [if_neg (by decide)]
        · by_cases he : I 113 q = I 113 w
          · rcases run_eq hz hy p a m with ⟨g0, g1, g2, pp, aa, mm, rfl, rfl, rfl, g3, g4⟩ | ⟨g0, g1⟩
            · have c1 := p_cpyI (S := S) (I := I) (L := L) (T := T) (K := K) (Λ := Λ) (pk_rr hq4).2 (pk_rr hw4).2 (show pp + mm ≤ 24 by omega) (show aa + mm ≤ 24 by omega) (by decide) (by decide)
              generalize hF : va_cpy (I (63 + 2 * q + 1)) (I (63 + 2 * w + 1)) pp aa mm = F at c1
              have e113 : va_up I (63 + 2 * w + 1) F 113 = I 113 := va_up_n (by omega)
              have e114 : va_up I (63 + 2 * w + 1) F 114 = I 114 := va_up_n (by omega)
              have e115 : va_up I (63 + 2 * w + 1) F 115 = I 115 := va_up_n (by omega)
              have e120 : va_up I (63 + 2 * w + 1) F 120 = I 120 := va_up_n (by omega)
              obtain ⟨G, hG, d1⟩ := copy91_go (S := S) (I := va_up I (63 + 2 * w + 1) F) (L := L) (T := T) (K := K) (Λ := Λ) hq4 (show pp + mm ≤ 24 by omega) (nI w) (nI aa) mm (199 - mm) 0 (va_up I (63 + 2 * w + 1) F 120) (by omega) (fun y hy => absurd hy (Nat.not_lt_zero _))
              rw [p_up_id] at d1
              have d2 := copy92_go (S := S) (I := va_up (va_up I (63 + 2 * w + 1) F) 120 G) (L := L) (T := T) (K := K) (Λ := Λ) hw4 (show aa + mm ≤ 24 by omega) mm (199 - mm) 0 (va_up (va_up I (63 + 2 * w + 1) F) 120 G 115) (by omega) (fun y => by rw [if_neg (by omega)])
              rw [p_up_id] at d2
              rw [show mm + 1 + (199 - mm) = 200 by omega] at d1 d2
              refine both_go (h1 := p_H K S (va_up I (63 + 2 * w + 1) F) L T Λ) (L2 := L) (nI mm) ?_ ?_ (k_row (I' := va_up (va_up (va_up I (63 + 2 * w + 1) F) 120 G) 115 (fun y => if 24 * w + aa ≤ y ∧ y < 24 * w + aa + mm then va_up (va_up I (63 + 2 * w + 1) F) 120 G 120 (y - (24 * w + aa)) else va_up (va_up I (63 + 2 * w + 1) F) 120 G 115 y)) (s := w) (z := y) (x := I 113 w) hinv hw4 u2 hy u1 u3 (fun _ _ => rfl) ?_ (fun q hq => ?_) ?_ (fun q hq => ?_) (fun v hv => ?_) (fun v hv => ?_) (fun v h1 h2 h3 h4 h5 => ?_))
              · unfold fX8_copy
                simp only [gB_o, Option.bind_some, e_on, q_sheetOf hq4, q_sheetOf hw4, gR_0 (pk_rr hq4), gR_0 (pk_rr hw4), gR_2 (pk_rr hq4), gR_2 (pk_rr hw4), r1, u1, if_neg hm, if_neg hm2, if_pos he, q_hasRun (pk_rr hq4) r3, q_hasRun (pk_rr hw4) u3, g1, g2, if_neg eb_t, c1]
              · have g0' : (if nI pp < 0 then (false : Bool) else if nI aa < 0 then false else if nI mm < 0 then false else if (nI z - nI mm) < nI pp then false else if nI aa ≤ (nI y - nI mm) then true else false) = true := g0
                have k1 : ¬ nI pp < 0 := fun z => by rw [if_pos z] at g0'; exact absurd g0' (by decide)
                rw [if_neg k1] at g0'
                have k2 : ¬ nI aa < 0 := fun z => by rw [if_pos z] at g0'; exact absurd g0' (by decide)
                rw [if_neg k2] at g0'
                have k3 : ¬ nI mm < 0 := fun z => by rw [if_pos z] at g0'; exact absurd g0' (by decide)
                rw [if_neg k3] at g0'
                have k4 : ¬ (nI z - nI mm) < nI pp := fun z => by rw [if_pos z] at g0'; exact absurd g0' (by decide)
                rw [if_neg k4] at g0'
                have k5 : nI aa ≤ (nI y - nI mm) := Classical.byContradiction fun z => by rw [if_neg z] at g0'; exact absurd g0' (by decide)
                unfold fX9_copy
                simp only [gM_o, Option.bind_some, e_on, isSheet_yes hq, isSheet_yes hw, if_neg eb_t, gM_30, gM_31, p_ldI pk_113 hq4 (show 4 < 2 ^ 31 by decide), p_ldI pk_113 hw4 (show 4 < 2 ^ 31 by decide), p_ldI pk_114 hq4 (show 4 < 2 ^ 31 by decide), p_ldI pk_114 hw4 (show 4 < 2 ^ 31 by decide), e113, e114, if_neg (i32_nlt (pos _ r2 hm)), if_pos (pos _ u2 hm2), if_pos he, r4, u4, if_neg k1, if_neg k2, if_neg k3, if_neg k4, if_pos k5]
                exact d1.trans d2
              · rw [va_up_n (by decide), va_up_n (by decide), e113]
              · rw [va_up_n (by decide), va_up_n (by decide), e113]
              · rw [va_up_n (by decide), va_up_n (by decide), e114]; exact u4
              · rw [va_up_n (by decide), va_up_n (by decide), e114]
              · rw [va_up_n (by omega), va_up_n (by omega), va_up_s, va_up_s, va_up_s, va_up_n (show 115 ≠ 120 by decide), e115, ← hF]
                unfold va_cpy
                by_cases e : aa ≤ v ∧ v < aa + mm
                · rw [if_pos e, if_pos (by omega), hG _ (by omega), e115, r5 _ (by omega)]
                  congr 1
                  omega
                · rw [if_neg e, if_neg (by omega)]
                  exact u5 v hv
              · rw [va_up_s, if_neg (by omega), va_up_n (by decide), e115]
              · have h120 : v ≠ 120 := fun z => h5 (by rw [z]; decide)
                rw [va_up_n h3, va_up_n h120, va_up_n h4]
            · refine both_bad (r := -1000000013) hinv ?_ ?_
              · unfold fX8_copy
                simp only [gB_o, Option.bind_some, e_on, q_sheetOf hq4, q_sheetOf hw4, gR_0 (pk_rr hq4), gR_0 (pk_rr hw4), gR_2 (pk_rr hq4), gR_2 (pk_rr hw4), r1, u1, if_neg hm, if_neg hm2, if_pos he, q_hasRun (pk_rr hq4) r3, q_hasRun (pk_rr hw4) u3]
                cases e1 : p_run z p m
                · rw [if_pos eb_f]
                · rw [e1, Bool.true_and] at g1
                  rw [if_neg eb_t, g1, if_pos eb_f]
              · have g0' : (if p < 0 then (false : Bool) else if a < 0 then false else if m < 0 then false else if (nI z - m) < p then false else if a ≤ (nI y - m) then true else false) = false := g0
                unfold fX9_copy
                simp only [gM_o, Option.bind_some, e_on, isSheet_yes hq, isSheet_yes hw, if_neg eb_t, gM_30, gM_31, p_ldI pk_113 hq4 (show 4 < 2 ^ 31 by decide), p_ldI pk_113 hw4 (show 4 < 2 ^ 31 by decide), p_ldI pk_114 hq4 (show 4 < 2 ^ 31 by decide), p_ldI pk_114 hw4 (show 4 < 2 ^ 31 by decide), if_neg (i32_nlt (pos _ r2 hm)), if_pos (pos _ u2 hm2), if_pos he, r4, u4]
                by_cases k1 : p < 0
                · rw [if_pos k1]
                · rw [if_neg k1] at g0' ⊢
                  by_cases k2 : a < 0
                  · rw [if_pos k2]
                  · rw [if_neg k2] at g0' ⊢
                    by_cases k3 : m < 0
                    · rw [if_pos k3]
                    · rw [if_neg k3] at g0' ⊢
                      by_cases k4 : (nI z - m) < p
                      · rw [if_pos k4]
                      · rw [if_neg k4] at g0' ⊢
                        by_cases k5 : a ≤ (nI y - m)
                        · rw [if_pos k5] at g0'
                          exact absurd g0' (by decide)
                        · rw [if_neg k5]
          · refine both_bad (r := -1000000012) hinv ?_ ?_
            · unfold fX8_copy
              simp only [gB_o, Option.bind_some, e_on, q_sheetOf hq4, q_sheetOf hw4, gR_0 (pk_rr hq4), gR_0 (pk_rr hw4), r1, u1, if_neg hm, if_neg hm2, if_neg he]
            · unfold fX9_copy
              simp only [gM_o, Option.bind_some, e_on, isSheet_yes hq, isSheet_yes hw, if_neg eb_t, gM_30, p_ldI pk_113 hq4 (show 4 < 2 ^ 31 by decide), p_ldI pk_113 hw4 (show 4 < 2 ^ 31 by decide), if_neg (i32_nlt (pos _ r2 hm)), if_pos (pos _ u2 hm2), if_neg he]
    · refine both_bad (r := -1000000001) hinv ?_ ?_
      · unfold fX8_copy
        simp only [gB_o, Option.bind_some, e_on, q_sheetOf hq4, q_sheetOf_no hr]
      · unfold fX9_copy
        simp only [gM_o, Option.bind_some, e_on, isSheet_yes hq, isSheet_no hr, if_neg eb_t, if_pos eb_f]
  · refine both_bad (r := -1000000001) hinv ?_ ?_
    · unfold fX8_copy
      rcases rng_or t (n := 3) (by decide) with ⟨w, hw, rfl⟩ | ⟨hno2, hr2⟩
      · simp only [gB_o, Option.bind_some, e_on, q_sheetOf_no hr, q_sheetOf (show w < 4 by omega)]
      · simp only [gB_o, Option.bind_some, e_on, q_sheetOf_no hr, q_sheetOf_no hr2]
    · unfold fX9_copy
      simp only [gM_o, Option.bind_some, e_on, isSheet_no hr, if_pos eb_f]
