theorem p_inv.slot {S S' I I' : Nat → Nat → Int32} {T : Nat → Nat → Option Nat} {K : Nat} {Λ : Nat → p_Lw} (h : p_inv K S I T Λ) (hS : ∀ a, a < 71 ∨ 95 < a → S' a = S a) (hI : ∀ a, (a < 71 ∨ 95 < a) → a ≠ 116 → a ≠ 117 → a ≠ 118 → a ≠ 119 → a ∉ p_scI → I' a = I a) (hr : p_slot9 S' I') : p_inv K S' I' T Λ := by
  obtain ⟨⟨lw, cn, tn, h1⟩, ⟨b, h2, h3, h4⟩, ⟨l, h5, h6, h7, h8⟩, ⟨m, h9, h10, h11, h12⟩, h13, h14, h15⟩ := h
  refine ⟨⟨lw, cn, tn, h1.fr (fun x z1 z2 => hS x (by omega)) (fun x z1 z2 => hI x (by omega) (by omega) (by omega) (by omega) (by omega) (p_sc_n (by omega))) (hI 97 (by decide) (by decide) (by decide) (by decide) (by decide) (by decide))⟩, ⟨b, ?_, ?_, fun hb => ?_⟩, ⟨l, h5, ?_, ?_, ?_⟩, ⟨m, h9, ?_, ?_, ?_⟩, fun s hs => ?_, hr, ?_⟩
  · rw [hS 0 (by decide)]; exact h2
  · rw [hS 96 (by decide)]; exact h3
  · obtain ⟨lw, cn, tn, h⟩ := h4 hb
    exact ⟨lw, cn, tn, h.fr (fun x z1 z2 => hS x (by omega)) (fun x z1 z2 => hI x (by omega) (by omega) (by omega) (by omega) (by omega) (p_sc_n (by omega))) (hI 98 (by decide) (by decide) (by decide) (by decide) (by decide) (by decide))⟩
  · rw [hS 57 (by decide)]; exact h6
  · rw [hS 96 (by decide)]; exact h7
  · rw [hI 58 (by decide) (by decide) (by decide) (by decide) (by decide) (by decide), hI 105 (by decide) (by decide) (by decide) (by decide) (by decide) (by decide)]; exact h8
  · rw [hS 0 (by decide)]; exact h10
  · rw [hS 96 (by decide)]; exact h11
  · rw [hI 62 (by decide) (by decide) (by decide) (by decide) (by decide) (by decide), hI 121 (by decide) (by decide) (by decide) (by decide) (by decide) (by decide)]; exact h12
  · rw [hS (63 + 2 * s) (by omega), hI 113 (by decide) (by decide) (by decide) (by decide) (by decide) (by decide), hI 114 (by decide) (by decide) (by decide) (by decide) (by decide) (by decide), hI 115 (by decide) (by decide) (by decide) (by decide) (by decide) (by decide), hI (63 + 2 * s + 1) (by omega) (by omega) (by omega) (by omega) (by omega) (p_sc_n (by omega))]
    exact h13 s hs
  · unfold p_key9 at h15 ⊢
    rw [hI 106 (by decide) (by decide) (by decide) (by decide) (by decide) (by decide), hI 107 (by decide) (by decide) (by decide) (by decide) (by decide) (by decide)]
    exact h15
def p_so (S I : Nat → Nat → Int32) (s : Nat) : Prop := ∃ v, v ≤ 3 ∧ S (71 + 5 * s) 0 = nI v ∧ I 116 s = nI v ∧
  (v = 1 → S (72 + 5 * s) 0 = I 117 s ∧ p_worth (S (72 + 5 * s) 0) (I (72 + 5 * s + 1)) = I 118 s) ∧
  (v = 2 → (∃ z, z ≤ 24 ∧ S (74 + 5 * s) 1 = nI z ∧ I 117 s = nI z) ∧ ∀ x, x < 24 → I (74 + 5 * s + 1) x = I 119 (24 * s + x)) ∧
  (v = 3 → S (71 + 5 * s) 1 = I 117 s)
theorem k_slot {S S' I I' : Nat → Nat → Int32} {T : Nat → Nat → Option Nat} {K : Nat} {Λ : Nat → p_Lw} {s : Nat} (h : p_inv K S I T Λ) (hs : s < 5) (s3 : ∀ a, a ≠ 71 + 5 * s → a ≠ 72 + 5 * s → a ≠ 74 + 5 * s → S' a = S a) (i2 : ∀ q, q ≠ s → I' 116 q = I 116 q ∧ I' 117 q = I 117 q ∧ I' 118 q = I 118 q) (i6 : ∀ y, y < 24 * s ∨ 24 * s + 24 ≤ y → I' 119 y = I 119 y) (i7 : ∀ a, a ≠ 116 → a ≠ 117 → a ≠ 118 → a ≠ 119 → a ≠ 72 + 5 * s + 1 → a ≠ 74 + 5 * s + 1 → a ∉ p_scI → I' a = I a) (hn : p_so S' I' s) : p_inv K S' I' T Λ := by
  have hsl := h.2.2.2.2.2.1
  refine h.slot (fun a ha => s3 a (by omega) (by omega) (by omega)) (fun a h1 h2 h3 h4 h5 h6 => i7 a h2 h3 h4 h5 (by omega) (by omega) h6) (fun q hq => ?_)
  by_cases e : q = s
  · subst e
    exact hn
  · have e1 := s3 (71 + 5 * q) (by omega) (by omega) (by omega)
    have e2 := s3 (72 + 5 * q) (by omega) (by omega) (by omega)
    have e3 := s3 (74 + 5 * q) (by omega) (by omega) (by omega)
    have e4 := i7 (72 + 5 * q + 1) (by omega) (by omega) (by omega) (by omega) (by omega) (by omega) (p_sc_n (by omega))
    have e5 := i7 (74 + 5 * q + 1) (by omega) (by omega) (by omega) (by omega) (by omega) (by omega) (p_sc_n (by omega))
    have e6 : ∀ x, x < 24 → I' 119 (24 * q + x) = I 119 (24 * q + x) := fun x hx => i6 _ (by omega)
    have := hsl q hq
    rw [e1, e2, e3, (i2 q e).1, (i2 q e).2.1, (i2 q e).2.2, e4, e5]
    obtain ⟨v, h1, h2, h3, h4, h5, h6⟩ := this
    refine ⟨v, h1, h2, h3, h4, fun hv => ⟨(h5 hv).1, fun x hx => ?_⟩, h6⟩
    rw [e6 x hx]
    exact (h5 hv).2 x hx
theorem isSlot_yes {s : Nat} (h : s ≤ 4) : fX9_isSlot (nI s) = some true := by
  unfold fX9_isSlot
  rw [in_yes h (by decide), Option.bind_some]
theorem isSlot_no {a : Int32} (h : a < 0 ∨ (¬ a < 0 ∧ nI 4 < a)) : fX9_isSlot a = some false := by
  unfold fX9_isSlot
  rw [in_no h, Option.bind_some]
section SLOTS
variable {K : Nat} {S I : Nat → Nat → Int32} {L : Nat → Nat → Int64} {T : Nat → Nat → Option Nat} {Λ : Nat → p_Lw}
theorem q_slotOf {s : Nat} (hs : s < 5) : fX8_slotOf 0 (nI s) (p_H K S I L T Λ) = some (some (71 + 5 * s)) := by
  have e : (if s < 5 then some (71 + 5 * s) else none) = some (71 + 5 * s) := if_pos hs
  unfold fX8_slotOf
  simp only [gB_o, gB_6, Option.bind_some, e_on, p_lenF pk_61, p_ldF pk_61 hs (show 5 < 2 ^ 31 by decide)]
  rw [if_neg (nI_pos (by omega)), if_pos (nI_lt hs (by decide)), e]
theorem q_slotOf_no {c : Int32} (h : c < 0 ∨ (¬ c < 0 ∧ nI 4 < c)) : fX8_slotOf 0 c (p_H K S I L T Λ) = some none := by
  unfold fX8_slotOf
  simp only [gB_o, gB_6, Option.bind_some, e_on, p_lenF pk_61]
  rcases h with h | ⟨h, h2⟩
  · rw [if_pos h]
  · rw [if_neg h]
    obtain ⟨j, hj, rfl⟩ := nI_of h
    rw [if_neg (nI_nlt ((nI_ltI (by decide) hj).mp h2) hj)]
theorem q_rowBecomes {a b : Nat} (ha : p_isR a) (hb : p_isR b) (hab : b ≠ a) : fX2_becomes a b (p_H K S I L T Λ) = some (p_H K (p_s (p_s S a 0 (S b 0)) a 1 (S b 1)) (va_up I (a + 1) (va_cpy (I (b + 1)) (I (a + 1)) 0 0 24)) L T Λ) := by
  unfold fX2_becomes
  simp only [gR_o ha, gR_0 hb, gR_p0 ha, gR_1 hb, gR_p1 ha, gR_2 hb, gR_2 ha, Option.bind_some, e_on, p_s_n hab, p_cpyI (sp := 0) (dp := 0) hb.2 ha.2 (show 0 + 24 ≤ 24 by decide) (show 0 + 24 ≤ 24 by decide) (show 24 < 2 ^ 31 by decide) (show 24 < 2 ^ 31 by decide)]
theorem lay9_go {s k : Nat} (hs : s < 5) (hk : k < 4) (l4 : Int32) : ∀ (d m x : Nat) (B : Nat → Int32), x + d = 24 → (∀ y, B y = if 24 * s ≤ y ∧ y < 24 * s + x then I 115 (24 * k + (y - 24 * s)) else I 119 y) → fX9_lay_L134 (d + 1 + m) 96 (nI s) (nI 2) (nI k) l4 (nI x) (p_H K S (va_up I 119 B) L T Λ) = some (l4, p_H K S (va_up I 119 (fun y => if 24 * s ≤ y ∧ y < 24 * s + 24 then I 115 (24 * k + (y - 24 * s)) else I 119 y)) L T Λ)
  | 0, m, x, B, hx, hB => by
    have e : B = fun y => if 24 * s ≤ y ∧ y < 24 * s + 24 then I 115 (24 * k + (y - 24 * s)) else I 119 y := by
      funext y
      rw [hB, show x = 24 by omega]
    rw [show 0 + 1 + m = m + 1 by omega, ← e]
    show fX9_lay_b134 _ _ _ _ _ _ _ _ = _
    unfold fX9_lay_b134
    rw [if_pos (nI_le (by omega) (by omega))]
  | d + 1, m, x, B, hx, hB => by
    have e115 : va_up I 119 B 115 = I 115 := va_up_n (by decide)
    rw [show d + 1 + 1 + m = (d + 1 + m) + 1 by omega]
    show fX9_lay_b134 _ _ _ _ _ _ _ _ = _
    unfold fX9_lay_b134
    rw [if_neg (nI_ge (by omega) (by omega)), if_pos rfl]
    simp only [gM_36, gM_32, Option.bind_some, e_on, nI_mul, nI_add, p_ldI pk_115 (show 24 * k + x < 96 by omega) (show 96 < 2 ^ 31 by decide), p_stI pk_119 (show 24 * s + x < 120 by omega) (show 120 < 2 ^ 31 by decide), va_up_s, va_up_up, e115]
    refine lay9_go hs hk l4 d m (x + 1) _ (by omega) (fun y => ?_)
    simp only [upd]
    by_cases e : y = 24 * s + x
    · rw [if_pos e, if_pos (by omega), show y - 24 * s = x by omega]
    · rw [if_neg e, hB]
      by_cases e2 : 24 * s ≤ y ∧ y < 24 * s + x
      · rw [if_pos e2, if_pos (by omega)]
      · rw [if_neg e2, if_neg (by omega)]
theorem lay9_no {l2 : Int32} (h : ¬ l2 = nI 2) (l1 l3 l4 : Int32) (g : e_H) : fX9_lay_L134 200 96 l1 l2 l3 l4 (nI 0) g = some (l4, g) := by
  show fX9_lay_b134 _ _ _ _ _ _ _ _ = _
  unfold fX9_lay_b134
  rw [if_neg (by decide), if_neg h]
end SLOTS
theorem c_ask (s w : Int32) : p_both0 (fX8_ask 0 s w) (fX9_ask 96 s w) := by
  intro K S I L T Λ hinv
  have hsl := hinv.2.2.2.2.2.1
  rcases rng_or s (n := 4) (by decide) with ⟨q, hq, rfl⟩ | ⟨hno, hr⟩
  · have hq5 : q < 5 := by omega
    obtain ⟨v, h1, h2, h3, h4, h5, h6⟩ := hsl q hq5
    rcases kind_or w with ⟨j, hj, -, k1, k2⟩ | ⟨k1, k2⟩
    · by_cases v0 : v = 0
      · subst v0
        refine ⟨-1000000011, ?_, ?_⟩
        · unfold fX8_ask
          simp only [gB_o, Option.bind_some, e_on, q_slotOf hq5, k1, if_neg eb_t, gL_0 hq5, h2]
          rw [if_pos nI_0]
        · unfold fX9_ask
          simp only [gM_o, Option.bind_some, e_on, isSlot_yes hq, k2, if_neg eb_t, gM_33, p_ldI pk_116 hq5 (show 5 < 2 ^ 31 by decide), h3]
          rw [if_pos nI_0]
      · have n0 : ¬ nI v = 0 := fun z => v0 ((nI_eq (by omega) (by decide)).mp z)
        by_cases v1 : v = 1
        · obtain ⟨a1, a2⟩ := h4 v1
          subst v1
          refine ⟨if p_under (I 117 q) w then I 118 q else -1000000012, ?_, ?_⟩
          · unfold fX8_ask
            simp only [gB_o, Option.bind_some, e_on, q_slotOf hq5, k1, if_neg eb_t, gL_0 hq5, gL_2 hq5, h2, q_isOf (pk_cs hq5), q_worth (pk_cs hq5), a1]
            rw [a1] at a2
            rw [if_neg n0, if_pos trivial, a2]
            cases p_under (I 117 q) w
            · rw [if_pos eb_f]; rfl
            · rw [if_neg eb_t]; rfl
          · unfold fX9_ask
            simp only [gM_o, Option.bind_some, e_on, isSlot_yes hq, k2, if_neg eb_t, gM_33, gM_34, gM_35, p_ldI pk_116 hq5 (show 5 < 2 ^ 31 by decide), p_ldI pk_117 hq5 (show 5 < 2 ^ 31 by decide), p_ldI pk_118 hq5 (show 5 < 2 ^ 31 by decide), h3, q9_isUnder]
            rw [if_neg n0, if_pos trivial]
            cases p_under (I 117 q) w
            · rw [if_pos eb_f]; rfl
            · rw [if_neg eb_t]; rfl
        · have n1 : ¬ nI v = nI 1 := fun z => v1 ((nI_eq (by omega) (by decide)).mp z)
          refine ⟨-1000000012, ?_, ?_⟩
          · unfold fX8_ask
            simp only [gB_o, Option.bind_some, e_on, q_slotOf hq5, k1, if_neg eb_t, gL_0 hq5, h2, if_neg n0, if_neg n1]
          · unfold fX9_ask
            simp only [gM_o, Option.bind_some, e_on, isSlot_yes hq, k2, if_neg eb_t, gM_33, p_ldI pk_116 hq5 (show 5 < 2 ^ 31 by decide), h3, if_neg n0, if_neg n1]
    · refine ⟨-1000000001, ?_, ?_⟩
      · unfold fX8_ask
        simp only [gB_o, Option.bind_some, e_on, q_slotOf hq5, k1, if_pos eb_f]
      · unfold fX9_ask
        simp only [gM_o, Option.bind_some, e_on, isSlot_yes hq, k2, if_neg eb_t, if_pos eb_f]
  · refine ⟨-1000000001, ?_, ?_⟩
    · unfold fX8_ask
      simp only [gB_o, Option.bind_some, e_on, q_slotOf_no hr]
    · unfold fX9_ask
      simp only [gM_o, Option.bind_some, e_on, isSlot_no hr, if_pos eb_f]
theorem c_item (s p : Int32) : p_both0 (fX8_item 0 s p) (fX9_item 96 s p) := by
  intro K S I L T Λ hinv
  have hsl := hinv.2.2.2.2.2.1
  rcases rng_or s (n := 4) (by decide) with ⟨q, hq, rfl⟩ | ⟨hno, hr⟩
  · have hq5 : q < 5 := by omega
    obtain ⟨v, h1, h2, h3, h4, h5, h6⟩ := hsl q hq5
    by_cases v0 : v = 0
    · subst v0
      refine ⟨-1000000011, ?_, ?_⟩
      · unfold fX8_item
        simp only [gB_o, Option.bind_some, e_on, q_slotOf hq5, gL_0 hq5, h2]
        rw [if_pos nI_0]
      · unfold fX9_item
        simp only [gM_o, Option.bind_some, e_on, isSlot_yes hq, if_neg eb_t, gM_33, p_ldI pk_116 hq5 (show 5 < 2 ^ 31 by decide), h3]
        rw [if_pos nI_0]
    · have n0 : ¬ nI v = 0 := fun z => v0 ((nI_eq (by omega) (by decide)).mp z)
      by_cases v2 : v = 2
      · obtain ⟨⟨z, hz, a1, a2⟩, a3⟩ := h5 v2
        have n2 : nI v = nI 2 := by rw [v2]
        rcases cur_or p (n := z) (by omega) with ⟨j, hj, rfl⟩ | hp
        · refine ⟨if I 119 (24 * q + j) = -1000000005 then -1000000012 else I 119 (24 * q + j), ?_, ?_⟩
          · unfold fX8_item
            simp only [gB_o, Option.bind_some, e_on, q_slotOf hq5, gL_0 hq5, gL_3 hq5, h2, if_neg n0, if_pos n2, q_hasPlace (pk_rs hq5) a1 hz hj, q_placeAt (pk_rs hq5) a1 hz hj, if_neg eb_t, a3 j (show j < 24 by omega)]
            split <;> rfl
          · unfold fX9_item
            simp only [gM_o, Option.bind_some, e_on, isSlot_yes hq, if_neg eb_t, gM_33, gM_34, gM_36, p_ldI pk_116 hq5 (show 5 < 2 ^ 31 by decide), p_ldI pk_117 hq5 (show 5 < 2 ^ 31 by decide), h3, if_neg n0, if_pos n2, a2, inz_yes hj (show z ≤ 96 by omega), nI_mul, nI_add, p_ldI pk_119 (show 24 * q + j < 120 by omega) (show 120 < 2 ^ 31 by decide)]
            split <;> rfl
        · refine ⟨-1000000013, ?_, ?_⟩
          · unfold fX8_item
            simp only [gB_o, Option.bind_some, e_on, q_slotOf hq5, gL_0 hq5, gL_3 hq5, h2, if_neg n0, if_pos n2, q_hasPlace_no (pk_rs hq5) a1 hp, if_pos eb_f]
          · unfold fX9_item
            simp only [gM_o, Option.bind_some, e_on, isSlot_yes hq, if_neg eb_t, gM_33, gM_34, p_ldI pk_116 hq5 (show 5 < 2 ^ 31 by decide), p_ldI pk_117 hq5 (show 5 < 2 ^ 31 by decide), h3, if_neg n0, if_pos n2, a2, inz_no (show z ≤ 96 by omega) hp, if_pos eb_f]
      · have n2 : ¬ nI v = nI 2 := fun z => v2 ((nI_eq (by omega) (by decide)).mp z)
        refine ⟨-1000000012, ?_, ?_⟩
        · unfold fX8_item
          simp only [gB_o, Option.bind_some, e_on, q_slotOf hq5, gL_0 hq5, h2, if_neg n0, if_neg n2]
        · unfold fX9_item
          simp only [gM_o, Option.bind_some, e_on, isSlot_yes hq, if_neg eb_t, gM_33, p_ldI pk_116 hq5 (show 5 < 2 ^ 31 by decide), h3, if_neg n0, if_neg n2]
  · refine ⟨-1000000001, ?_, ?_⟩
    · unfold fX8_item
      simp only [gB_o, Option.bind_some, e_on, q_slotOf_no hr]
    · unfold fX9_item
      simp only [gM_o, Option.bind_some, e_on, isSlot_no hr, if_pos eb_f]
theorem rest_m1 (x : Int32) : x - x / (-1 : Int32) * (-1 : Int32) = nI 0 := by
  have e : x / (-1 : Int32) = -x := by
    apply Int32.toInt_inj.mp
    rw [Int32.toInt_div, show (-1 : Int32).toInt = -1 from rfl, Int.tdiv_neg, Int.tdiv_one, Int32.toInt_neg]
  rw [e, nI_0]
  grind
theorem c_rest (s n : Int32) : p_both0 (fX8_rest 0 s n) (fX9_rest 96 s n) := by
  intro K S I L T Λ hinv
  have hsl := hinv.2.2.2.2.2.1
  rcases rng_or s (n := 4) (by decide) with ⟨q, hq, rfl⟩ | ⟨hno, hr⟩
  · have hq5 : q < 5 := by omega
    obtain ⟨v, h1, h2, h3, h4, h5, h6⟩ := hsl q hq5
    by_cases v0 : v = 0
    · subst v0
      refine ⟨-1000000011, ?_, ?_⟩
      · unfold fX8_rest
        simp only [gB_o, Option.bind_some, e_on, q_slotOf hq5, gL_0 hq5, h2]
        rw [if_pos nI_0]
      · unfold fX9_rest
        simp only [gM_o, Option.bind_some, e_on, isSlot_yes hq, if_neg eb_t, gM_33, p_ldI pk_116 hq5 (show 5 < 2 ^ 31 by decide), h3]
        rw [if_pos nI_0]
    · have n0 : ¬ nI v = 0 := fun z => v0 ((nI_eq (by omega) (by decide)).mp z)
      by_cases v3 : v = 3
      · have a1 := h6 v3
        have n3 : nI v = nI 3 := by rw [v3]
        by_cases hn : n = 0
        · refine ⟨-1000000002, ?_, ?_⟩
          · unfold fX8_rest
            simp only [gB_o, Option.bind_some, e_on, q_slotOf hq5, gL_0 hq5, h2, if_neg n0, if_pos n3, if_pos hn]
          · unfold fX9_rest
            simp only [gM_o, Option.bind_some, e_on, isSlot_yes hq, if_neg eb_t, gM_33, p_ldI pk_116 hq5 (show 5 < 2 ^ 31 by decide), h3, if_neg n0, if_pos n3, if_pos hn]
        · refine ⟨I 117 q - I 117 q / n * n, ?_, ?_⟩
          · unfold fX8_rest
            simp only [gB_o, Option.bind_some, e_on, q_slotOf hq5, gL_0 hq5, gL_1 hq5, h2, if_neg n0, if_pos n3, if_neg hn, a1]
          · unfold fX9_rest
            simp only [gM_o, Option.bind_some, e_on, isSlot_yes hq, if_neg eb_t, gM_33, gM_34, p_ldI pk_116 hq5 (show 5 < 2 ^ 31 by decide), p_ldI pk_117 hq5 (show 5 < 2 ^ 31 by decide), h3, if_neg n0, if_pos n3, if_neg hn]
            by_cases hm : n = -1
            · rw [if_pos hm, hm, rest_m1]
            · rw [if_neg hm]
      · have n3 : ¬ nI v = nI 3 := fun z => v3 ((nI_eq (by omega) (by decide)).mp z)
        refine ⟨-1000000012, ?_, ?_⟩
        · unfold fX8_rest
          simp only [gB_o, Option.bind_some, e_on, q_slotOf hq5, gL_0 hq5, h2, if_neg n0, if_neg n3]
        · unfold fX9_rest
          simp only [gM_o, Option.bind_some, e_on, isSlot_yes hq, if_neg eb_t, gM_33, p_ldI pk_116 hq5 (show 5 < 2 ^ 31 by decide), h3, if_neg n0, if_neg n3]
  · refine ⟨-1000000001, ?_, ?_⟩
    · unfold fX8_rest
      simp only [gB_o, Option.bind_some, e_on, q_slotOf_no hr]
    · unfold fX9_rest
      simp only [gM_o, Option.bind_some, e_on, isSlot_no hr, if_pos eb_f]
