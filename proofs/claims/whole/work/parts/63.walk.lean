def p_fcf (c : Nat → Int64) : Nat → Int32
  | 0 => -1
  | n + 1 => if p_lx c (4 - n) = 17 then p_fcf c n else nI (4 - n)
-- FIRST POWER: what is above and below
def p_sf2 (c : Nat → Int64) (j : Nat) : Nat → Int32 × Nat → Int32 × Nat
  | 0, s => s
  | n + 1, s => if p_lx c (4 - n) = 17 then p_sf2 c j n s else if s.2 = 0 ∨ ¬ (nI (p_lx c j) - nI (p_lx c (4 - n))) * nI s.2 < s.1 * (nI (4 - n - j)) then p_sf2 c j n (nI (p_lx c j) - nI (p_lx c (4 - n)), 4 - n - j) else p_sf2 c j n s
def p_stp (j : Nat) (s : Int32 × Nat) : Int32 := if s.2 = 0 then -1 else nI (j + s.2)
theorem p_sf2_le (c : Nat → Int64) (j : Nat) : ∀ (n : Nat) (s : Int32 × Nat), s.2 ≤ 4 → (p_sf2 c j n s).2 ≤ 4
  | 0, s, h => h
  | n + 1, s, h => by
    unfold p_sf2
    split
    · exact p_sf2_le c j n s h
    · split
      · exact p_sf2_le c j n _ (show 4 - n - j ≤ 4 by omega)
      · exact p_sf2_le c j n s h
def p_htf (c : Nat → Int64) (t : Int64) : Nat → Int32
  | 0 => -1
  | n + 1 => if p_sl c (20 - n) t = 0 then p_htf c t n else nI (20 - n)
def p_huf (c : Nat → Int64) : Nat → Int32
  | 0 => -1
  | n + 1 => if c (4 - n) = 0 then p_huf c n else nI (4 - n)
section CORNER
variable {K : Nat} {S I : Nat → Nat → Int32} {L : Nat → Nat → Int64} {T : Nat → Nat → Option Nat} {Λ : Nat → p_Lw}
theorem fc_go {s : Nat} (hs : p_isS s) : ∀ (n f : Nat), n ≤ 5 → fX3_firstCorner_L2 (p_H K S I L T Λ) (n + 1 + f) s (nI (5 - n)) = some (p_fcf (L (s + 1)) n)
  | 0, f, hn => by
    rw [show 0 + 1 + f = f + 1 by omega]
    show fX3_firstCorner_b2 _ _ _ _ = _
    unfold fX3_firstCorner_b2
    rw [if_pos (nI_lt (by omega) (by omega))]
    rfl
  | n + 1, f, hn => by
    rw [show n + 1 + 1 + f = (n + 1 + f) + 1 by omega]
    show fX3_firstCorner_b2 _ _ _ _ = _
    unfold fX3_firstCorner_b2
    have h17 := p_lx_le (L (s + 1)) (4 - n)
    rw [if_neg (nI_nlt (by omega) (by omega)), q_leastX hs (by omega), Option.bind_some, nI_s, p_fcf, show 5 - (n + 1) = 4 - n by omega]
    by_cases h : p_lx (L (s + 1)) (4 - n) = 17
    · rw [if_pos (by rw [h]), if_pos h, show 4 - n + 1 = 5 - n by omega]
      exact fc_go hs n f (by omega)
    · rw [if_neg (fun z => h ((nI_eq (by omega) (by decide)).mp z)), if_neg h]
theorem q_firstCorner {s : Nat} (hs : p_isS s) : fX3_firstCorner s (p_H K S I L T Λ) = some (p_fcf (L (s + 1)) 5) := by
  unfold fX3_firstCorner
  rw [gS_o hs, Option.bind_some]
  exact fc_go hs 5 194 (by omega)
theorem stp_go {s j : Nat} (hs : p_isS s) (hj : j ≤ 4) : ∀ (n f : Nat) (st : Int32 × Nat) (x : Int32), n + j ≤ 4 → st.2 ≤ 4 → (st.2 ≠ 0 → x = st.1) → fX3_steepestFrom_L9 (p_H K S I L T Λ) (n + 1 + f) s (nI j) (p_stp j st) x (nI (5 - n)) = some (p_stp j (p_sf2 (L (s + 1)) j n st))
  | 0, f, st, x, hn, h4, hx => by
    rw [show 0 + 1 + f = f + 1 by omega]
    show fX3_steepestFrom_b9 _ _ _ _ _ _ _ = _
    unfold fX3_steepestFrom_b9
    rw [if_neg (nI_pos (by omega)), if_pos (nI_lt (by omega) (by omega))]
    rfl
  | n + 1, f, st, x, hn, h4, hx => by
    rw [show n + 1 + 1 + f = (n + 1 + f) + 1 by omega]
    show fX3_steepestFrom_b9 _ _ _ _ _ _ _ = _
    unfold fX3_steepestFrom_b9 fX3_steepestFrom_b49 fX3_steepestFrom_b75 fX3_steepestFrom_b81
    have h17 := p_lx_le (L (s + 1)) (4 - n)
    have h18 := p_lx_le (L (s + 1)) j
    rw [if_neg (nI_pos (by omega)), if_neg (nI_nlt (by omega) (by omega)), show 5 - (n + 1) = 4 - n by omega, q_leastX hs hj, q_leastX hs (by omega), Option.bind_some, Option.bind_some, Option.bind_some, nI_s, p_sf2, show 4 - n + 1 = 5 - n by omega, pk_sub (show j ≤ 4 - n by omega)]
    by_cases h : p_lx (L (s + 1)) (4 - n) = 17
    · rw [if_pos (by rw [h]), if_pos h, if_pos nI_0]
      exact stp_go hs hj n f st x (by omega) h4 hx
    · rw [if_neg (fun z => h ((nI_eq (by omega) (by decide)).mp z)), if_neg h, if_neg (show ¬ nI 1 = 0 by decide)]
      by_cases h0 : st.2 = 0
      · rw [if_pos (show p_stp j st < 0 by unfold p_stp; rw [if_pos h0]; decide), if_pos (Or.inl h0)]
        have := stp_go hs hj n f (nI (p_lx (L (s + 1)) j) - nI (p_lx (L (s + 1)) (4 - n)), 4 - n - j) (nI (p_lx (L (s + 1)) j) - nI (p_lx (L (s + 1)) (4 - n))) (by omega) (show 4 - n - j ≤ 4 by omega) (fun _ => rfl)
        rw [← this]
        unfold p_stp
        rw [if_neg (show ¬ (4 - n - j = 0) by omega), show j + (4 - n - j) = 4 - n by omega]
      · have e : p_stp j st = nI (j + st.2) := by unfold p_stp; rw [if_neg h0]
        rw [if_neg (show ¬ p_stp j st < 0 by rw [e]; exact nI_pos (by omega)), hx h0]
        have e2 : p_stp j st - nI j = nI st.2 := by rw [e, pk_sub (by omega)]; congr 1; omega
        rw [e2]
        by_cases h1 : (nI (p_lx (L (s + 1)) j) - nI (p_lx (L (s + 1)) (4 - n))) * nI st.2 < st.1 * nI (4 - n - j)
        · rw [if_pos h1, if_neg (fun z => z.elim h0 (fun z => z h1))]
          exact stp_go hs hj n f st st.1 (by omega) h4 (fun _ => rfl)
        · rw [if_neg h1, if_pos (Or.inr h1)]
          have := stp_go hs hj n f (nI (p_lx (L (s + 1)) j) - nI (p_lx (L (s + 1)) (4 - n)), 4 - n - j) (nI (p_lx (L (s + 1)) j) - nI (p_lx (L (s + 1)) (4 - n))) (by omega) (show 4 - n - j ≤ 4 by omega) (fun _ => rfl)
          rw [← this]
          unfold p_stp
          rw [if_neg (show ¬ (4 - n - j = 0) by omega), show j + (4 - n - j) = 4 - n by omega]
theorem q_steepest {s j : Nat} (hs : p_isS s) (hj : j ≤ 4) : fX3_steepestFrom s (nI j) (p_H K S I L T Λ) = some (p_stp j (p_sf2 (L (s + 1)) j (4 - j) (nI 0, 0))) := by
  unfold fX3_steepestFrom
  rw [gS_o hs, Option.bind_some, nI_s]
  have := stp_go (S := S) (I := I) (L := L) (T := T) (Λ := Λ) (K := K) hs hj (4 - j) (199 - (4 - j)) (nI 0, 0) (nI 0) (by omega) (by decide) (fun z => absurd rfl z)
  rw [show 4 - j + 1 + (199 - (4 - j)) = 200 by omega, show 5 - (4 - j) = j + 1 by omega] at this
  exact this
theorem q_steepest_no {s : Nat} (hs : p_isS s) : fX3_steepestFrom s (-1 : Int32) (p_H K S I L T Λ) = some (-1) := by
  unfold fX3_steepestFrom
  rw [gS_o hs, Option.bind_some, show (200 : Nat) = 199 + 1 by rfl]
  show fX3_steepestFrom_b9 _ _ _ _ _ _ _ = _
  unfold fX3_steepestFrom_b9
  rw [if_pos (by decide)]
theorem hu_go {s : Nat} (hs : p_isS s) : ∀ (n f : Nat), n ≤ 5 → fX3_holdsToUpright_L2 (p_H K S I L T Λ) (n + 1 + f) s (nI (5 - n)) = some (p_huf (L (s + 1)) n)
  | 0, f, hn => by
    rw [show 0 + 1 + f = f + 1 by omega]
    show fX3_holdsToUpright_b2 _ _ _ _ = _
    unfold fX3_holdsToUpright_b2
    rw [if_pos (nI_lt (by omega) (by omega))]
    rfl
  | n + 1, f, hn => by
    rw [show n + 1 + 1 + f = (n + 1 + f) + 1 by omega]
    show fX3_holdsToUpright_b2 _ _ _ _ = _
    unfold fX3_holdsToUpright_b2
    rw [if_neg (nI_nlt (by omega) (by omega)), q_num hs (by omega) (by omega), Option.bind_some, nI_s, p_huf, show 5 * 0 + (5 - (n + 1)) = 4 - n by omega, show 5 - (n + 1) = 4 - n by omega]
    by_cases h : L (s + 1) (4 - n) = 0
    · rw [if_pos ((lg_cmp_eq _ _).mpr h), if_pos h, show 4 - n + 1 = 5 - n by omega]
      exact hu_go hs n f (by omega)
    · rw [if_neg (fun z => h ((lg_cmp_eq _ _).mp z)), if_neg h]
theorem q_upright {s : Nat} (hs : p_isS s) : fX3_holdsToUpright s (p_H K S I L T Λ) = some (p_huf (L (s + 1)) 5) := by
  unfold fX3_holdsToUpright
  rw [gS_o hs, Option.bind_some]
  exact hu_go hs 5 194 (by omega)
theorem ht_go {s : Nat} (hs : p_isS s) (t : Int32) : ∀ (n f : Nat), n ≤ 21 → fX3_holdsTo_L2 (p_H K S I L T Λ) (n + 1 + f) s t (nI (21 - n)) = some (p_htf (L (s + 1)) t.toInt64 n)
  | 0, f, hn => by
    rw [show 0 + 1 + f = f + 1 by omega]
    show fX3_holdsTo_b2 _ _ _ _ _ = _
    unfold fX3_holdsTo_b2
    rw [if_pos (nI_lt (by omega) (by omega))]
    rfl
  | n + 1, f, hn => by
    rw [show n + 1 + 1 + f = (n + 1 + f) + 1 by omega]
    show fX3_holdsTo_b2 _ _ _ _ _ = _
    unfold fX3_holdsTo_b2
    rw [if_neg (nI_nlt (by omega) (by omega)), q_sol hs (by omega), Option.bind_some, nI_s, p_htf, show 21 - (n + 1) = 20 - n by omega]
    by_cases h : p_sl (L (s + 1)) (20 - n) t.toInt64 = 0
    · rw [if_pos ((lg_cmp_eq _ _).mpr h), if_pos h, show 20 - n + 1 = 21 - n by omega]
      exact ht_go hs t n f (by omega)
    · rw [if_neg (fun z => h ((lg_cmp_eq _ _).mp z)), if_neg h]
theorem q_holdsTo {s : Nat} (hs : p_isS s) (t : Int32) : fX3_holdsTo s t (p_H K S I L T Λ) = some (p_htf (L (s + 1)) t.toInt64 21) := by
  unfold fX3_holdsTo
  rw [gS_o hs, Option.bind_some]
  exact ht_go hs t 21 178 (by omega)
end CORNER
theorem p_vl_shp (t : Nat → Nat → Int32) (x y : Int64) : p_shp t x y 0 = p_vl t x y := by
  simp [p_vl, p_hs, p_shp, p_sf, p_t2]
  grind
