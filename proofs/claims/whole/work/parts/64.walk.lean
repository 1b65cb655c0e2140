-- TIMES of the places
theorem nI_mod' {a b : Nat} (ha : a < 2 ^ 31) (hb : b < 2 ^ 31) : nI a - nI (a / b) * nI b = nI (a % b) := by
  rw [← nI_mod ha hb, nI_div ha hb]
def p_px (n : Nat) : Int64 := (nI (n / 11) - nI 5).toInt64
def p_py (n : Nat) : Int64 := (nI (n % 11) - nI 5).toInt64
def p_pl (n : Nat) : Int32 := nI (n / 11 * 100 + n % 11)
def p_tp (t : Nat → Nat → Int32) (n : Nat) : Nat := p_tm (p_shp t (p_px n) (p_py n))
theorem p_tp_le (t : Nat → Nat → Int32) (n : Nat) : p_tp t n ≤ 17 := p_tm_le _
theorem p_tm_z {c : Nat → Int64} (h : c 0 ≠ 0) : p_tm c = 0 := by
  refine (p_tm_un (by omega) (fun k hk h => by omega) (fun _ => ⟨0, by omega, by omega, h⟩)).symm
-- how many are not below
def p_cw (f : Nat → Int32) (a : Int32) : Nat → Nat
  | 0 => 0
  | n + 1 => if f n < a then p_cw f a n else p_cw f a n + 1
theorem p_cw_le (f : Nat → Int32) (a : Int32) : ∀ n, p_cw f a n ≤ n
  | 0 => Nat.le_refl 0
  | n + 1 => by
    have := p_cw_le f a n
    unfold p_cw
    split <;> omega
def p_cb (f g : Nat → Int32) : Nat → Nat
  | 0 => 0
  | n + 1 => if f n < nI 1 ∨ g n < nI 1 then p_cb f g n else p_cb f g n + 1
def p_pof (f : Nat → Int32) (want : Int32) : Nat → Nat → Int32
  | 0, _ => -1000000005
  | n + 1, a => if f (120 - n) < nI 1 then p_pof f want n a else if nI a = want then p_pl (120 - n) else p_pof f want n (a + 1)
def p_ms (g : Int32 → Int32 → Int32 → Int32) (f : Nat → Int32) : Nat → Int32
  | 0 => nI 0
  | n + 1 => if f n < nI 1 then p_ms g f n else p_ms g f n + p_held (g (nI (n / 11) - nI 5) (nI (n % 11) - nI 5) (f n))
def p_mg (Λ : Nat → p_Lw) (lw : Nat → Nat) (n : Nat) (a b c : Int32) : Int32 := p_lg Λ lw n (nI 2) a b c c
-- the places told against numbers
def p_ctf (f W : Nat → Int32) (m : Nat) (N : Int32) : Nat → Nat → Nat → Nat
  | 0, r, _ => if r = m then 0 else 1 + r
  | n + 1, r, d => if N ≤ nI d then (if r = m then 0 else 1 + r) else if f (120 - n) < nI 1 then p_ctf f W m N n r d else if ¬ (r < m ∧ W r = p_pl (120 - n)) then 1 + r else if ¬ (r + 1 < m ∧ W (r + 1) = f (120 - n)) then 1 + (r + 1) else p_ctf f W m N n (r + 2) (d + 1)
section WALK
variable {K : Nat} {S I : Nat → Nat → Int32} {L : Nat → Nat → Int64} {T : Nat → Nat → Option Nat} {Λ : Nat → p_Lw}
theorem q_toldPlace {n : Nat} (h : n < 121) : fX6_toldPlace (nI n) = some (p_pl n) := by
  unfold fX6_toldPlace p_pl
  rw [nI_mod (by omega) (by decide), nI_div (by omega) (by decide), nI_mul, nI_add]
theorem walk_go {v w : Nat} {t : Nat → Nat → Int32} (hv : p_isV v w) : ∀ (d f n : Nat) (I : Nat → Nat → Int32) (L : Nat → Nat → Int64), n + d = 121 → (∀ k l, k + l ≤ 4 → I (v + 1) (p_ixn k l) = t k l) → (∀ k, k < n → I (v + 2) k = nI (p_tp t k)) →
    ∃ I2 L2, fX6_walk_L7 (d + 1 + f) v (nI n) (p_H K S I L T Λ) = some (p_H K S (I2) (L2) T Λ) ∧ p_fr [v + 2] I I2 ∧ p_fr [v + 7] L L2 ∧ ∀ k, k < 121 → I2 (v + 2) k = nI (p_tp t k)
  | 0, f, n, I, L, hn, ht, hd => by
    refine ⟨I, L, ?_, p_fr.rf _ _, p_fr.rf _ _, fun k hk => hd k (by omega)⟩
    rw [show 0 + 1 + f = f + 1 by omega]
    show fX6_walk_b7 _ _ _ _ = _
    unfold fX6_walk_b7
    simp only [gV_o hv, gV_0 hv, gV_1 hv, gV_2 hv, gV_3 hv, gV_4 hv, gV_5 hv, gV_6 hv, gV_7 hv, gV_8 hv, gV_p0 hv, gV_p1 hv, gV_p2 hv, p_lenI (pk_v1 hv), p_lenI (pk_v2 hv), p_lenI (pk_v3 hv), p_lenF (pk_v4 hv), p_lenL (pk_v5 hv), Option.bind_some, e_on]
    rw [if_pos (nI_le (by omega) (by omega))]
  | d + 1, f, n, I, L, hn, ht, hd => by
    rw [show d + 1 + 1 + f = (d + 1 + f) + 1 by omega]
    have key : ∀ (L1 : Nat → Nat → Int64), p_fr [v + 7] L L1 → ∃ I2 L2, fX6_walk_b62x1 (fX6_walk_L7 (d + 1 + f)) v (nI n) (nI (p_tp t n)) (nI n) (v + 2) (p_H K S I (L1) T Λ) = some (p_H K S (I2) (L2) T Λ) ∧ p_fr [v + 2] I I2 ∧ p_fr [v + 7] L L2 ∧ ∀ k, k < 121 → I2 (v + 2) k = nI (p_tp t k) := by
      intro L1 hL
      obtain ⟨I2, L2, g1, g2, g3, g4⟩ := walk_go (t := t) hv d f (n + 1) (va_up I (v + 2) (upd (I (v + 2)) n (nI (p_tp t n)))) L1 (by omega) (fun k l hkl => by rw [va_up_n (by omega)]; exact ht k l hkl) (fun k hk => by
        rw [va_up_s]
        simp only [upd]
        by_cases e : k = n
        · rw [if_pos e, e]
        · rw [if_neg e]; exact hd k (by omega))
      refine ⟨I2, L2, ?_, ((p_fr.rf _ _).up (by simp) _).tr g2, hL.tr g3, g4⟩
      unfold fX6_walk_b62x1
      rw [p_stI (pk_v2 hv) (by omega) (by decide), Option.bind_some, nI_s, g1]
    show ∃ I2 L2, fX6_walk_b7 _ _ _ _ = _ ∧ _
    unfold fX6_walk_b7
    have hs := pk_sv hv (show 0 < 3 by decide)
    simp only [gV_o hv, gV_0 hv, gV_1 hv, gV_2 hv, gV_3 hv, gV_4 hv, gV_5 hv, gV_6 hv, gV_7 hv, gV_8 hv, gV_p0 hv, gV_p1 hv, gV_p2 hv, p_lenI (pk_v1 hv), p_lenI (pk_v2 hv), p_lenI (pk_v3 hv), p_lenF (pk_v4 hv), p_lenL (pk_v5 hv), Option.bind_some, e_on, nI_mod' (show n < 2 ^ 31 by omega) (show 11 < 2 ^ 31 by decide), nI_div (show n < 2 ^ 31 by omega) (show 11 < 2 ^ 31 by decide), q_valueAt hv ht]
    rw [if_neg (nI_ge (by omega) (by decide))]
    by_cases h0 : p_vl t (nI (n / 11) - nI 5).toInt64 (nI (n % 11) - nI 5).toInt64 = 0
    · rw [if_pos ((lg_cmp_eq _ _).mpr h0)]
      obtain ⟨c, hc, hg⟩ := q_stand (S := S) (L := L) (T := T) (Λ := Λ) (K := K) hv ht (nI (n / 11) - nI 5) (nI (n % 11) - nI 5)
      have e1 : p_tm c = p_tp t n := p_tm_eq hc
      simp only [hg, Option.bind_some, e_on, q_least hs, Nat.mul_zero, Nat.add_zero, va_up_s, e1]
      exact key _ ((p_fr.rf _ _).up (by simp) _)
    · rw [if_neg (fun z => h0 ((lg_cmp_eq _ _).mp z))]
      have e1 : p_tp t n = 0 := p_tm_z (by rw [p_vl_shp]; exact h0)
      have := key L (p_fr.rf _ _)
      rw [e1] at this
      exact this
theorem q_walk {v w a n : Nat} {lw : Nat → Nat} (hv : p_isV v w) (hl : p_laws T K w n lw) (h1 : S w 1 = nI n) (hf : p_lwf Λ lw n) (hc : p_isC a) (ha1 : a + 1 ≠ w + 3) (ha2 : a + 1 ≠ v + 1) : ∃ I2 L2, fX6_walk v a (p_H K S I L T Λ) = some (p_H K S (I2) (L2) T Λ) ∧ p_fr [w + 3, v + 1, v + 2] I I2 ∧ p_fr [v + 7] L L2 ∧ (∀ k l, k + l ≤ 4 → I2 (v + 1) (p_ixn k l) = p_tv (S a 0) (I (a + 1)) (p_tg Λ lw n) k l) ∧ ∀ k, k < 121 → I2 (v + 2) k = nI (p_tp (p_tv (S a 0) (I (a + 1)) (p_tg Λ lw n)) k) := by
  obtain ⟨I1, g1, g2, g3⟩ := q_look (I := I) (L := L) hv hl h1 hf hc ha1 ha2
  obtain ⟨I2, L2, k1, k2, k3, k4⟩ := walk_go (S := S) (T := T) (Λ := Λ) (K := K) hv 121 78 0 I1 L (by omega) g3 (fun k hk => by omega)
  refine ⟨I2, L2, ?_, (g2.mono (by simp)).tr (k2.mono (by simp)), k3, fun k l hkl => by rw [k2 _ (by simp)]; exact g3 k l hkl, k4⟩
  unfold fX6_walk
  rw [gV_o hv, Option.bind_some, g1, Option.bind_some]
  exact k1
theorem pw_go {v w : Nat} (hv : p_isV v w) (a : Int32) : ∀ (d f n : Nat), n + d = 121 → fX6_placesWith_L4 (p_H K S I L T Λ) (d + 1 + f) v a (nI (p_cw (I (v + 2)) a n)) (nI n) = some (nI (p_cw (I (v + 2)) a 121))
  | 0, f, n, hn => by
    rw [show 0 + 1 + f = f + 1 by omega]
    show fX6_placesWith_b4 _ _ _ _ _ _ = _
    unfold fX6_placesWith_b4
    simp only [gV_o hv, gV_0 hv, gV_1 hv, gV_2 hv, gV_3 hv, gV_4 hv, gV_5 hv, gV_6 hv, gV_7 hv, gV_8 hv, gV_p0 hv, gV_p1 hv, gV_p2 hv, p_lenI (pk_v1 hv), p_lenI (pk_v2 hv), p_lenI (pk_v3 hv), p_lenF (pk_v4 hv), p_lenL (pk_v5 hv), Option.bind_some, e_on]
    rw [if_pos (nI_le (by omega) (by omega)), show n = 121 by omega]
  | d + 1, f, n, hn => by
    rw [show d + 1 + 1 + f = (d + 1 + f) + 1 by omega]
    show fX6_placesWith_b4 _ _ _ _ _ _ = _
    unfold fX6_placesWith_b4 fX6_placesWith_b26
    have ih := pw_go hv a d f (n + 1) (by omega)
    rw [p_cw] at ih
    simp only [gV_o hv, gV_0 hv, gV_1 hv, gV_2 hv, gV_3 hv, gV_4 hv, gV_5 hv, gV_6 hv, gV_7 hv, gV_8 hv, gV_p0 hv, gV_p1 hv, gV_p2 hv, p_lenI (pk_v1 hv), p_lenI (pk_v2 hv), p_lenI (pk_v3 hv), p_lenF (pk_v4 hv), p_lenL (pk_v5 hv), Option.bind_some, e_on, p_ldI (pk_v2 hv) (show n < 121 by omega) (by decide)]
    rw [if_neg (nI_ge (by omega) (by decide)), nI_s, nI_s]
    by_cases h : I (v + 2) n < a
    · rw [if_pos h] at ih ⊢; exact ih
    · rw [if_neg h] at ih ⊢; exact ih
theorem q_placesWith {v w : Nat} (hv : p_isV v w) (a : Int32) : fX6_placesWith v a (p_H K S I L T Λ) = some (nI (p_cw (I (v + 2)) a 121)) := by
  unfold fX6_placesWith
  rw [gV_o hv, Option.bind_some]
  exact pw_go hv a 121 78 0 (by omega)
theorem po_go {v w : Nat} (hv : p_isV v w) (want : Int32) : ∀ (d f a : Nat), d ≤ 121 → fX6_placeOn_L4 (p_H K S I L T Λ) (d + 1 + f) v want (nI a) (nI (121 - d)) = some (p_pof (I (v + 2)) want d a)
  | 0, f, a, hd => by
    rw [show 0 + 1 + f = f + 1 by omega]
    show fX6_placeOn_b4 _ _ _ _ _ _ = _
    unfold fX6_placeOn_b4
    simp only [gV_o hv, gV_0 hv, gV_1 hv, gV_2 hv, gV_3 hv, gV_4 hv, gV_5 hv, gV_6 hv, gV_7 hv, gV_8 hv, gV_p0 hv, gV_p1 hv, gV_p2 hv, p_lenI (pk_v1 hv), p_lenI (pk_v2 hv), p_lenI (pk_v3 hv), p_lenF (pk_v4 hv), p_lenL (pk_v5 hv), Option.bind_some, e_on]
    rw [if_pos (nI_le (by omega) (by omega))]
    rfl
  | d + 1, f, a, hd => by
    rw [show d + 1 + 1 + f = (d + 1 + f) + 1 by omega]
    show fX6_placeOn_b4 _ _ _ _ _ _ = _
    unfold fX6_placeOn_b4 fX6_placeOn_b36
    simp only [gV_o hv, gV_0 hv, gV_1 hv, gV_2 hv, gV_3 hv, gV_4 hv, gV_5 hv, gV_6 hv, gV_7 hv, gV_8 hv, gV_p0 hv, gV_p1 hv, gV_p2 hv, p_lenI (pk_v1 hv), p_lenI (pk_v2 hv), p_lenI (pk_v3 hv), p_lenF (pk_v4 hv), p_lenL (pk_v5 hv), Option.bind_some, e_on, p_ldI (pk_v2 hv) (show 121 - (d + 1) < 121 by omega) (by decide), q_toldPlace (show 121 - (d + 1) < 121 by omega)]
    rw [if_neg (nI_ge (by omega) (by decide)), nI_s, nI_s, p_pof, show 121 - (d + 1) + 1 = 121 - d by omega, show 121 - (d + 1) = 120 - d by omega]
    by_cases h : I (v + 2) (120 - d) < nI 1
    · rw [if_pos h, if_pos h]; exact po_go hv want d f a (by omega)
    · rw [if_neg h, if_neg h]
      by_cases h2 : nI a = want
      · rw [if_pos h2, if_pos h2]
      · rw [if_neg h2, if_neg h2]; exact po_go hv want d f (a + 1) (by omega)
theorem q_placeOn {v w : Nat} (hv : p_isV v w) (want : Int32) : fX6_placeOn v want (p_H K S I L T Λ) = some (p_pof (I (v + 2)) want 121 0) := by
  unfold fX6_placeOn
  rw [gV_o hv, Option.bind_some]
  exact po_go hv want 121 78 0 (by omega)
theorem ms_go {v w n : Nat} {lw : Nat → Nat} (hv : p_isV v w) (hl : p_laws T K w n lw) (h1 : S w 1 = nI n) (hf : p_lwf Λ lw n) : ∀ (d f k : Nat) (st : Nat → Int32), k + d = 121 → ∃ st', fX6_sumOfMarks_L4 (d + 1 + f) v (p_ms (p_mg Λ lw n) (I (v + 2)) k) (nI k) (p_H K S (va_up I (w + 3) st) L T Λ) = some (p_ms (p_mg Λ lw n) (I (v + 2)) 121, (p_H K S (va_up I (w + 3) st') L T Λ))
  | 0, f, k, st, hk => by
    refine ⟨st, ?_⟩
    rw [show 0 + 1 + f = f + 1 by omega]
    show fX6_sumOfMarks_b4 _ _ _ _ _ = _
    unfold fX6_sumOfMarks_b4
    simp only [gV_o hv, gV_0 hv, gV_1 hv, gV_2 hv, gV_3 hv, gV_4 hv, gV_5 hv, gV_6 hv, gV_7 hv, gV_8 hv, gV_p0 hv, gV_p1 hv, gV_p2 hv, p_lenI (pk_v1 hv), p_lenI (pk_v2 hv), p_lenI (pk_v3 hv), p_lenF (pk_v4 hv), p_lenL (pk_v5 hv), Option.bind_some, e_on]
    rw [if_pos (nI_le (by omega) (by omega)), show k = 121 by omega]
  | d + 1, f, k, st, hk => by
    rw [show d + 1 + 1 + f = (d + 1 + f) + 1 by omega]
    have hwv : v + 2 ≠ w + 3 := by rcases hv with ⟨rfl, rfl⟩ | ⟨rfl, rfl⟩ <;> omega
    have e1 : (va_up I (w + 3) st) (v + 2) = I (v + 2) := va_up_n hwv
    have ih := fun st => ms_go hv hl h1 hf d f (k + 1) st (by omega)
    have es : p_ms (p_mg Λ lw n) (I (v + 2)) (k + 1) = if I (v + 2) k < nI 1 then p_ms (p_mg Λ lw n) (I (v + 2)) k else p_ms (p_mg Λ lw n) (I (v + 2)) k + p_held (p_mg Λ lw n (nI (k / 11) - nI 5) (nI (k % 11) - nI 5) (I (v + 2) k)) := rfl
    generalize p_ms (p_mg Λ lw n) (I (v + 2)) 121 = tot at *
    simp only [es] at ih
    show ∃ st', fX6_sumOfMarks_b4 _ _ _ _ _ = _
    unfold fX6_sumOfMarks_b4 fX6_sumOfMarks_b67
    simp only [gV_o hv, gV_0 hv, gV_1 hv, gV_2 hv, gV_3 hv, gV_4 hv, gV_5 hv, gV_6 hv, gV_7 hv, gV_8 hv, gV_p0 hv, gV_p1 hv, gV_p2 hv, p_lenI (pk_v1 hv), p_lenI (pk_v2 hv), p_lenI (pk_v3 hv), p_lenF (pk_v4 hv), p_lenL (pk_v5 hv), Option.bind_some, e_on, p_ldI (pk_v2 hv) (show k < 121 by omega) (by decide), e1, nI_mod' (show k < 2 ^ 31 by omega) (show 11 < 2 ^ 31 by decide), nI_div (show k < 2 ^ 31 by omega) (show 11 < 2 ^ 31 by decide)]
    rw [if_neg (nI_ge (by omega) (by decide)), nI_s]
    by_cases h : I (v + 2) k < nI 1
    · rw [if_pos h]
      simp only [if_pos h] at ih
      exact ih st
    · rw [if_neg h]
      simp only [if_neg h] at ih
      obtain ⟨st1, hg⟩ := q_lawGives (S := S) (I := va_up I (w + 3) st) (L := L) hv.w hl h1 hf (nI 2) (nI (k / 11) - nI 5) (nI (k % 11) - nI 5) (I (v + 2) k) (I (v + 2) k)
      obtain ⟨st2, h2⟩ := ih st1
      refine ⟨st2, ?_⟩
      simp only [hg, Option.bind_some, e_on, q_held, va_up_up]
      exact h2
theorem q_sumOfMarks {v w n : Nat} {lw : Nat → Nat} (hv : p_isV v w) (hl : p_laws T K w n lw) (h1 : S w 1 = nI n) (hf : p_lwf Λ lw n) : ∃ st', fX6_sumOfMarks v (p_H K S I L T Λ) = some (p_ms (p_mg Λ lw n) (I (v + 2)) 121, (p_H K S (va_up I (w + 3) st') L T Λ)) := by
  unfold fX6_sumOfMarks
  rw [gV_o hv, Option.bind_some]
  obtain ⟨st', h⟩ := ms_go (S := S) (I := I) (L := L) hv hl h1 hf 121 78 0 (I (w + 3)) (by omega)
  rw [p_up_id] at h
  exact ⟨st', h⟩
end WALK
