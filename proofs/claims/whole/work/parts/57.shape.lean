theorem nI_mul (a b : Nat) : nI a * nI b = nI (a * b) := (Int32.ofNat_mul a b).symm
theorem nI_negl {n : Nat} (h0 : 0 < n) (h : n < 2 ^ 31) : -nI n < (0 : Int32) := by
  rw [Int32.lt_iff_toInt_lt, Int32.toInt_neg, nI_toInt h, show ((0 : Int32)).toInt = 0 from rfl, Int.bmod_eq_of_le (by omega) (by omega)]
  omega
-- the number of degree m by its j, of a row of 85
def p_dg (c : Nat → Int64) (m j : Nat) : Int64 := if j ≤ m ∧ m ≤ j + 16 then c (5 * (m - j) + j) else 0
theorem sh_i0 {a m j : Nat} (h : 5 * a + j < 5 * m) (hm : m < 1000) : (nI a - nI m) * nI 5 + nI j < 0 := by
  have h1 : nI (5 * m) = nI (5 * a + j) + nI (5 * m - (5 * a + j)) := by rw [nI_add]; congr 1; omega
  rw [← nI_mul, ← nI_add, ← nI_mul] at h1
  have h2 : (nI a - nI m) * nI 5 + nI j = -nI (5 * m - (5 * a + j)) := by
    generalize nI (5 * m - (5 * a + j)) = z at *
    grind
  rw [h2]
  exact nI_negl (by omega) (by omega)
theorem sh_i1 {a m j : Nat} (h : m ≤ a) : (nI a - nI m) * nI 5 + nI j = nI (5 * (a - m) + j) := by
  rw [pk_sub h, nI_mul, nI_add, Nat.mul_comm]
theorem sh_i2 {i j : Nat} : nI i * nI 5 + nI j = nI (5 * i + j) := by rw [nI_mul, nI_add, Nat.mul_comm]
-- one step of a move along x, of a row of 85
def p_mx (d : Int64) (i j : Nat) (c : Nat → Int64) : Nat → Int64 := fun k => if k / 5 = i ∧ k % 5 < j then c k + d * c (k + 5) else c k
def p_mxs (d : Int64) (low : Nat) : Nat → (Nat → Int64) → Nat → Int64
  | 0, c => c
  | n + 1, c => p_mxs d low n (p_mx d (low + n) (4 - (low + n)) c)
def p_mX (d : Int64) : Nat → (Nat → Int64) → Nat → Int64
  | 0, c => c
  | n + 1, c => p_mX d n (p_mxs d (3 - n) (n + 1) c)
def p_my (d : Int64) (j n : Nat) (c : Nat → Int64) : Nat → Int64 := fun k => if k % 5 = j ∧ k / 5 < n then c k + d * c (k + 1) else c k
def p_mys (d : Int64) (N low : Nat) : Nat → (Nat → Int64) → Nat → Int64
  | 0, c => c
  | n + 1, c => p_mys d N low n (p_my d (low + n) (N + 1) c)
def p_mY (d : Int64) (N : Nat) : Nat → (Nat → Int64) → Nat → Int64
  | 0, c => c
  | n + 1, c => p_mY d N n (p_mys d N (3 - n) (n + 1) c)
def p_dz (c : Nat → Int64) (m : Nat) : Nat → Bool
  | 0 => false
  | n + 1 => if p_dg c m (4 - n) = 0 then p_dz c m n else true
-- the least degree of the ones that are left
def p_tmf (c : Nat → Int64) : Nat → Nat
  | 0 => 17
  | n + 1 => if p_dz c (16 - n) 5 then 16 - n else p_tmf c n
def p_tm (c : Nat → Int64) : Nat := p_tmf c 17
def p_lxf (c : Nat → Int64) (j : Nat) : Nat → Nat
  | 0 => 17
  | n + 1 => if c (5 * (16 - n) + j) = 0 then p_lxf c j n else 16 - n
def p_lx (c : Nat → Int64) (j : Nat) : Nat := p_lxf c j 17
def p_sl (c : Nat → Int64) (m : Nat) (t : Int64) : Int64 := p_hs (p_dg c m) t 0 5
section SHAPE
variable {K : Nat} {S I : Nat → Nat → Int32} {L : Nat → Nat → Int64} {T : Nat → Nat → Option Nat} {Λ : Nat → p_Lw}
theorem q_num {s i j : Nat} (hs : p_isS s) (hi : i ≤ 16) (hj : j ≤ 4) : fX3_number s (nI i) (nI j) (p_H K S I L T Λ) = some (L (s + 1) (5 * i + j)) := by
  unfold fX3_number fX3_number_b18
  simp only [gS_o hs, gS_0 hs, p_lenL hs.2, Option.bind_some, e_on, sh_i2]
  rw [if_neg (nI_pos (by omega)), if_pos (nI_le (by omega) (by decide)), if_neg (nI_pos (by omega)), if_pos (nI_lt (by omega) (by decide)), p_ldL hs.2 (by omega) (by decide), Option.bind_some]
theorem q_dg {s m j : Nat} (hs : p_isS s) (hm : m ≤ 40) (hj : j ≤ 4) : fX3_number s (nI m - nI j) (nI j) (p_H K S I L T Λ) = some (p_dg (L (s + 1)) m j) := by
  unfold fX3_number fX3_number_b18 p_dg
  simp only [gS_o hs, gS_0 hs, p_lenL hs.2, Option.bind_some, e_on]
  rw [if_neg (nI_pos (by omega)), if_pos (nI_le (by omega) (by decide))]
  by_cases h : j ≤ m
  · rw [sh_i1 h, if_neg (nI_pos (by omega))]
    by_cases h2 : m ≤ j + 16
    · rw [if_pos (nI_lt (by omega) (by decide)), p_ldL hs.2 (by omega) (by decide), Option.bind_some, if_pos ⟨h, h2⟩]
    · rw [if_neg (nI_nlt (by omega) (by omega)), if_neg (fun z => h2 z.2)]
  · rw [if_pos (sh_i0 (by omega) (by omega)), if_neg (fun z => h z.1)]
theorem q_add {s i j : Nat} (hs : p_isS s) (hi : i ≤ 16) (hj : j ≤ 4) (x : Int64) : fX3_add s (nI i) (nI j) x (p_H K S I L T Λ) = some (p_H K S I (va_up L (s + 1) (vp_updL (L (s + 1)) (5 * i + j) (L (s + 1) (5 * i + j) + x))) T Λ) := by
  unfold fX3_add fX3_add_b18
  simp only [gS_o hs, gS_0 hs, p_lenL hs.2, Option.bind_some, e_on, sh_i2]
  rw [if_neg (nI_pos (by omega)), if_pos (nI_le (by omega) (by decide)), if_neg (nI_pos (by omega)), if_neg (nI_ge (by omega) (by decide)), p_ldL hs.2 (by omega) (by decide), Option.bind_some, p_stL hs.2 (by omega) (by decide), Option.bind_some]
theorem q_addm {s a m j : Nat} (hs : p_isS s) (ha : a ≤ 40) (hm : m ≤ 40) (hj : j ≤ 4) (x : Int64) : fX3_add s (nI a - nI m) (nI j) x (p_H K S I L T Λ) = some (p_H K S I (va_up L (s + 1) (if m ≤ a ∧ a ≤ m + 16 then vp_updL (L (s + 1)) (5 * (a - m) + j) (L (s + 1) (5 * (a - m) + j) + x) else L (s + 1))) T Λ) := by
  by_cases h : m ≤ a ∧ a ≤ m + 16
  · rw [if_pos h, pk_sub h.1, q_add hs (by omega) hj]
  · rw [if_neg h, p_up_id]
    unfold fX3_add fX3_add_b18
    simp only [gS_o hs, gS_0 hs, p_lenL hs.2, Option.bind_some, e_on]
    rw [if_neg (nI_pos (by omega)), if_pos (nI_le (by omega) (by decide))]
    by_cases h2 : m ≤ a
    · rw [sh_i1 h2, if_neg (nI_pos (by omega)), if_pos (nI_le (by omega) (by omega))]
    · rw [if_pos (sh_i0 (by omega) (by omega))]
theorem fillL_go {a n : Nat} (h : p_la n a) (hn : n < 2 ^ 31) (x : Int64) : ∀ (d m k : Nat) (L : Nat → Nat → Int64), k + d = n → fJ7_fill_d0a16_L6 (d + 1 + m) a x (nI k) (nI n) (p_H K S I L T Λ) = some (p_H K S I (va_up L a (fun j => if k ≤ j ∧ j < n then x else L a j)) T Λ)
  | 0, m, k, L, hk => by
    rw [show 0 + 1 + m = m + 1 by omega]
    show fJ7_fill_d0a16_b6 _ _ _ _ _ _ = _
    unfold fJ7_fill_d0a16_b6
    rw [if_pos (nI_le (by omega) (by omega))]
    congr 2
    funext j
    unfold va_up
    split
    · next hj => subst hj; funext i; rw [if_neg (by omega)]
    · rfl
  | d + 1, m, k, L, hk => by
    rw [show d + 1 + 1 + m = (d + 1 + m) + 1 by omega]
    show fJ7_fill_d0a16_b6 _ _ _ _ _ _ = _
    unfold fJ7_fill_d0a16_b6
    rw [if_neg (nI_ge (by omega) (by omega)), p_stL h (by omega) hn, Option.bind_some, nI_s, fillL_go h hn x d m (k + 1) _ (by omega), va_up_up, va_up_s]
    congr 3
    funext i
    simp only [vp_updL]
    by_cases h1 : k + 1 ≤ i ∧ i < n
    · rw [if_pos h1, if_pos (by omega)]
    · rw [if_neg h1]
      by_cases h2 : i = k
      · rw [if_pos h2, if_pos (by omega)]
      · rw [if_neg h2, if_neg (by omega)]
theorem q_clear {s : Nat} (hs : p_isS s) : ∃ f, (∀ k, k < 85 → f k = 0) ∧ fX3_clear s (p_H K S I L T Λ) = some (p_H K S I (va_up L (s + 1) f) T Λ) := by
  refine ⟨fun j => if 0 ≤ j ∧ j < 85 then 0 else L (s + 1) j, fun k hk => if_pos ⟨Nat.zero_le _, hk⟩, ?_⟩
  unfold fX3_clear fJ7_fill_d0a16
  simp only [gS_o hs, gS_0 hs, p_lenL hs.2, Option.bind_some, e_on]
  have := fillL_go (S := S) (I := I) (T := T) (K := K) (Λ := Λ) hs.2 (by decide) 0 85 114 0 L (by omega)
  rw [show (200 : Nat) = 85 + 1 + 114 by rfl]
  rw [this, Option.bind_some]
theorem mx_in {s i : Nat} (hs : p_isS s) (k2 : Nat → Int32 → Int32 → e_H → Option e_H) (k9 : Nat → Int32 → Int32 → Int32 → e_H → Option e_H) (x lo : Int32) (hi : i ≤ 4) (c : Nat → Int64) : ∀ (d m j : Nat), j + d = 4 - i → fX3_moveX_L17 k2 k9 (d + 1 + m) s x lo (nI i) (nI j) (p_H K S I (va_up L (s + 1) (p_mx x.toInt64 i j c)) T Λ) = k9 s x lo (nI i - nI 1) (p_H K S I (va_up L (s + 1) (p_mx x.toInt64 i (4 - i) c)) T Λ)
  | 0, m, j, hj => by
    rw [show 0 + 1 + m = m + 1 by omega]
    show fX3_moveX_b17 _ _ _ _ _ _ _ _ _ = _
    unfold fX3_moveX_b17
    rw [pk_sub (show i ≤ 4 by omega), if_pos (nI_le (by omega) (by omega)), show j = 4 - i by omega, Int32.sub_eq_add_neg]
    rfl
  | d + 1, m, j, hj => by
    rw [show d + 1 + 1 + m = (d + 1 + m) + 1 by omega]
    show fX3_moveX_b17 _ _ _ _ _ _ _ _ _ = _
    unfold fX3_moveX_b17
    rw [pk_sub (show i ≤ 4 by omega), if_neg (nI_ge (by omega) (by omega)), nI_s, q_num hs (by omega) (by omega), Option.bind_some, q_add hs (by omega) (by omega), Option.bind_some, nI_s, va_up_up, va_up_s, ← mx_in hs k2 k9 x lo hi c d m (j + 1) (by omega)]
    congr 2
    congr 1
    funext k
    simp only [vp_updL, p_mx]
    by_cases h : k = 5 * i + j
    · subst h
      rw [if_pos rfl, if_neg (by omega), if_neg (by omega), if_pos (by omega), show 5 * (i + 1) + j = 5 * i + j + 5 by omega]
    · rw [if_neg h]
      by_cases h2 : k / 5 = i ∧ k % 5 < j
      · rw [if_pos h2, if_pos (by omega)]
      · rw [if_neg h2, if_neg (by omega)]
theorem p_mx0 (d : Int64) (i : Nat) (c : Nat → Int64) : p_mx d i 0 c = c := by
  funext k
  simp [p_mx]
theorem mx_mid {s low : Nat} (hs : p_isS s) (k2 : Nat → Int32 → Int32 → e_H → Option e_H) (x : Int32) : ∀ (n m : Nat) (c : Nat → Int64), low + n ≤ 4 → fX3_moveX_L9 k2 (n + 1 + m) s x (nI low) (nI (low + n) - nI 1) (p_H K S I (va_up L (s + 1) c) T Λ) = k2 s x (nI (low + 1)) (p_H K S I (va_up L (s + 1) (p_mxs x.toInt64 low n c)) T Λ)
  | 0, m, c, hn => by
    rw [show 0 + 1 + m = m + 1 by omega]
    show fX3_moveX_b9 _ _ _ _ _ _ _ = _
    unfold fX3_moveX_b9
    rw [if_pos, nI_s]
    · rfl
    · rcases (show low = 0 ∨ low = 1 ∨ low = 2 ∨ low = 3 ∨ low = 4 by omega) with rfl | rfl | rfl | rfl | rfl <;> decide
  | n + 1, m, c, hn => by
    rw [show n + 1 + 1 + m = (n + 1 + m) + 1 by omega, show nI (low + (n + 1)) - nI 1 = nI (low + n) from nI_pred (low + n)]
    show fX3_moveX_b9 _ _ _ _ _ _ _ = _
    unfold fX3_moveX_b9
    have h1 := mx_in (S := S) (I := I) (L := L) (T := T) (Λ := Λ) (K := K) hs k2 (fX3_moveX_L9 k2 (n + 1 + m)) x (nI low) (show low + n ≤ 4 by omega) c (4 - (low + n)) (199 - (4 - (low + n))) 0 (by omega)
    rw [p_mx0] at h1
    rw [if_neg (nI_nlt (by omega) (by omega)), show (200 : Nat) = 4 - (low + n) + 1 + (199 - (4 - (low + n))) by omega, h1]
    exact mx_mid hs k2 x n m _ (by omega)
theorem mx_out {s : Nat} (hs : p_isS s) (x : Int32) : ∀ (n m : Nat) (c : Nat → Int64), n ≤ 4 → fX3_moveX_L2 (n + 1 + m) s x (nI (4 - n)) (p_H K S I (va_up L (s + 1) c) T Λ) = some (p_H K S I (va_up L (s + 1) (p_mX x.toInt64 n c)) T Λ)
  | 0, m, c, hn => by
    rw [show 0 + 1 + m = m + 1 by omega]
    show fX3_moveX_b2 _ _ _ _ _ = _
    unfold fX3_moveX_b2
    rw [if_pos (nI_le (by omega) (by omega))]
    rfl
  | n + 1, m, c, hn => by
    rw [show n + 1 + 1 + m = (n + 1 + m) + 1 by omega]
    show fX3_moveX_b2 _ _ _ _ _ = _
    unfold fX3_moveX_b2
    have h1 := mx_mid (S := S) (I := I) (L := L) (T := T) (Λ := Λ) (K := K) (low := 3 - n) hs (fX3_moveX_L2 (n + 1 + m)) x (n + 1) (199 - (n + 1)) c (by omega)
    rw [show 3 - n + (n + 1) = 4 by omega, show nI 4 - nI 1 = nI 3 by decide, show 3 - n + 1 = 4 - n by omega] at h1
    rw [if_neg (nI_ge (by omega) (by omega)), show 4 - (n + 1) = 3 - n by omega, show (200 : Nat) = n + 1 + 1 + (199 - (n + 1)) by omega, h1]
    exact mx_out hs x n m _ (by omega)
theorem q_moveX {s : Nat} (hs : p_isS s) (x : Int32) : fX3_moveX s x (p_H K S I L T Λ) = some (p_H K S I (va_up L (s + 1) (p_mX x.toInt64 4 (L (s + 1)))) T Λ) := by
  unfold fX3_moveX
  rw [gS_o hs, Option.bind_some]
  have := mx_out (S := S) (I := I) (L := L) (T := T) (Λ := Λ) (K := K) hs x 4 195 (L (s + 1)) (by omega)
  rw [p_up_id] at this
  exact this
theorem my_in {s N j : Nat} (hs : p_isS s) (k2 : Nat → Int32 → Int32 → Int32 → e_H → Option e_H) (k10 : Nat → Int32 → Int32 → Int32 → Int32 → e_H → Option e_H) (y lo : Int32) (hN : N ≤ 16) (hj : j ≤ 3) (c : Nat → Int64) : ∀ (d m i : Nat), i + d = N + 1 → fX3_moveY_L19 k2 k10 (d + 1 + m) s y (nI N) lo (nI j) (nI i) (p_H K S I (va_up L (s + 1) (p_my y.toInt64 j i c)) T Λ) = k10 s y (nI N) lo (nI j - nI 1) (p_H K S I (va_up L (s + 1) (p_my y.toInt64 j (N + 1) c)) T Λ)
  | 0, m, i, hi => by
    rw [show 0 + 1 + m = m + 1 by omega]
    show fX3_moveY_b19 _ _ _ _ _ _ _ _ _ _ = _
    unfold fX3_moveY_b19
    rw [if_pos (nI_lt (by omega) (by omega)), show i = N + 1 by omega, Int32.sub_eq_add_neg]
    rfl
  | d + 1, m, i, hi => by
    rw [show d + 1 + 1 + m = (d + 1 + m) + 1 by omega]
    show fX3_moveY_b19 _ _ _ _ _ _ _ _ _ _ = _
    unfold fX3_moveY_b19
    rw [if_neg (nI_nlt (by omega) (by omega)), nI_s, q_num hs (by omega) (by omega), Option.bind_some, q_add hs (by omega) (by omega), Option.bind_some, nI_s, va_up_up, va_up_s, ← my_in hs k2 k10 y lo hN hj c d m (i + 1) (by omega)]
    congr 2
    congr 1
    funext k
    simp only [vp_updL, p_my]
    by_cases h : k = 5 * i + j
    · subst h
      rw [if_pos rfl, if_neg (by omega), if_neg (by omega), if_pos (by omega), show 5 * i + (j + 1) = 5 * i + j + 1 by omega]
    · rw [if_neg h]
      by_cases h2 : k % 5 = j ∧ k / 5 < i
      · rw [if_pos h2, if_pos (by omega)]
      · rw [if_neg h2, if_neg (by omega)]
theorem p_my0 (d : Int64) (i : Nat) (c : Nat → Int64) : p_my d i 0 c = c := by
  funext k
  simp [p_my]
theorem my_mid {s N low : Nat} (hs : p_isS s) (k2 : Nat → Int32 → Int32 → Int32 → e_H → Option e_H) (y : Int32) (hN : N ≤ 16) : ∀ (n m : Nat) (c : Nat → Int64), low + n ≤ 4 → fX3_moveY_L10 k2 (n + 1 + m) s y (nI N) (nI low) (nI (low + n) - nI 1) (p_H K S I (va_up L (s + 1) c) T Λ) = k2 s y (nI N) (nI (low + 1)) (p_H K S I (va_up L (s + 1) (p_mys y.toInt64 N low n c)) T Λ)
  | 0, m, c, hn => by
    rw [show 0 + 1 + m = m + 1 by omega]
    show fX3_moveY_b10 _ _ _ _ _ _ _ _ = _
    unfold fX3_moveY_b10
    rw [if_pos, nI_s]
    · rfl
    · rcases (show low = 0 ∨ low = 1 ∨ low = 2 ∨ low = 3 ∨ low = 4 by omega) with rfl | rfl | rfl | rfl | rfl <;> decide
  | n + 1, m, c, hn => by
    rw [show n + 1 + 1 + m = (n + 1 + m) + 1 by omega, show nI (low + (n + 1)) - nI 1 = nI (low + n) from nI_pred (low + n)]
    show fX3_moveY_b10 _ _ _ _ _ _ _ _ = _
    unfold fX3_moveY_b10
    have h1 := my_in (S := S) (I := I) (L := L) (T := T) (Λ := Λ) (K := K) hs k2 (fX3_moveY_L10 k2 (n + 1 + m)) y (nI low) hN (show low + n ≤ 3 by omega) c (N + 1) (199 - (N + 1)) 0 (by omega)
    rw [p_my0] at h1
    rw [if_neg (nI_nlt (by omega) (by omega)), show (200 : Nat) = N + 1 + 1 + (199 - (N + 1)) by omega, h1]
    exact my_mid hs k2 y hN n m _ (by omega)
theorem my_out {s N : Nat} (hs : p_isS s) (y : Int32) (hN : N ≤ 16) : ∀ (n m : Nat) (c : Nat → Int64), n ≤ 4 → fX3_moveY_L2 (n + 1 + m) s y (nI N) (nI (4 - n)) (p_H K S I (va_up L (s + 1) c) T Λ) = some (p_H K S I (va_up L (s + 1) (p_mY y.toInt64 N n c)) T Λ)
  | 0, m, c, hn => by
    rw [show 0 + 1 + m = m + 1 by omega]
    show fX3_moveY_b2 _ _ _ _ _ _ = _
    unfold fX3_moveY_b2
    rw [if_pos (nI_le (by omega) (by omega))]
    rfl
  | n + 1, m, c, hn => by
    rw [show n + 1 + 1 + m = (n + 1 + m) + 1 by omega]
    show fX3_moveY_b2 _ _ _ _ _ _ = _
    unfold fX3_moveY_b2
    have h1 := my_mid (S := S) (I := I) (L := L) (T := T) (Λ := Λ) (K := K) (low := 3 - n) hs (fX3_moveY_L2 (n + 1 + m)) y hN (n + 1) (199 - (n + 1)) c (by omega)
    rw [show 3 - n + (n + 1) = 4 by omega, show nI 4 - nI 1 = nI 3 by decide, show 3 - n + 1 = 4 - n by omega] at h1
    rw [if_neg (nI_ge (by omega) (by omega)), show 4 - (n + 1) = 3 - n by omega, show (200 : Nat) = n + 1 + 1 + (199 - (n + 1)) by omega, h1]
    exact my_out hs y hN n m _ (by omega)
theorem q_moveY {s N : Nat} (hs : p_isS s) (y : Int32) (hN : N ≤ 16) : fX3_moveY s y (nI N) (p_H K S I L T Λ) = some (p_H K S I (va_up L (s + 1) (p_mY y.toInt64 N 4 (L (s + 1)))) T Λ) := by
  unfold fX3_moveY
  rw [gS_o hs, Option.bind_some]
  have := my_out (S := S) (I := I) (L := L) (T := T) (Λ := Λ) (K := K) hs y hN 4 195 (L (s + 1)) (by omega)
  rw [p_up_id] at this
  exact this
theorem least_in {s m : Nat} (hs : p_isS s) (hm : m ≤ 16) (k2 : Nat → Int32 → Option Int32) : ∀ (n f : Nat), n ≤ 5 → fX3_least_L10 (p_H K S I L T Λ) k2 (n + 1 + f) s (nI m) (nI (5 - n)) = if p_dz (L (s + 1)) m n then some (nI m) else k2 s (nI (m + 1))
  | 0, f, hn => by
    rw [show 0 + 1 + f = f + 1 by omega]
    show fX3_least_b10 _ _ _ _ _ _ = _
    unfold fX3_least_b10
    rw [if_pos (nI_lt (by omega) (by omega)), nI_s]
    rfl
  | n + 1, f, hn => by
    rw [show n + 1 + 1 + f = (n + 1 + f) + 1 by omega]
    show fX3_least_b10 _ _ _ _ _ _ = _
    unfold fX3_least_b10
    rw [if_neg (nI_nlt (by omega) (by omega)), q_dg hs (by omega) (by omega), Option.bind_some, nI_s, p_dz, show 4 - n = 5 - (n + 1) by omega]
    have ih := least_in hs hm k2 n f (by omega)
    by_cases h : p_dg (L (s + 1)) m (5 - (n + 1)) = 0
    · rw [if_pos ((lg_cmp_eq _ _).mpr h), if_pos h, show 5 - (n + 1) + 1 = 5 - n by omega, ih]
    · rw [if_neg (fun z => h ((lg_cmp_eq _ _).mp z)), if_neg h]
      rfl
theorem least_out {s : Nat} (hs : p_isS s) : ∀ (n f : Nat), n ≤ 17 → fX3_least_L2 (p_H K S I L T Λ) (n + 1 + f) s (nI (17 - n)) = some (nI (p_tmf (L (s + 1)) n))
  | 0, f, hn => by
    rw [show 0 + 1 + f = f + 1 by omega]
    show fX3_least_b2 _ _ _ _ = _
    unfold fX3_least_b2
    rw [if_pos (nI_lt (by omega) (by omega))]
    rfl
  | n + 1, f, hn => by
    rw [show n + 1 + 1 + f = (n + 1 + f) + 1 by omega]
    show fX3_least_b2 _ _ _ _ = _
    unfold fX3_least_b2
    rw [if_neg (nI_nlt (by omega) (by omega)), show (200 : Nat) = 5 + 1 + 194 by rfl, show 17 - (n + 1) = 16 - n by omega]
    have h1 := least_in (S := S) (I := I) (L := L) (T := T) (Λ := Λ) (K := K) hs (show 16 - n ≤ 16 by omega) (fX3_least_L2 (p_H K S I L T Λ) (n + 1 + f)) 5 194 (by omega)
    rw [show (5 - 5 : Nat) = 0 by rfl] at h1
    rw [h1, p_tmf]
    have ih := least_out hs n f (by omega)
    cases hz : p_dz (L (s + 1)) (16 - n) 5
    · rw [show 16 - n + 1 = 17 - n by omega, ih]; rfl
    · rfl
theorem q_least {s : Nat} (hs : p_isS s) : fX3_least s (p_H K S I L T Λ) = some (nI (p_tm (L (s + 1)))) := by
  unfold fX3_least
  rw [gS_o hs, Option.bind_some]
  exact least_out hs 17 182 (by omega)
theorem sol_go {s m : Nat} (hs : p_isS s) (hm : m ≤ 40) (t : Int32) : ∀ (n f : Nat), n ≤ 5 → fX3_sumOnLine_L5 (p_H K S I L T Λ) (n + 1 + f) s (nI m) t (p_hs (p_dg (L (s + 1)) m) t.toInt64 n (5 - n)) (nI n - nI 1) = some (p_sl (L (s + 1)) m t.toInt64)
  | 0, f, hn => by
    rw [show 0 + 1 + f = f + 1 by omega]
    show fX3_sumOnLine_b5 _ _ _ _ _ _ _ = _
    unfold fX3_sumOnLine_b5
    rw [if_pos (by decide)]
    rfl
  | n + 1, f, hn => by
    rw [show n + 1 + 1 + f = (n + 1 + f) + 1 by omega, show nI (n + 1) - nI 1 = nI n from nI_pred n]
    show fX3_sumOnLine_b5 _ _ _ _ _ _ _ = _
    unfold fX3_sumOnLine_b5
    have ih := sol_go hs hm t n f (by omega)
    rw [if_neg (nI_pos (by omega)), q_dg hs hm (by omega), Option.bind_some, show nI n + (-1 : Int32) = nI n - nI 1 from (Int32.sub_eq_add_neg _ _).symm]
    rw [show 5 - n = (5 - (n + 1)) + 1 by omega] at ih
    exact ih
theorem q_sol {s m : Nat} (hs : p_isS s) (hm : m ≤ 40) (t : Int32) : fX3_sumOnLine s (nI m) t (p_H K S I L T Λ) = some (p_sl (L (s + 1)) m t.toInt64) := by
  unfold fX3_sumOnLine
  rw [gS_o hs, Option.bind_some]
  exact sol_go hs hm t 5 194 (by omega)
theorem q_lowestOf {s m j : Nat} (hs : p_isS s) (hm : m ≤ 40) (hj : j ≤ 4) : fX3_lowestOf s (nI m) (nI j) (p_H K S I L T Λ) = some (p_dg (L (s + 1)) m j) := by
  unfold fX3_lowestOf
  rw [gS_o hs, Option.bind_some, q_dg hs hm hj, Option.bind_some]
theorem leastX_go {s j : Nat} (hs : p_isS s) (hj : j ≤ 4) : ∀ (n f : Nat), n ≤ 17 → fX3_leastX_L2 (p_H K S I L T Λ) (n + 1 + f) s (nI j) (nI (17 - n)) = some (nI (p_lxf (L (s + 1)) j n))
  | 0, f, hn => by
    rw [show 0 + 1 + f = f + 1 by omega]
    show fX3_leastX_b2 _ _ _ _ _ = _
    unfold fX3_leastX_b2
    rw [if_pos (nI_lt (by omega) (by omega))]
    rfl
  | n + 1, f, hn => by
    rw [show n + 1 + 1 + f = (n + 1 + f) + 1 by omega]
    show fX3_leastX_b2 _ _ _ _ _ = _
    unfold fX3_leastX_b2
    have ih := leastX_go hs hj n f (by omega)
    rw [if_neg (nI_nlt (by omega) (by omega)), q_num hs (by omega) hj, Option.bind_some, nI_s, p_lxf, show 17 - (n + 1) = 16 - n by omega]
    by_cases h : L (s + 1) (5 * (16 - n) + j) = 0
    · rw [if_pos ((lg_cmp_eq _ _).mpr h), if_pos h, show 16 - n + 1 = 17 - n by omega, ih]
    · rw [if_neg (fun z => h ((lg_cmp_eq _ _).mp z)), if_neg h]
theorem q_leastX {s j : Nat} (hs : p_isS s) (hj : j ≤ 4) : fX3_leastX s (nI j) (p_H K S I L T Λ) = some (nI (p_lx (L (s + 1)) j)) := by
  unfold fX3_leastX
  rw [gS_o hs, Option.bind_some]
  exact leastX_go hs hj 17 182 (by omega)
end SHAPE
