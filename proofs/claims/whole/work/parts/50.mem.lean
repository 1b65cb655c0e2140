/-! the cells of the system: class 0 .. 95, reference 96 .. 121, then the laws, two cells each -/
abbrev p_Lw : Type := (Int32 × Int32) × (Nat × (Nat → Int32))
def p_rr (f : Nat → Option Nat) : ((Nat → Int32) ⊕ (Nat → Int64) ⊕ (Nat → UInt32) ⊕ (Nat → UInt64) ⊕ (Nat → Option Nat)) := .inr (.inr (.inr (.inr f)))
def p_mo (s : Nat → Int32) : List Value := [.ref 97, .ref 98, .ref 99, .int (s 3), .ref 100, .ref 101, .ref 102, .int (s 7), .int (s 8), .int (s 9), .ref 103, .ref 104, .ref 105, .int (s 13), .int (s 14), .int (s 15), .int (s 16), .int (s 17), .int (s 18), .int (s 19), .ref 106, .ref 107, .ref 108, .int (s 23), .int (s 24), .ref 109, .int (s 26), .ref 110, .ref 111, .ref 112, .ref 113, .ref 114, .ref 115, .ref 116, .ref 117, .ref 118, .ref 119, .ref 120, .ref 121, .int (s 39)]
def p_mn (j : Nat) : Nat × Nat := if j < 100 then (0, 1471) else if j = 100 then (0, 25) else if j = 103 then (0, 40) else if j = 104 then (3, 121) else if j = 105 then (0, 96) else if j = 106 then (2, 13) else if j = 107 then (0, 4) else if j = 108 then (0, 96) else if j = 109 then (0, 96) else if j = 110 then (3, 10) else if j = 111 then (0, 96) else if j = 112 then (0, 4) else if j = 113 then (0, 4) else if j = 114 then (0, 4) else if j = 115 then (0, 96) else if j < 119 then (0, 5) else if j = 119 then (0, 120) else if j = 120 then (0, 24) else (0, 60)
def p_c (j : Nat) (s i : Nat → Int32) (l : Nat → Int64) (t : Nat → Option Nat) : va_E :=
  if j = 0 then .inr (8, [.ref 1, .ref 17, .ref 33, .ref 45, .ref 57, .ref 60, .ref 61, .ref 62, .int (s 8), .int (s 9)])
  else if j < 33 then
    (if (j - 1) % 16 = 0 then .inr (7, [.int (s 0), .int (s 1), .int (s 2), .ref (j + 1), .ref (j + 2), .ref (j + 3)])
    else if (j - 1) % 16 = 1 then .inl (4, 6, p_rr fun q => if q < 6 then some (j + 3 + 2 * q) else none)
    else if (j - 1) % 16 = 2 then .inl (5, 14, p_rr t)
    else if (j - 1) % 16 = 3 then .inl (0, 96, .inl i)
    else if (j - 1) % 2 = 0 then .inr (0, [.int (s 0), .ref (j + 1)])
    else .inl (0, 15, .inl i))
  else if j < 57 then
    (if (j - 33) % 12 = 0 then .inr (6, [.int (s 0), .int (s 1), .int (s 2), .ref (if j = 33 then 1 else 17), .ref (j + 1), .ref (j + 2), .ref (j + 3), .ref (j + 4), .ref (j + 5)])
    else if (j - 33) % 12 = 1 then .inl (0, 15, .inl i)
    else if (j - 33) % 12 = 2 then .inl (0, 121, .inl i)
    else if (j - 33) % 12 = 3 then .inl (0, 121, .inl i)
    else if (j - 33) % 12 = 4 then .inl (8, 3, p_rr fun q => if q < 3 then some (j + 2 + 2 * q) else none)
    else if (j - 33) % 12 = 5 then .inl (1, 5, .inr (.inl l))
    else if (j - 33) % 2 = 0 then .inr (3, [.ref (j + 1)])
    else .inl (1, 85, .inr (.inl l)))
  else if j < 63 then
    (if j = 57 then .inr (5, [.int (s 0), .ref 58, .ref 59, .int (s 3), .int (s 4), .int (s 5), .int (s 6)])
    else if j = 58 then .inl (0, 96, .inl i)
    else if j = 59 then .inl (0, 96, .inl i)
    else if j = 60 then .inl (6, 4, p_rr fun q => if q < 4 then some (63 + 2 * q) else none)
    else if j = 61 then .inl (7, 5, p_rr fun q => if q < 5 then some (71 + 5 * q) else none)
    else .inl (0, 60, .inl i))
  else if j < 71 then
    (if (j - 63) % 2 = 0 then .inr (2, [.int (s 0), .int (s 1), .ref (j + 1)]) else .inl (0, 24, .inl i))
  else if j < 96 then
    (if (j - 71) % 5 = 0 then .inr (4, [.int (s 0), .int (s 1), .ref (j + 1), .ref (j + 3)])
    else if (j - 71) % 5 = 1 then .inr (0, [.int (s 0), .ref (j + 1)])
    else if (j - 71) % 5 = 2 then .inl (0, 15, .inl i)
    else if (j - 71) % 5 = 3 then .inr (2, [.int (s 0), .int (s 1), .ref (j + 1)])
    else .inl (0, 24, .inl i))
  else if j = 96 then .inr (9, p_mo s)
  else if j = 101 then .inl (1, 3400, .inr (.inl l))
  else if j = 102 then .inl (1, 5, .inr (.inl l))
  else .inl ((p_mn j).1, (p_mn j).2, .inl i)
def p_x (Λ : Nat → p_Lw) (j : Nat) : va_E := if j % 2 = 0 then .inr (1, [.int (Λ (j / 2)).1.1, .int (Λ (j / 2)).1.2, .ref (j + 123)]) else .inl (0, (Λ (j / 2)).2.1, .inl (Λ (j / 2)).2.2)
def p_e (S I : Nat → Nat → Int32) (L : Nat → Nat → Int64) (T : Nat → Nat → Option Nat) (Λ : Nat → p_Lw) (j : Nat) : va_E := if j < 122 then p_c j (S j) (I j) (L j) (T j) else p_x Λ (j - 122)
def p_H (K : Nat) (S I : Nat → Nat → Int32) (L : Nat → Nat → Int64) (T : Nat → Nat → Option Nat) (Λ : Nat → p_Lw) : e_H := (List.range (122 + 2 * K)).map (p_e S I L T Λ)
def p_s (S : Nat → Nat → Int32) (a k : Nat) (x : Int32) : Nat → Nat → Int32 := va_up S a (upd (S a) k x)
-- kinds of cells
def p_ia (t n a : Nat) : Prop := a < 122 ∧ ∀ s i l r, p_c a s i l r = .inl (t, n, .inl i)
def p_la (n a : Nat) : Prop := a < 122 ∧ ∀ s i l r, p_c a s i l r = .inl (1, n, .inr (.inl l))
def p_ra (t n a : Nat) : Prop := a < 122 ∧ ∀ s i l r, p_c a s i l r = .inl (t, n, p_rr r)
def p_fa (t n a : Nat) (g : Nat → Option Nat) : Prop := a < 122 ∧ ∀ s i l r, p_c a s i l r = .inl (t, n, p_rr g)
def p_ob (ci a : Nat) (fs : (Nat → Int32) → List Value) : Prop := a < 122 ∧ ∀ s i l r, p_c a s i l r = .inr (ci, fs s)
section MEM
variable {K : Nat} {S I : Nat → Nat → Int32} {L : Nat → Nat → Int64} {T : Nat → Nat → Option Nat} {Λ : Nat → p_Lw}
theorem p_len : (p_H K S I L T Λ).length = 122 + 2 * K := by simp [p_H]
theorem p_at {a : Nat} (ha : a < 122 + 2 * K) : (p_H K S I L T Λ)[a]? = some (p_e S I L T Λ a) := by
  simp [p_H, ha]
theorem p_get {a : Nat} (ha : a < 122) : (p_H K S I L T Λ)[a]? = some (p_c a (S a) (I a) (L a) (T a)) := by
  rw [p_at (by omega), p_e, if_pos ha]
theorem p_set {S' I' : Nat → Nat → Int32} {L' : Nat → Nat → Int64} {T' : Nat → Nat → Option Nat} {a : Nat} {e : va_E} (ha : a < 122) (hs : ∀ j, j ≠ a → S' j = S j) (hi : ∀ j, j ≠ a → I' j = I j) (hl : ∀ j, j ≠ a → L' j = L j) (ht : ∀ j, j ≠ a → T' j = T j) (he : p_c a (S' a) (I' a) (L' a) (T' a) = e) : (p_H K S I L T Λ).set a e = p_H K S' I' L' T' Λ := by
  apply List.ext_getElem?
  intro j
  by_cases hj : j = a
  · subst hj
    rw [List.getElem?_set_self (by rw [p_len]; omega), p_get ha, he]
  · rw [List.getElem?_set_ne (Ne.symm hj)]
    by_cases h1 : j < 122 + 2 * K
    · rw [p_at h1, p_at h1]
      unfold p_e
      rw [hs j hj, hi j hj, hl j hj, ht j hj]
    · have h2 := @p_len K S I L T Λ
      have h3 := @p_len K S' I' L' T' Λ
      rw [List.getElem?_eq_none (by omega), List.getElem?_eq_none (by omega)]
theorem va_up_s {α : Type} (f : Nat → α) (k : Nat) (v : α) : va_up f k v k = v := by simp [va_up]
theorem va_up_n {α : Type} {f : Nat → α} {k j : Nat} {v : α} (h : j ≠ k) : va_up f k v j = f j := by simp [va_up, h]
theorem p_setI {a t n : Nat} (h : p_ia t n a) (f : Nat → Int32) : (p_H K S I L T Λ).set a (.inl (t, n, .inl f)) = p_H K S (va_up I a f) L T Λ :=
  p_set h.1 (fun _ _ => rfl) (fun _ hj => va_up_n hj) (fun _ _ => rfl) (fun _ _ => rfl) (by rw [h.2, va_up_s])
theorem p_setL {a n : Nat} (h : p_la n a) (f : Nat → Int64) : (p_H K S I L T Λ).set a (.inl (1, n, .inr (.inl f))) = p_H K S I (va_up L a f) T Λ :=
  p_set h.1 (fun _ _ => rfl) (fun _ _ => rfl) (fun _ hj => va_up_n hj) (fun _ _ => rfl) (by rw [h.2, va_up_s])
theorem p_setR {a t n : Nat} (h : p_ra t n a) (f : Nat → Option Nat) : (p_H K S I L T Λ).set a (.inl (t, n, p_rr f)) = p_H K S I L (va_up T a f) Λ :=
  p_set h.1 (fun _ _ => rfl) (fun _ _ => rfl) (fun _ _ => rfl) (fun _ hj => va_up_n hj) (by rw [h.2, va_up_s])
theorem p_rowI {a t n : Nat} (h : p_ia t n a) : o_rowI (p_H K S I L T Λ) a t = some (n, I a) := by
  simp [o_rowI, o_arr, p_get h.1, h.2]
theorem p_rowL {a n : Nat} (h : p_la n a) : o_rowL (p_H K S I L T Λ) a 1 = some (n, L a) := by
  simp [o_rowL, o_arr, p_get h.1, h.2]
theorem p_rowR {a t n : Nat} (h : p_ra t n a) : o_rowR (p_H K S I L T Λ) a t = some (n, T a) := by
  simp [o_rowR, o_arr, p_get h.1, h.2, p_rr]
theorem p_rowF {a t n : Nat} {g : Nat → Option Nat} (h : p_fa t n a g) : o_rowR (p_H K S I L T Λ) a t = some (n, g) := by
  simp [o_rowR, o_arr, p_get h.1, h.2, p_rr]
theorem p_lenI {a t n : Nat} (h : p_ia t n a) : o_len (p_H K S I L T Λ) a t = some (nI n) := by simp [o_len, o_arr, p_get h.1, h.2, nI]
theorem p_lenL {a n : Nat} (h : p_la n a) : o_len (p_H K S I L T Λ) a 1 = some (nI n) := by simp [o_len, o_arr, p_get h.1, h.2, nI]
theorem p_lenR {a t n : Nat} (h : p_ra t n a) : o_len (p_H K S I L T Λ) a t = some (nI n) := by simp [o_len, o_arr, p_get h.1, h.2, nI]
theorem p_lenF {a t n : Nat} {g : Nat → Option Nat} (h : p_fa t n a g) : o_len (p_H K S I L T Λ) a t = some (nI n) := by simp [o_len, o_arr, p_get h.1, h.2, nI]
theorem nI_bad {k n : Nat} (hk : k < n) (hn : n < 2 ^ 31) : ¬ (nI k < 0 ∨ n ≤ (nI k).toNatClampNeg) := nI_in hk hn
theorem p_ldI {a t n k : Nat} (h : p_ia t n a) (hk : k < n) (hn : n < 2 ^ 31) : o_ldI (p_H K S I L T Λ) a t (nI k) = some (I a k) := by
  simp only [o_ldI, p_rowI h, Option.bind_some]
  rw [if_neg (nI_bad hk hn), nI_clamp (Nat.lt_trans hk hn)]
theorem p_ldL {a n k : Nat} (h : p_la n a) (hk : k < n) (hn : n < 2 ^ 31) : o_ldL (p_H K S I L T Λ) a 1 (nI k) = some (L a k) := by
  simp only [o_ldL, p_rowL h, Option.bind_some]
  rw [if_neg (nI_bad hk hn), nI_clamp (Nat.lt_trans hk hn)]
theorem p_ldR {a t n k : Nat} (h : p_ra t n a) (hk : k < n) (hn : n < 2 ^ 31) : o_ldR (p_H K S I L T Λ) a t (nI k) = some (T a k) := by
  simp only [o_ldR, p_rowR h, Option.bind_some]
  rw [if_neg (nI_bad hk hn), nI_clamp (Nat.lt_trans hk hn)]
theorem p_ldF {a t n k : Nat} {g : Nat → Option Nat} (h : p_fa t n a g) (hk : k < n) (hn : n < 2 ^ 31) : o_ldR (p_H K S I L T Λ) a t (nI k) = some (g k) := by
  simp only [o_ldR, p_rowF h, Option.bind_some]
  rw [if_neg (nI_bad hk hn), nI_clamp (Nat.lt_trans hk hn)]
theorem p_stI {a t n k : Nat} {x : Int32} (h : p_ia t n a) (hk : k < n) (hn : n < 2 ^ 31) : o_stI (p_H K S I L T Λ) a t (nI k) x = some (p_H K S (va_up I a (upd (I a) k x)) L T Λ) := by
  simp only [o_stI, p_rowI h, Option.bind_some]
  rw [if_neg (nI_bad hk hn), nI_clamp (Nat.lt_trans hk hn), p_setI h]
theorem p_stL {a n k : Nat} {x : Int64} (h : p_la n a) (hk : k < n) (hn : n < 2 ^ 31) : o_stL (p_H K S I L T Λ) a 1 (nI k) x = some (p_H K S I (va_up L a (vp_updL (L a) k x)) T Λ) := by
  simp only [o_stL, p_rowL h, Option.bind_some]
  rw [if_neg (nI_bad hk hn), nI_clamp (Nat.lt_trans hk hn), p_setL h]
theorem p_stN {a t n k : Nat} (h : p_ra t n a) (hk : k < n) (hn : n < 2 ^ 31) : o_stN (p_H K S I L T Λ) a t (nI k) = some (p_H K S I L (va_up T a (va_up (T a) k none)) Λ) := by
  simp only [o_stN, p_rowR h, Option.bind_some]
  rw [if_neg (nI_bad hk hn), nI_clamp (Nat.lt_trans hk hn)]
  exact congrArg some (p_setR h _)
theorem p_stQ {a t n k v : Nat} {fs : List Value} (h : p_ra t n a) (hk : k < n) (hn : n < 2 ^ 31) (hv : o_obj (p_H K S I L T Λ) v (e_el t) = some fs) : o_stQ (p_H K S I L T Λ) a t (nI k) v = some (p_H K S I L (va_up T a (va_up (T a) k (some v))) Λ) := by
  simp only [o_stQ, p_rowR h, Option.bind_some, hv]
  rw [if_neg (nI_bad hk hn), nI_clamp (Nat.lt_trans hk hn)]
  exact congrArg some (p_setR h _)
theorem p_obj {ci a : Nat} {fs : (Nat → Int32) → List Value} (h : p_ob ci a fs) : o_obj (p_H K S I L T Λ) a ci = some (fs (S a)) := by simp [o_obj, p_get h.1, h.2]
theorem p_getI {ci a k : Nat} {fs : (Nat → Int32) → List Value} {x : Int32} (h : p_ob ci a fs) (hk : (fs (S a))[k]? = some (.int x)) : o_getI (p_H K S I L T Λ) a ci k = some x := by
  simp [o_getI, o_get, p_obj h, hk, o_asI]
theorem p_getR {ci a k r : Nat} {fs : (Nat → Int32) → List Value} (h : p_ob ci a fs) (hk : (fs (S a))[k]? = some (.ref r)) : o_getR (p_H K S I L T Λ) a ci k = some (some r) := by
  simp [o_getR, o_get, p_obj h, hk, o_asR]
theorem p_put {ci a k : Nat} {fs : (Nat → Int32) → List Value} {x : Int32} (h : p_ob ci a fs) (hk : k < (fs (S a)).length) (hs : (fs (S a)).set k (.int x) = fs (upd (S a) k x)) : o_put (p_H K S I L T Λ) a ci k (.int x) = some (p_H K (p_s S a k x) I L T Λ) := by
  simp only [o_put, p_obj h, Option.bind_some]
  rw [if_pos hk, hs]
  exact congrArg some (p_set h.1 (fun _ hj => va_up_n hj) (fun _ _ => rfl) (fun _ _ => rfl) (fun _ _ => rfl) (by rw [h.2, p_s, va_up_s]))
end MEM
