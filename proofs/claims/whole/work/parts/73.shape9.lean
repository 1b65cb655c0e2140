def p_C : Nat → Nat → Int64
  | _, 0 => 1
  | 0, _ + 1 => 0
  | n + 1, k + 1 => p_C n k + p_C n (k + 1)
theorem q9_choices {n k : Nat} (hn : n ≤ 4) (hk : k ≤ n) : fX9_choices (nI n) (nI k) = some (p_C n k) := by
  have h : ∀ n, n < 5 → ∀ k, k < 5 → k ≤ n → fX9_choices (nI n) (nI k) = some (p_C n k) := by decide +kernel
  exact h n (by omega) k (by omega) hk
def p_ct (t : Nat → Nat → Int32) (x y : Int64) (k j : Nat) : Int64 := (p_t25 t k).toInt64 * (p_C (k / 5) (j / 5) * p_C (k % 5) (j % 5)) * p_pow x (k / 5 - j / 5) * p_pow y (k % 5 - j % 5)
def p_fs (t : Nat → Nat → Int32) (x y : Int64) (j : Nat) : Nat → Int64
  | 0 => 0
  | n + 1 => p_fs t x y j n + if j / 5 ≤ n / 5 ∧ j % 5 ≤ n % 5 then p_ct t x y n j else 0
theorem p_fs_hi (t : Nat → Nat → Int32) (x y : Int64) {j : Nat} (hj : 25 ≤ j) : ∀ n, n ≤ 25 → p_fs t x y j n = 0
  | 0, _ => rfl
  | n + 1, hn => by
    rw [p_fs, p_fs_hi t x y hj n (by omega), if_neg (by omega)]
    rfl
set_option maxRecDepth 4000 in
theorem p_fs_shp (t : Nat → Nat → Int32) (x y : Int64) {j : Nat} (hj : j < 25) : p_fs t x y j 25 = p_shp t x y j := by
  have z : (0 : Int32).toInt64 = 0 := rfl
  rcases (show j = 0 ∨ j = 1 ∨ j = 2 ∨ j = 3 ∨ j = 4 ∨ j = 5 ∨ j = 6 ∨ j = 7 ∨ j = 8 ∨ j = 9 ∨ j = 10 ∨ j = 11 ∨ j = 12 ∨ j = 13 ∨ j = 14 ∨ j = 15 ∨ j = 16 ∨ j = 17 ∨ j = 18 ∨ j = 19 ∨ j = 20 ∨ j = 21 ∨ j = 22 ∨ j = 23 ∨ j = 24 by omega) with rfl | rfl | rfl | rfl | rfl | rfl | rfl | rfl | rfl | rfl | rfl | rfl | rfl | rfl | rfl | rfl | rfl | rfl | rfl | rfl | rfl | rfl | rfl | rfl | rfl <;> simp [p_fs, p_ct, p_shp, p_sf, p_t2, p_t25, p_pow, p_C, z] <;> try grind
