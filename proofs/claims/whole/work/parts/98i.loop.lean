theorem law_true {L : Nat} (xs : Nat → Int32) (hL : L ≤ 3072) : fL_law L xs [] = some true := by
  have hgo := law_go (L := L) xs hL 599 0 0 p_S0 p_I0 p_L0 p_T0 p_Λ0 (by omega) (by omega) first_inv
  rw [law_eq, Option.bind_some, k_x8, Option.bind_some, Option.bind_some, k_x9, Option.bind_some, k_o8, k_o9]
  exact hgo
