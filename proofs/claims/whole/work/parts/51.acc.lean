def p_isC (a : Nat) : Prop := p_ob 0 a (fun s => [.int (s 0), .ref (a + 1)]) ∧ p_ia 0 15 (a + 1)
def p_isS (a : Nat) : Prop := p_ob 3 a (fun _ => [.ref (a + 1)]) ∧ p_la 85 (a + 1)
def p_isR (a : Nat) : Prop := p_ob 2 a (fun s => [.int (s 0), .int (s 1), .ref (a + 1)]) ∧ p_ia 0 24 (a + 1)
def p_isW (w : Nat) : Prop := w = 1 ∨ w = 17
def p_isV (v w : Nat) : Prop := (v = 33 ∧ w = 1) ∨ (v = 45 ∧ w = 17)
theorem p_isV.w {v w : Nat} (h : p_isV v w) : p_isW w := by
  rcases h with ⟨-, h⟩ | ⟨-, h⟩
  · exact Or.inl h
  · exact Or.inr h
theorem pk_w {w : Nat} (h : p_isW w) : p_ob 7 w (fun s => [.int (s 0), .int (s 1), .int (s 2), .ref (w + 1), .ref (w + 2), .ref (w + 3)]) := by
  rcases h with rfl | rfl <;> exact ⟨by decide, fun _ _ _ _ => rfl⟩
theorem pk_wc {w : Nat} (h : p_isW w) : p_fa 4 6 (w + 1) (fun q => if q < 6 then some (w + 4 + 2 * q) else none) := by
  rcases h with rfl | rfl <;> exact ⟨by decide, fun _ _ _ _ => rfl⟩
theorem pk_wl {w : Nat} (h : p_isW w) : p_ra 5 14 (w + 2) := by
  rcases h with rfl | rfl <;> exact ⟨by decide, fun _ _ _ _ => rfl⟩
theorem pk_ws {w : Nat} (h : p_isW w) : p_ia 0 96 (w + 3) := by
  rcases h with rfl | rfl <;> exact ⟨by decide, fun _ _ _ _ => rfl⟩
theorem pk_cw {w c : Nat} (h : p_isW w) (hc : c < 6) : p_isC (w + 4 + 2 * c) := by
  rcases h with rfl | rfl <;> rcases (show c = 0 ∨ c = 1 ∨ c = 2 ∨ c = 3 ∨ c = 4 ∨ c = 5 by omega) with rfl | rfl | rfl | rfl | rfl | rfl <;> exact ⟨⟨by decide, fun _ _ _ _ => rfl⟩, ⟨by decide, fun _ _ _ _ => rfl⟩⟩
theorem pk_cs {c : Nat} (hc : c < 5) : p_isC (72 + 5 * c) := by
  rcases (show c = 0 ∨ c = 1 ∨ c = 2 ∨ c = 3 ∨ c = 4 by omega) with rfl | rfl | rfl | rfl | rfl <;> exact ⟨⟨by decide, fun _ _ _ _ => rfl⟩, ⟨by decide, fun _ _ _ _ => rfl⟩⟩
theorem pk_v {v w : Nat} (h : p_isV v w) : p_ob 6 v (fun s => [.int (s 0), .int (s 1), .int (s 2), .ref w, .ref (v + 1), .ref (v + 2), .ref (v + 3), .ref (v + 4), .ref (v + 5)]) := by
  rcases h with ⟨rfl, rfl⟩ | ⟨rfl, rfl⟩ <;> exact ⟨by decide, fun _ _ _ _ => rfl⟩
theorem pk_v1 {v w : Nat} (h : p_isV v w) : p_ia 0 15 (v + 1) := by
  rcases h with ⟨rfl, rfl⟩ | ⟨rfl, rfl⟩ <;> exact ⟨by decide, fun _ _ _ _ => rfl⟩
theorem pk_v2 {v w : Nat} (h : p_isV v w) : p_ia 0 121 (v + 2) := by
  rcases h with ⟨rfl, rfl⟩ | ⟨rfl, rfl⟩ <;> exact ⟨by decide, fun _ _ _ _ => rfl⟩
theorem pk_v3 {v w : Nat} (h : p_isV v w) : p_ia 0 121 (v + 3) := by
  rcases h with ⟨rfl, rfl⟩ | ⟨rfl, rfl⟩ <;> exact ⟨by decide, fun _ _ _ _ => rfl⟩
theorem pk_v4 {v w : Nat} (h : p_isV v w) : p_fa 8 3 (v + 4) (fun q => if q < 3 then some (v + 6 + 2 * q) else none) := by
  rcases h with ⟨rfl, rfl⟩ | ⟨rfl, rfl⟩ <;> exact ⟨by decide, fun _ _ _ _ => rfl⟩
theorem pk_v5 {v w : Nat} (h : p_isV v w) : p_la 5 (v + 5) := by
  rcases h with ⟨rfl, rfl⟩ | ⟨rfl, rfl⟩ <;> exact ⟨by decide, fun _ _ _ _ => rfl⟩
theorem pk_sv {v w d : Nat} (h : p_isV v w) (hd : d < 3) : p_isS (v + 6 + 2 * d) := by
  rcases h with ⟨rfl, rfl⟩ | ⟨rfl, rfl⟩ <;> rcases (show d = 0 ∨ d = 1 ∨ d = 2 by omega) with rfl | rfl | rfl <;> exact ⟨⟨by decide, fun _ _ _ _ => rfl⟩, ⟨by decide, fun _ _ _ _ => rfl⟩⟩
theorem pk_rr {c : Nat} (hc : c < 4) : p_isR (63 + 2 * c) := by
  rcases (show c = 0 ∨ c = 1 ∨ c = 2 ∨ c = 3 by omega) with rfl | rfl | rfl | rfl <;> exact ⟨⟨by decide, fun _ _ _ _ => rfl⟩, ⟨by decide, fun _ _ _ _ => rfl⟩⟩
theorem pk_rs {c : Nat} (hc : c < 5) : p_isR (74 + 5 * c) := by
  rcases (show c = 0 ∨ c = 1 ∨ c = 2 ∨ c = 3 ∨ c = 4 by omega) with rfl | rfl | rfl | rfl | rfl <;> exact ⟨⟨by decide, fun _ _ _ _ => rfl⟩, ⟨by decide, fun _ _ _ _ => rfl⟩⟩
theorem pk_sl {c : Nat} (hc : c < 5) : p_ob 4 (71 + 5 * c) (fun s => [.int (s 0), .int (s 1), .ref (72 + 5 * c), .ref (74 + 5 * c)]) := by
  rcases (show c = 0 ∨ c = 1 ∨ c = 2 ∨ c = 3 ∨ c = 4 by omega) with rfl | rfl | rfl | rfl | rfl <;> exact ⟨by decide, fun _ _ _ _ => rfl⟩
theorem pk_tp : p_ob 5 57 (fun s => [.int (s 0), .ref 58, .ref 59, .int (s 3), .int (s 4), .int (s 5), .int (s 6)]) := ⟨by decide, fun _ _ _ _ => rfl⟩
theorem pk_b : p_ob 8 0 (fun s => [.ref 1, .ref 17, .ref 33, .ref 45, .ref 57, .ref 60, .ref 61, .ref 62, .int (s 8), .int (s 9)]) := ⟨by decide, fun _ _ _ _ => rfl⟩
theorem pk_60 : p_fa 6 4 60 (fun q => if q < 4 then some (63 + 2 * q) else none) := ⟨by decide, fun _ _ _ _ => rfl⟩
theorem pk_61 : p_fa 7 5 61 (fun q => if q < 5 then some (71 + 5 * q) else none) := ⟨by decide, fun _ _ _ _ => rfl⟩
theorem pk_m : p_ob 9 96 p_mo := ⟨by decide, fun _ _ _ _ => rfl⟩
theorem pk_58 : p_ia 0 96 58 := ⟨by decide, fun _ _ _ _ => rfl⟩
theorem pk_59 : p_ia 0 96 59 := ⟨by decide, fun _ _ _ _ => rfl⟩
theorem pk_62 : p_ia 0 60 62 := ⟨by decide, fun _ _ _ _ => rfl⟩
theorem pk_97 : p_ia 0 1471 97 := ⟨by decide, fun _ _ _ _ => rfl⟩
theorem pk_98 : p_ia 0 1471 98 := ⟨by decide, fun _ _ _ _ => rfl⟩
theorem pk_99 : p_ia 0 1471 99 := ⟨by decide, fun _ _ _ _ => rfl⟩
theorem pk_100 : p_ia 0 25 100 := ⟨by decide, fun _ _ _ _ => rfl⟩
theorem pk_103 : p_ia 0 40 103 := ⟨by decide, fun _ _ _ _ => rfl⟩
theorem pk_104 : p_ia 3 121 104 := ⟨by decide, fun _ _ _ _ => rfl⟩
theorem pk_105 : p_ia 0 96 105 := ⟨by decide, fun _ _ _ _ => rfl⟩
theorem pk_106 : p_ia 2 13 106 := ⟨by decide, fun _ _ _ _ => rfl⟩
theorem pk_107 : p_ia 0 4 107 := ⟨by decide, fun _ _ _ _ => rfl⟩
theorem pk_108 : p_ia 0 96 108 := ⟨by decide, fun _ _ _ _ => rfl⟩
theorem pk_109 : p_ia 0 96 109 := ⟨by decide, fun _ _ _ _ => rfl⟩
theorem pk_110 : p_ia 3 10 110 := ⟨by decide, fun _ _ _ _ => rfl⟩
theorem pk_111 : p_ia 0 96 111 := ⟨by decide, fun _ _ _ _ => rfl⟩
theorem pk_112 : p_ia 0 4 112 := ⟨by decide, fun _ _ _ _ => rfl⟩
theorem pk_113 : p_ia 0 4 113 := ⟨by decide, fun _ _ _ _ => rfl⟩
theorem pk_114 : p_ia 0 4 114 := ⟨by decide, fun _ _ _ _ => rfl⟩
theorem pk_115 : p_ia 0 96 115 := ⟨by decide, fun _ _ _ _ => rfl⟩
theorem pk_116 : p_ia 0 5 116 := ⟨by decide, fun _ _ _ _ => rfl⟩
theorem pk_117 : p_ia 0 5 117 := ⟨by decide, fun _ _ _ _ => rfl⟩
theorem pk_118 : p_ia 0 5 118 := ⟨by decide, fun _ _ _ _ => rfl⟩
theorem pk_119 : p_ia 0 120 119 := ⟨by decide, fun _ _ _ _ => rfl⟩
theorem pk_120 : p_ia 0 24 120 := ⟨by decide, fun _ _ _ _ => rfl⟩
theorem pk_121 : p_ia 0 60 121 := ⟨by decide, fun _ _ _ _ => rfl⟩
theorem pk_101 : p_la 3400 101 := ⟨by decide, fun _ _ _ _ => rfl⟩
theorem pk_102 : p_la 5 102 := ⟨by decide, fun _ _ _ _ => rfl⟩
section ACC
variable {K : Nat} {S I : Nat → Nat → Int32} {L : Nat → Nat → Int64} {T : Nat → Nat → Option Nat} {Λ : Nat → p_Lw}
theorem gC_o {a : Nat} (h : p_isC a) : o_obj (p_H K S I L T Λ) a 0 = some ([.int (S (a) 0), .ref (a + 1)]) := p_obj h.1
theorem gC_0 {a : Nat} (h : p_isC a) : o_getI (p_H K S I L T Λ) a 0 0 = some (S (a) 0) := p_getI h.1 rfl
theorem gC_p0 {a : Nat} (h : p_isC a) (x : Int32) : o_put (p_H K S I L T Λ) a 0 0 (.int x) = some (p_H K (p_s S (a) 0 x) I L T Λ) := p_put h.1 (Nat.le_of_ble_eq_true rfl) (by simp [upd, p_mo])
theorem gC_1 {a : Nat} (h : p_isC a) : o_getR (p_H K S I L T Λ) a 0 1 = some (some (a + 1)) := p_getR h.1 rfl
theorem gS_o {a : Nat} (h : p_isS a) : o_obj (p_H K S I L T Λ) a 3 = some ([.ref (a + 1)]) := p_obj h.1
theorem gS_0 {a : Nat} (h : p_isS a) : o_getR (p_H K S I L T Λ) a 3 0 = some (some (a + 1)) := p_getR h.1 rfl
theorem gR_o {a : Nat} (h : p_isR a) : o_obj (p_H K S I L T Λ) a 2 = some ([.int (S (a) 0), .int (S (a) 1), .ref (a + 1)]) := p_obj h.1
theorem gR_0 {a : Nat} (h : p_isR a) : o_getI (p_H K S I L T Λ) a 2 0 = some (S (a) 0) := p_getI h.1 rfl
theorem gR_p0 {a : Nat} (h : p_isR a) (x : Int32) : o_put (p_H K S I L T Λ) a 2 0 (.int x) = some (p_H K (p_s S (a) 0 x) I L T Λ) := p_put h.1 (Nat.le_of_ble_eq_true rfl) (by simp [upd, p_mo])
theorem gR_1 {a : Nat} (h : p_isR a) : o_getI (p_H K S I L T Λ) a 2 1 = some (S (a) 1) := p_getI h.1 rfl
theorem gR_p1 {a : Nat} (h : p_isR a) (x : Int32) : o_put (p_H K S I L T Λ) a 2 1 (.int x) = some (p_H K (p_s S (a) 1 x) I L T Λ) := p_put h.1 (Nat.le_of_ble_eq_true rfl) (by simp [upd, p_mo])
theorem gR_2 {a : Nat} (h : p_isR a) : o_getR (p_H K S I L T Λ) a 2 2 = some (some (a + 1)) := p_getR h.1 rfl
theorem gW_o {w : Nat} (h : p_isW w) : o_obj (p_H K S I L T Λ) w 7 = some ([.int (S (w) 0), .int (S (w) 1), .int (S (w) 2), .ref (w + 1), .ref (w + 2), .ref (w + 3)]) := p_obj (pk_w h)
theorem gW_0 {w : Nat} (h : p_isW w) : o_getI (p_H K S I L T Λ) w 7 0 = some (S (w) 0) := p_getI (pk_w h) rfl
theorem gW_p0 {w : Nat} (h : p_isW w) (x : Int32) : o_put (p_H K S I L T Λ) w 7 0 (.int x) = some (p_H K (p_s S (w) 0 x) I L T Λ) := p_put (pk_w h) (Nat.le_of_ble_eq_true rfl) (by simp [upd, p_mo])
theorem gW_1 {w : Nat} (h : p_isW w) : o_getI (p_H K S I L T Λ) w 7 1 = some (S (w) 1) := p_getI (pk_w h) rfl
theorem gW_p1 {w : Nat} (h : p_isW w) (x : Int32) : o_put (p_H K S I L T Λ) w 7 1 (.int x) = some (p_H K (p_s S (w) 1 x) I L T Λ) := p_put (pk_w h) (Nat.le_of_ble_eq_true rfl) (by simp [upd, p_mo])
theorem gW_2 {w : Nat} (h : p_isW w) : o_getI (p_H K S I L T Λ) w 7 2 = some (S (w) 2) := p_getI (pk_w h) rfl
theorem gW_p2 {w : Nat} (h : p_isW w) (x : Int32) : o_put (p_H K S I L T Λ) w 7 2 (.int x) = some (p_H K (p_s S (w) 2 x) I L T Λ) := p_put (pk_w h) (Nat.le_of_ble_eq_true rfl) (by simp [upd, p_mo])
theorem gW_3 {w : Nat} (h : p_isW w) : o_getR (p_H K S I L T Λ) w 7 3 = some (some (w + 1)) := p_getR (pk_w h) rfl
theorem gW_4 {w : Nat} (h : p_isW w) : o_getR (p_H K S I L T Λ) w 7 4 = some (some (w + 2)) := p_getR (pk_w h) rfl
theorem gW_5 {w : Nat} (h : p_isW w) : o_getR (p_H K S I L T Λ) w 7 5 = some (some (w + 3)) := p_getR (pk_w h) rfl
theorem gV_o {v w : Nat} (h : p_isV v w) : o_obj (p_H K S I L T Λ) v 6 = some ([.int (S (v) 0), .int (S (v) 1), .int (S (v) 2), .ref w, .ref (v + 1), .ref (v + 2), .ref (v + 3), .ref (v + 4), .ref (v + 5)]) := p_obj (pk_v h)
theorem gV_0 {v w : Nat} (h : p_isV v w) : o_getI (p_H K S I L T Λ) v 6 0 = some (S (v) 0) := p_getI (pk_v h) rfl
theorem gV_p0 {v w : Nat} (h : p_isV v w) (x : Int32) : o_put (p_H K S I L T Λ) v 6 0 (.int x) = some (p_H K (p_s S (v) 0 x) I L T Λ) := p_put (pk_v h) (Nat.le_of_ble_eq_true rfl) (by simp [upd, p_mo])
theorem gV_1 {v w : Nat} (h : p_isV v w) : o_getI (p_H K S I L T Λ) v 6 1 = some (S (v) 1) := p_getI (pk_v h) rfl
theorem gV_p1 {v w : Nat} (h : p_isV v w) (x : Int32) : o_put (p_H K S I L T Λ) v 6 1 (.int x) = some (p_H K (p_s S (v) 1 x) I L T Λ) := p_put (pk_v h) (Nat.le_of_ble_eq_true rfl) (by simp [upd, p_mo])
theorem gV_2 {v w : Nat} (h : p_isV v w) : o_getI (p_H K S I L T Λ) v 6 2 = some (S (v) 2) := p_getI (pk_v h) rfl
theorem gV_p2 {v w : Nat} (h : p_isV v w) (x : Int32) : o_put (p_H K S I L T Λ) v 6 2 (.int x) = some (p_H K (p_s S (v) 2 x) I L T Λ) := p_put (pk_v h) (Nat.le_of_ble_eq_true rfl) (by simp [upd, p_mo])
theorem gV_3 {v w : Nat} (h : p_isV v w) : o_getR (p_H K S I L T Λ) v 6 3 = some (some (w)) := p_getR (pk_v h) rfl
theorem gV_4 {v w : Nat} (h : p_isV v w) : o_getR (p_H K S I L T Λ) v 6 4 = some (some (v + 1)) := p_getR (pk_v h) rfl
theorem gV_5 {v w : Nat} (h : p_isV v w) : o_getR (p_H K S I L T Λ) v 6 5 = some (some (v + 2)) := p_getR (pk_v h) rfl
theorem gV_6 {v w : Nat} (h : p_isV v w) : o_getR (p_H K S I L T Λ) v 6 6 = some (some (v + 3)) := p_getR (pk_v h) rfl
theorem gV_7 {v w : Nat} (h : p_isV v w) : o_getR (p_H K S I L T Λ) v 6 7 = some (some (v + 4)) := p_getR (pk_v h) rfl
theorem gV_8 {v w : Nat} (h : p_isV v w) : o_getR (p_H K S I L T Λ) v 6 8 = some (some (v + 5)) := p_getR (pk_v h) rfl
theorem gL_o {c : Nat} (h : c < 5) : o_obj (p_H K S I L T Λ) (71 + 5 * c) 4 = some ([.int (S (71 + 5 * c) 0), .int (S (71 + 5 * c) 1), .ref (72 + 5 * c), .ref (74 + 5 * c)]) := p_obj (pk_sl h)
theorem gL_0 {c : Nat} (h : c < 5) : o_getI (p_H K S I L T Λ) (71 + 5 * c) 4 0 = some (S ((71 + 5 * c)) 0) := p_getI (pk_sl h) rfl
theorem gL_p0 {c : Nat} (h : c < 5) (x : Int32) : o_put (p_H K S I L T Λ) (71 + 5 * c) 4 0 (.int x) = some (p_H K (p_s S ((71 + 5 * c)) 0 x) I L T Λ) := p_put (pk_sl h) (Nat.le_of_ble_eq_true rfl) (by simp [upd, p_mo])
theorem gL_1 {c : Nat} (h : c < 5) : o_getI (p_H K S I L T Λ) (71 + 5 * c) 4 1 = some (S ((71 + 5 * c)) 1) := p_getI (pk_sl h) rfl
theorem gL_p1 {c : Nat} (h : c < 5) (x : Int32) : o_put (p_H K S I L T Λ) (71 + 5 * c) 4 1 (.int x) = some (p_H K (p_s S ((71 + 5 * c)) 1 x) I L T Λ) := p_put (pk_sl h) (Nat.le_of_ble_eq_true rfl) (by simp [upd, p_mo])
theorem gL_2 {c : Nat} (h : c < 5) : o_getR (p_H K S I L T Λ) (71 + 5 * c) 4 2 = some (some (72 + 5 * c)) := p_getR (pk_sl h) rfl
theorem gL_3 {c : Nat} (h : c < 5) : o_getR (p_H K S I L T Λ) (71 + 5 * c) 4 3 = some (some (74 + 5 * c)) := p_getR (pk_sl h) rfl
theorem gT_o : o_obj (p_H K S I L T Λ) 57 5 = some ([.int (S (57) 0), .ref 58, .ref 59, .int (S (57) 3), .int (S (57) 4), .int (S (57) 5), .int (S (57) 6)]) := p_obj pk_tp
theorem gT_0 : o_getI (p_H K S I L T Λ) 57 5 0 = some (S (57) 0) := p_getI pk_tp rfl
theorem gT_p0 (x : Int32) : o_put (p_H K S I L T Λ) 57 5 0 (.int x) = some (p_H K (p_s S (57) 0 x) I L T Λ) := p_put pk_tp (Nat.le_of_ble_eq_true rfl) (by simp [upd, p_mo])
theorem gT_1 : o_getR (p_H K S I L T Λ) 57 5 1 = some (some (58)) := p_getR pk_tp rfl
theorem gT_2 : o_getR (p_H K S I L T Λ) 57 5 2 = some (some (59)) := p_getR pk_tp rfl
theorem gT_3 : o_getI (p_H K S I L T Λ) 57 5 3 = some (S (57) 3) := p_getI pk_tp rfl
theorem gT_p3 (x : Int32) : o_put (p_H K S I L T Λ) 57 5 3 (.int x) = some (p_H K (p_s S (57) 3 x) I L T Λ) := p_put pk_tp (Nat.le_of_ble_eq_true rfl) (by simp [upd, p_mo])
theorem gT_4 : o_getI (p_H K S I L T Λ) 57 5 4 = some (S (57) 4) := p_getI pk_tp rfl
theorem gT_p4 (x : Int32) : o_put (p_H K S I L T Λ) 57 5 4 (.int x) = some (p_H K (p_s S (57) 4 x) I L T Λ) := p_put pk_tp (Nat.le_of_ble_eq_true rfl) (by simp [upd, p_mo])
theorem gT_5 : o_getI (p_H K S I L T Λ) 57 5 5 = some (S (57) 5) := p_getI pk_tp rfl
theorem gT_p5 (x : Int32) : o_put (p_H K S I L T Λ) 57 5 5 (.int x) = some (p_H K (p_s S (57) 5 x) I L T Λ) := p_put pk_tp (Nat.le_of_ble_eq_true rfl) (by simp [upd, p_mo])
theorem gT_6 : o_getI (p_H K S I L T Λ) 57 5 6 = some (S (57) 6) := p_getI pk_tp rfl
theorem gT_p6 (x : Int32) : o_put (p_H K S I L T Λ) 57 5 6 (.int x) = some (p_H K (p_s S (57) 6 x) I L T Λ) := p_put pk_tp (Nat.le_of_ble_eq_true rfl) (by simp [upd, p_mo])
theorem gB_o : o_obj (p_H K S I L T Λ) 0 8 = some ([.ref 1, .ref 17, .ref 33, .ref 45, .ref 57, .ref 60, .ref 61, .ref 62, .int (S (0) 8), .int (S (0) 9)]) := p_obj pk_b
theorem gB_0 : o_getR (p_H K S I L T Λ) 0 8 0 = some (some (1)) := p_getR pk_b rfl
theorem gB_1 : o_getR (p_H K S I L T Λ) 0 8 1 = some (some (17)) := p_getR pk_b rfl
theorem gB_2 : o_getR (p_H K S I L T Λ) 0 8 2 = some (some (33)) := p_getR pk_b rfl
theorem gB_3 : o_getR (p_H K S I L T Λ) 0 8 3 = some (some (45)) := p_getR pk_b rfl
theorem gB_4 : o_getR (p_H K S I L T Λ) 0 8 4 = some (some (57)) := p_getR pk_b rfl
theorem gB_5 : o_getR (p_H K S I L T Λ) 0 8 5 = some (some (60)) := p_getR pk_b rfl
theorem gB_6 : o_getR (p_H K S I L T Λ) 0 8 6 = some (some (61)) := p_getR pk_b rfl
theorem gB_7 : o_getR (p_H K S I L T Λ) 0 8 7 = some (some (62)) := p_getR pk_b rfl
theorem gB_8 : o_getI (p_H K S I L T Λ) 0 8 8 = some (S (0) 8) := p_getI pk_b rfl
theorem gB_p8 (x : Int32) : o_put (p_H K S I L T Λ) 0 8 8 (.int x) = some (p_H K (p_s S (0) 8 x) I L T Λ) := p_put pk_b (Nat.le_of_ble_eq_true rfl) (by simp [upd, p_mo])
theorem gB_9 : o_getI (p_H K S I L T Λ) 0 8 9 = some (S (0) 9) := p_getI pk_b rfl
theorem gB_p9 (x : Int32) : o_put (p_H K S I L T Λ) 0 8 9 (.int x) = some (p_H K (p_s S (0) 9 x) I L T Λ) := p_put pk_b (Nat.le_of_ble_eq_true rfl) (by simp [upd, p_mo])
theorem gM_o : o_obj (p_H K S I L T Λ) 96 9 = some (p_mo (S 96)) := p_obj pk_m
theorem gM_0 : o_getR (p_H K S I L T Λ) 96 9 0 = some (some (97)) := p_getR pk_m rfl
theorem gM_1 : o_getR (p_H K S I L T Λ) 96 9 1 = some (some (98)) := p_getR pk_m rfl
theorem gM_2 : o_getR (p_H K S I L T Λ) 96 9 2 = some (some (99)) := p_getR pk_m rfl
theorem gM_3 : o_getI (p_H K S I L T Λ) 96 9 3 = some (S (96) 3) := p_getI pk_m rfl
theorem gM_p3 (x : Int32) : o_put (p_H K S I L T Λ) 96 9 3 (.int x) = some (p_H K (p_s S (96) 3 x) I L T Λ) := p_put pk_m (Nat.le_of_ble_eq_true rfl) (by simp [upd, p_mo])
theorem gM_4 : o_getR (p_H K S I L T Λ) 96 9 4 = some (some (100)) := p_getR pk_m rfl
theorem gM_5 : o_getR (p_H K S I L T Λ) 96 9 5 = some (some (101)) := p_getR pk_m rfl
theorem gM_6 : o_getR (p_H K S I L T Λ) 96 9 6 = some (some (102)) := p_getR pk_m rfl
theorem gM_7 : o_getI (p_H K S I L T Λ) 96 9 7 = some (S (96) 7) := p_getI pk_m rfl
theorem gM_p7 (x : Int32) : o_put (p_H K S I L T Λ) 96 9 7 (.int x) = some (p_H K (p_s S (96) 7 x) I L T Λ) := p_put pk_m (Nat.le_of_ble_eq_true rfl) (by simp [upd, p_mo])
theorem gM_8 : o_getI (p_H K S I L T Λ) 96 9 8 = some (S (96) 8) := p_getI pk_m rfl
theorem gM_p8 (x : Int32) : o_put (p_H K S I L T Λ) 96 9 8 (.int x) = some (p_H K (p_s S (96) 8 x) I L T Λ) := p_put pk_m (Nat.le_of_ble_eq_true rfl) (by simp [upd, p_mo])
theorem gM_9 : o_getI (p_H K S I L T Λ) 96 9 9 = some (S (96) 9) := p_getI pk_m rfl
theorem gM_p9 (x : Int32) : o_put (p_H K S I L T Λ) 96 9 9 (.int x) = some (p_H K (p_s S (96) 9 x) I L T Λ) := p_put pk_m (Nat.le_of_ble_eq_true rfl) (by simp [upd, p_mo])
theorem gM_10 : o_getR (p_H K S I L T Λ) 96 9 10 = some (some (103)) := p_getR pk_m rfl
theorem gM_11 : o_getR (p_H K S I L T Λ) 96 9 11 = some (some (104)) := p_getR pk_m rfl
theorem gM_12 : o_getR (p_H K S I L T Λ) 96 9 12 = some (some (105)) := p_getR pk_m rfl
theorem gM_13 : o_getI (p_H K S I L T Λ) 96 9 13 = some (S (96) 13) := p_getI pk_m rfl
theorem gM_p13 (x : Int32) : o_put (p_H K S I L T Λ) 96 9 13 (.int x) = some (p_H K (p_s S (96) 13 x) I L T Λ) := p_put pk_m (Nat.le_of_ble_eq_true rfl) (by simp [upd, p_mo])
theorem gM_14 : o_getI (p_H K S I L T Λ) 96 9 14 = some (S (96) 14) := p_getI pk_m rfl
theorem gM_p14 (x : Int32) : o_put (p_H K S I L T Λ) 96 9 14 (.int x) = some (p_H K (p_s S (96) 14 x) I L T Λ) := p_put pk_m (Nat.le_of_ble_eq_true rfl) (by simp [upd, p_mo])
theorem gM_15 : o_getI (p_H K S I L T Λ) 96 9 15 = some (S (96) 15) := p_getI pk_m rfl
theorem gM_p15 (x : Int32) : o_put (p_H K S I L T Λ) 96 9 15 (.int x) = some (p_H K (p_s S (96) 15 x) I L T Λ) := p_put pk_m (Nat.le_of_ble_eq_true rfl) (by simp [upd, p_mo])
theorem gM_16 : o_getI (p_H K S I L T Λ) 96 9 16 = some (S (96) 16) := p_getI pk_m rfl
theorem gM_p16 (x : Int32) : o_put (p_H K S I L T Λ) 96 9 16 (.int x) = some (p_H K (p_s S (96) 16 x) I L T Λ) := p_put pk_m (Nat.le_of_ble_eq_true rfl) (by simp [upd, p_mo])
theorem gM_17 : o_getI (p_H K S I L T Λ) 96 9 17 = some (S (96) 17) := p_getI pk_m rfl
theorem gM_p17 (x : Int32) : o_put (p_H K S I L T Λ) 96 9 17 (.int x) = some (p_H K (p_s S (96) 17 x) I L T Λ) := p_put pk_m (Nat.le_of_ble_eq_true rfl) (by simp [upd, p_mo])
theorem gM_18 : o_getI (p_H K S I L T Λ) 96 9 18 = some (S (96) 18) := p_getI pk_m rfl
theorem gM_p18 (x : Int32) : o_put (p_H K S I L T Λ) 96 9 18 (.int x) = some (p_H K (p_s S (96) 18 x) I L T Λ) := p_put pk_m (Nat.le_of_ble_eq_true rfl) (by simp [upd, p_mo])
theorem gM_19 : o_getI (p_H K S I L T Λ) 96 9 19 = some (S (96) 19) := p_getI pk_m rfl
theorem gM_p19 (x : Int32) : o_put (p_H K S I L T Λ) 96 9 19 (.int x) = some (p_H K (p_s S (96) 19 x) I L T Λ) := p_put pk_m (Nat.le_of_ble_eq_true rfl) (by simp [upd, p_mo])
theorem gM_20 : o_getR (p_H K S I L T Λ) 96 9 20 = some (some (106)) := p_getR pk_m rfl
theorem gM_21 : o_getR (p_H K S I L T Λ) 96 9 21 = some (some (107)) := p_getR pk_m rfl
theorem gM_22 : o_getR (p_H K S I L T Λ) 96 9 22 = some (some (108)) := p_getR pk_m rfl
theorem gM_23 : o_getI (p_H K S I L T Λ) 96 9 23 = some (S (96) 23) := p_getI pk_m rfl
theorem gM_p23 (x : Int32) : o_put (p_H K S I L T Λ) 96 9 23 (.int x) = some (p_H K (p_s S (96) 23 x) I L T Λ) := p_put pk_m (Nat.le_of_ble_eq_true rfl) (by simp [upd, p_mo])
theorem gM_24 : o_getI (p_H K S I L T Λ) 96 9 24 = some (S (96) 24) := p_getI pk_m rfl
theorem gM_p24 (x : Int32) : o_put (p_H K S I L T Λ) 96 9 24 (.int x) = some (p_H K (p_s S (96) 24 x) I L T Λ) := p_put pk_m (Nat.le_of_ble_eq_true rfl) (by simp [upd, p_mo])
theorem gM_25 : o_getR (p_H K S I L T Λ) 96 9 25 = some (some (109)) := p_getR pk_m rfl
theorem gM_26 : o_getI (p_H K S I L T Λ) 96 9 26 = some (S (96) 26) := p_getI pk_m rfl
theorem gM_p26 (x : Int32) : o_put (p_H K S I L T Λ) 96 9 26 (.int x) = some (p_H K (p_s S (96) 26 x) I L T Λ) := p_put pk_m (Nat.le_of_ble_eq_true rfl) (by simp [upd, p_mo])
theorem gM_27 : o_getR (p_H K S I L T Λ) 96 9 27 = some (some (110)) := p_getR pk_m rfl
theorem gM_28 : o_getR (p_H K S I L T Λ) 96 9 28 = some (some (111)) := p_getR pk_m rfl
theorem gM_29 : o_getR (p_H K S I L T Λ) 96 9 29 = some (some (112)) := p_getR pk_m rfl
theorem gM_30 : o_getR (p_H K S I L T Λ) 96 9 30 = some (some (113)) := p_getR pk_m rfl
theorem gM_31 : o_getR (p_H K S I L T Λ) 96 9 31 = some (some (114)) := p_getR pk_m rfl
theorem gM_32 : o_getR (p_H K S I L T Λ) 96 9 32 = some (some (115)) := p_getR pk_m rfl
theorem gM_33 : o_getR (p_H K S I L T Λ) 96 9 33 = some (some (116)) := p_getR pk_m rfl
theorem gM_34 : o_getR (p_H K S I L T Λ) 96 9 34 = some (some (117)) := p_getR pk_m rfl
theorem gM_35 : o_getR (p_H K S I L T Λ) 96 9 35 = some (some (118)) := p_getR pk_m rfl
theorem gM_36 : o_getR (p_H K S I L T Λ) 96 9 36 = some (some (119)) := p_getR pk_m rfl
theorem gM_37 : o_getR (p_H K S I L T Λ) 96 9 37 = some (some (120)) := p_getR pk_m rfl
theorem gM_38 : o_getR (p_H K S I L T Λ) 96 9 38 = some (some (121)) := p_getR pk_m rfl
theorem gM_39 : o_getI (p_H K S I L T Λ) 96 9 39 = some (S (96) 39) := p_getI pk_m rfl
theorem gM_p39 (x : Int32) : o_put (p_H K S I L T Λ) 96 9 39 (.int x) = some (p_H K (p_s S (96) 39 x) I L T Λ) := p_put pk_m (Nat.le_of_ble_eq_true rfl) (by simp [upd, p_mo])
theorem x_at {q : Nat} (hq : q < K) : (p_H K S I L T Λ)[122 + 2 * q]? = some (.inr (1, [.int (Λ q).1.1, .int (Λ q).1.2, .ref (123 + 2 * q)])) ∧ (p_H K S I L T Λ)[123 + 2 * q]? = some (.inl (0, (Λ q).2.1, .inl (Λ q).2.2)) := by
  constructor
  · rw [p_at (by omega), p_e, if_neg (by omega), p_x, show 122 + 2 * q - 122 = 2 * q by omega, if_pos (by omega), show 2 * q / 2 = q by omega, show 2 * q + 123 = 123 + 2 * q by omega]
  · rw [p_at (by omega), p_e, if_neg (by omega), p_x, show 123 + 2 * q - 122 = 2 * q + 1 by omega, if_neg (by omega), show (2 * q + 1) / 2 = q by omega]
theorem gX_o {q : Nat} (hq : q < K) : o_obj (p_H K S I L T Λ) (122 + 2 * q) 1 = some [.int (Λ q).1.1, .int (Λ q).1.2, .ref (123 + 2 * q)] := by simp [o_obj, (x_at hq).1]
theorem gX_0 {q : Nat} (hq : q < K) : o_getI (p_H K S I L T Λ) (122 + 2 * q) 1 0 = some (Λ q).1.1 := by simp [o_getI, o_get, gX_o hq, o_asI]
theorem gX_1 {q : Nat} (hq : q < K) : o_getI (p_H K S I L T Λ) (122 + 2 * q) 1 1 = some (Λ q).1.2 := by simp [o_getI, o_get, gX_o hq, o_asI]
theorem gX_2 {q : Nat} (hq : q < K) : o_getR (p_H K S I L T Λ) (122 + 2 * q) 1 2 = some (some (123 + 2 * q)) := by simp [o_getR, o_get, gX_o hq, o_asR]
theorem gX_r {q : Nat} (hq : q < K) : o_rowI (p_H K S I L T Λ) (123 + 2 * q) 0 = some ((Λ q).2.1, (Λ q).2.2) := by simp [o_rowI, o_arr, (x_at hq).2]
theorem gX_l {q : Nat} (hq : q < K) : o_len (p_H K S I L T Λ) (123 + 2 * q) 0 = some (nI (Λ q).2.1) := by simp [o_len, o_arr, (x_at hq).2, nI]
theorem gX_i {q k : Nat} (hq : q < K) (hk : k < (Λ q).2.1) (hn : (Λ q).2.1 < 2 ^ 31) : o_ldI (p_H K S I L T Λ) (123 + 2 * q) 0 (nI k) = some ((Λ q).2.2 k) := by
  simp only [o_ldI, gX_r hq, Option.bind_some]
  rw [if_neg (nI_bad hk hn), nI_clamp (Nat.lt_trans hk hn)]
end ACC
