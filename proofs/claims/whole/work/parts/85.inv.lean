-- a world of the class and what the reference keeps of it
def p_wr (w a : Nat) (S I : Nat → Nat → Int32) (T : Nat → Nat → Option Nat) (K : Nat) (Λ : Nat → p_Lw) (lw : Nat → Nat) (cn tn : Nat) : Prop :=
  (cn ≤ 6 ∧ S w 0 = nI cn ∧ I a 1 = nI cn ∧ S w 2 = I a 0) ∧
  (∀ c, c < 6 → S (w + 4 + 2 * c) 0 = I a (3 + 16 * c) ∧ (∃ k, k ≤ 5 ∧ I a (3 + 16 * c) = nI k) ∧ ∀ x, x < 15 → I (w + 4 + 2 * c + 1) x = I a (4 + 16 * c + x) ∧ p_bd (I a (4 + 16 * c + x))) ∧
  (tn ≤ 14 ∧ S w 1 = nI tn ∧ I a 2 = nI tn ∧ p_laws T K w tn lw ∧ p_lwf Λ lw tn ∧ p_rt (I a) Λ lw tn)
def p_row9 (S I : Nat → Nat → Int32) : Prop := ∀ s, s < 4 → S (63 + 2 * s) 0 = I 113 s ∧ (I 113 s = -1 ∨ I 113 s = nI 0 ∨ I 113 s = nI 1) ∧ (∃ z, z ≤ 24 ∧ S (63 + 2 * s) 1 = nI z ∧ I 114 s = nI z) ∧ ∀ x, x < 24 → I (63 + 2 * s + 1) x = I 115 (24 * s + x)
def p_slot9 (S I : Nat → Nat → Int32) : Prop := ∀ s, s < 5 → ∃ v, v ≤ 3 ∧ S (71 + 5 * s) 0 = nI v ∧ I 116 s = nI v ∧
  (v = 1 → S (72 + 5 * s) 0 = I 117 s ∧ p_worth (S (72 + 5 * s) 0) (I (72 + 5 * s + 1)) = I 118 s) ∧
  (v = 2 → (∃ z, z ≤ 24 ∧ S (74 + 5 * s) 1 = nI z ∧ I 117 s = nI z) ∧ ∀ x, x < 24 → I (74 + 5 * s + 1) x = I 119 (24 * s + x)) ∧
  (v = 3 → S (71 + 5 * s) 1 = I 117 s)
def p_key9 (I : Nat → Nat → Int32) : Prop := (I 106 0 = nI 116 ∧ I 106 1 = nI 101 ∧ I 106 2 = nI 114 ∧ I 106 3 = nI 109 ∧ I 106 4 = nI 115 ∧ I 106 5 = nI 108 ∧ I 106 6 = nI 111 ∧ I 106 7 = nI 112 ∧ I 106 8 = nI 101 ∧ I 106 9 = nI 109 ∧ I 106 10 = nI 97 ∧ I 106 11 = nI 114 ∧ I 106 12 = nI 107) ∧ I 107 0 = nI 0 ∧ I 107 1 = nI 4 ∧ I 107 2 = nI 9 ∧ I 107 3 = nI 13
def p_tok (T : Nat → Nat → Option Nat) (K : Nat) : Prop := ∀ w, p_isW w → ∀ t, t < 14 → T (w + 2) t = none ∨ ∃ q, q < K ∧ T (w + 2) t = some (122 + 2 * q)
def p_inv (K : Nat) (S I : Nat → Nat → Int32) (T : Nat → Nat → Option Nat) (Λ : Nat → p_Lw) : Prop :=
  (∃ lw cn tn, p_wr 1 97 S I T K Λ lw cn tn) ∧
  (∃ b : Bool, S 0 9 = e_b b ∧ S 96 3 = e_b b ∧ (b = true → ∃ lw cn tn, p_wr 17 98 S I T K Λ lw cn tn)) ∧
  (∃ l, l ≤ 96 ∧ S 57 0 = nI l ∧ S 96 13 = nI l ∧ ∀ x, x < l → I 58 x = I 105 x ∧ ∃ y, y < 256 ∧ I 105 x = nI y) ∧
  (∃ m, m ≤ 60 ∧ S 0 8 = nI m ∧ S 96 39 = nI m ∧ ∀ x, x < m → I 62 x = I 121 x) ∧
  p_row9 S I ∧ p_slot9 S I ∧ p_key9 I ∧ p_tok T K
-- what a call may write on without a trace
def p_scI : List Nat := [4, 20, 34, 35, 36, 46, 47, 48, 59, 99, 100, 103, 104, 108, 109, 110, 111, 112, 120]
def p_kpS (S S' : Nat → Nat → Int32) : Prop := (∀ a, a ≠ 33 → a ≠ 45 → a ≠ 57 → a ≠ 96 → S' a = S a) ∧ S' 57 0 = S 57 0 ∧ S' 96 3 = S 96 3 ∧ S' 96 13 = S 96 13 ∧ S' 96 39 = S 96 39
theorem p_kpS.rf (S : Nat → Nat → Int32) : p_kpS S S := ⟨fun _ _ _ _ _ => rfl, rfl, rfl, rfl, rfl⟩
theorem p_kpS.tr {S S' S'' : Nat → Nat → Int32} (h : p_kpS S S') (h' : p_kpS S' S'') : p_kpS S S'' := ⟨fun a h1 h2 h3 h4 => (h'.1 a h1 h2 h3 h4).trans (h.1 a h1 h2 h3 h4), h'.2.1.trans h.2.1, h'.2.2.1.trans h.2.2.1, h'.2.2.2.1.trans h.2.2.2.1, h'.2.2.2.2.trans h.2.2.2.2⟩
theorem p_kpS.v {S S' : Nat → Nat → Int32} {v w : Nat} (hv : p_isV v w) (h : p_fr [v] S S') : p_kpS S S' := by
  rcases hv with ⟨rfl, rfl⟩ | ⟨rfl, rfl⟩
  · exact ⟨fun a h1 h2 h3 h4 => h a (by simpa using h1), by rw [h 57 (by decide)], by rw [h 96 (by decide)], by rw [h 96 (by decide)], by rw [h 96 (by decide)]⟩
  · exact ⟨fun a h1 h2 h3 h4 => h a (by simpa using h2), by rw [h 57 (by decide)], by rw [h 96 (by decide)], by rw [h 96 (by decide)], by rw [h 96 (by decide)]⟩
theorem p_kpS.f3 {S S' : Nat → Nat → Int32} (h : p_f3 S S') : p_kpS S S' := ⟨fun a h1 h2 h3 h4 => h.1 a h4, by rw [h.1 57 (by decide)], h.2 3 (by decide) (by decide) (by decide), h.2 13 (by decide) (by decide) (by decide), h.2 39 (by decide) (by decide) (by decide)⟩
theorem p_sc_n {a : Nat} (h : a < 4 ∨ (4 < a ∧ a < 20) ∨ (20 < a ∧ a < 34) ∨ a = 58 ∨ (59 < a ∧ a < 99) ∨ a = 105 ∨ a = 106 ∨ a = 107 ∨ (112 < a ∧ a < 120) ∨ a = 121) : a ∉ p_scI := by
  simp only [p_scI, List.mem_cons, List.not_mem_nil, or_false, not_or]
  omega
theorem p_wr.kp {w a : Nat} {S S' I I' : Nat → Nat → Int32} {T : Nat → Nat → Option Nat} {K : Nat} {Λ : Nat → p_Lw} {lw : Nat → Nat} {cn tn : Nat} (hw : (w = 1 ∧ a = 97) ∨ (w = 17 ∧ a = 98)) (h : p_wr w a S I T K Λ lw cn tn) (hS : p_kpS S S') (hI : p_fr p_scI I I') : p_wr w a S' I' T K Λ lw cn tn := by
  have e1 : S' w = S w := hS.1 w (by omega) (by omega) (by omega) (by omega)
  have e2 : I' a = I a := hI a (p_sc_n (by omega))
  unfold p_wr at h ⊢
  rw [e1, e2]
  refine ⟨h.1, fun c hc => ?_, h.2.2⟩
  rw [hS.1 (w + 4 + 2 * c) (by omega) (by omega) (by omega) (by omega), hI (w + 4 + 2 * c + 1) (p_sc_n (by omega))]
  exact h.2.1 c hc
theorem p_inv.kp {S S' I I' : Nat → Nat → Int32} {T : Nat → Nat → Option Nat} {K : Nat} {Λ : Nat → p_Lw} (h : p_inv K S I T Λ) (hS : p_kpS S S') (hI : p_fr p_scI I I') : p_inv K S' I' T Λ := by
  obtain ⟨⟨lw, cn, tn, h1⟩, ⟨b, h2, h3, h4⟩, ⟨l, h5, h6, h7, h8⟩, ⟨m, h9, h10, h11, h12⟩, h13, h14, h15⟩ := h
  refine ⟨⟨lw, cn, tn, h1.kp (Or.inl ⟨rfl, rfl⟩) hS hI⟩, ⟨b, ?_, ?_, fun hb => ?_⟩, ⟨l, h5, ?_, ?_, ?_⟩, ⟨m, h9, ?_, ?_, ?_⟩, fun s hs => ?_, fun s hs => ?_, ?_⟩
  · rw [hS.1 0 (by decide) (by decide) (by decide) (by decide)]; exact h2
  · rw [hS.2.2.1]; exact h3
  · obtain ⟨lw, cn, tn, h⟩ := h4 hb
    exact ⟨lw, cn, tn, h.kp (Or.inr ⟨rfl, rfl⟩) hS hI⟩
  · rw [hS.2.1]; exact h6
  · rw [hS.2.2.2.1]; exact h7
  · rw [hI 58 (by decide), hI 105 (by decide)]; exact h8
  · rw [hS.1 0 (by decide) (by decide) (by decide) (by decide)]; exact h10
  · rw [hS.2.2.2.2]; exact h11
  · rw [hI 62 (by decide), hI 121 (by decide)]; exact h12
  · rw [hS.1 (63 + 2 * s) (by omega) (by omega) (by omega) (by omega), hI 113 (by decide), hI 114 (by decide), hI 115 (by decide), hI (63 + 2 * s + 1) (p_sc_n (by omega))]
    exact h13 s hs
  · rw [hS.1 (71 + 5 * s) (by omega) (by omega) (by omega) (by omega), hS.1 (72 + 5 * s) (by omega) (by omega) (by omega) (by omega), hS.1 (74 + 5 * s) (by omega) (by omega) (by omega) (by omega), hI 116 (by decide), hI 117 (by decide), hI 118 (by decide), hI 119 (by decide), hI (72 + 5 * s + 1) (p_sc_n (by omega)), hI (74 + 5 * s + 1) (p_sc_n (by omega))]
    exact h14 s hs
  · unfold p_key9 at h15 ⊢
    rw [hI 106 (by decide), hI 107 (by decide)]
    exact h15
