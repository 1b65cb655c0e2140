set_option maxRecDepth 100000 in
set_option maxHeartbeats 4000000 in
theorem mX6_stand_b23 {p : Program} {l : Launch} {e : Env} {s : State} {m : MethodId} {args : Array Value} {below : List Frame} {meth : Method} {c : Code} {G : e_G} {res : (Option Nat × e_H)} {k14 : Nat → Int32 → Int32 → Nat → Int32 → e_H → Option (Option Nat × e_H)} {k23 : Nat → Int32 → Int32 → Nat → Int32 → Int32 → e_H → Option (Option Nat × e_H)} (E : e_M G p s args m meth c cX6_stand 6 (some (FieldType.object "BentBranches$Shape")) RX6) (K14 : ∀ (l0 : Nat) (l1 : Int32) (l2 : Int32) (l3 : Nat) (l4 : Int32) (h : e_H), k14 l0 l1 l2 l3 l4 h = some res → ∀ (H : Heap) (locs : List Loc), e_J G s h H locs → ∀ (ls : Array Slot), lv_has ls 6 [(0, .ref (e_ad G l0)), (1, .int l1), (2, .int l2), (3, .ref (e_ad G l3)), (4, .int l4)] → W p l e (e_rm 2 50) s m args below meth c H locs 0 0 (MQ below (e_Q G res.2 (some (e_r G res.1))) args s 0 0 (e_A G)) (F0 m 14 ls [])) (K23 : ∀ (l0 : Nat) (l1 : Int32) (l2 : Int32) (l3 : Nat) (l4 : Int32) (l5 : Int32) (h : e_H), k23 l0 l1 l2 l3 l4 l5 h = some res → ∀ (H : Heap) (locs : List Loc), e_J G s h H locs → ∀ (ls : Array Slot), lv_has ls 6 [(0, .ref (e_ad G l0)), (1, .int l1), (2, .int l2), (3, .ref (e_ad G l3)), (4, .int l4), (5, .int l5)] → W p l e (e_rm 2 50) s m args below meth c H locs 0 0 (MQ below (e_Q G res.2 (some (e_r G res.1))) args s 0 0 (e_A G)) (F0 m 23 ls [])) (l0 : Nat) (l1 : Int32) (l2 : Int32) (l3 : Nat) (l4 : Int32) (l5 : Int32) (h : e_H) (hM : fX6_stand_b23 k14 k23 l0 l1 l2 l3 l4 l5 h = some res) {H : Heap} {locs : List Loc} (J : e_J G s h H locs) {ls : Array Slot} (hl : lv_has ls 6 [(0, .ref (e_ad G l0)), (1, .int l1), (2, .int l2), (3, .ref (e_ad G l3)), (4, .int l4), (5, .int l5)]) : W p l e (e_rm 2 50) s m args below meth c H locs 0 0 (MQ below (e_Q G res.2 (some (e_r G res.1))) args s 0 0 (e_A G)) (F0 m 23 ls []) := by
  obtain ⟨hx, hb, hr, hml, hown, hts, hlocks, hES, hbs⟩ := id E
  unfold fX6_stand_b23 at hM
  refine lv_iload hx hb dX6_stand_23 (lv_at hl 5 rfl) ?_
  refine lv_iconst (v := nI 4) hx hb dX6_stand_25 (by decide) ?_
  refine lv_iload hx hb dX6_stand_26 (lv_at hl 4 rfl) ?_
  refine lv_isub hx hb dX6_stand_28 ?_
  refine lv_icmp_gt (tgt := 55) hx hb dX6_stand_29 (by decide) (fun hc => ?_) (fun hc => ?_)
  · have hM := e_ip hc hM
    refine lv_iinc (v := (l4 + (nI 1))) (lv' := [(4, .int (l4 + (nI 1))), (0, .ref (e_ad G l0)), (1, .int l1), (2, .int l2), (3, .ref (e_ad G l3)), (5, .int l5)]) hx hb dX6_stand_55 hl (k := 4) rfl rfl (by decide) rfl (fun ls hl => ?_)
    refine lv_goto (tgt := 14) hx hb dX6_stand_58 (by decide) ?_
    exact K14 l0 l1 l2 l3 (l4 + (nI 1)) h hM _ _ J _ (lv_sub hl [1, 2, 3, 4, 0] rfl)
  · have hM := e_in hc hM
    refine lv_aload_n hx hb dX6_stand_32 rfl (lv_at hl 3 rfl) ?_
    refine lv_iload hx hb dX6_stand_33 (lv_at hl 4 rfl) ?_
    refine lv_iload hx hb dX6_stand_35 (lv_at hl 5 rfl) ?_
    refine lv_aload_n hx hb dX6_stand_37 rfl (lv_at hl 0 rfl) ?_
    refine lv_iload hx hb dX6_stand_38 (lv_at hl 4 rfl) ?_
    refine lv_iload hx hb dX6_stand_40 (lv_at hl 5 rfl) ?_
    obtain ⟨v1, hv, hM⟩ := e_bs hM
    obtain ⟨fs_, hk, -⟩ := e_bs hv
    refine e_callV (ci := 6) (As := [.int l4, .int l5]) (rest := [.int l5, .int l4, .ref (e_ad G l3)]) (n := 2) E J hk rfl (mX6_termOf (l := l) (G := G) l0 l4 l5 h _ hv) q_2_108 q_2_110 q_p_1 q_1_4 q_2_111 (by decide +kernel) rfl ⟨Nat.le_of_ble_eq_true rfl, Nat.le_of_ble_eq_true rfl⟩ (st0 := [.int l5, .int l4, .ref (e_ad G l0), .int l5, .int l4, .ref (e_ad G l3)]) (st1 := [.int v1, .int l5, .int l4, .ref (e_ad G l3)]) rfl rfl hl.1 (Nat.le_of_ble_eq_true rfl) dX6_stand_42 ⟨Nat.le_refl _, Nat.le_refl _⟩ (fun H locs J => ?_)
    refine lv_i2l hx hb dX6_stand_45 rfl ?_
    obtain ⟨h2, hv, hM⟩ := e_bs hM
    obtain ⟨fs_, hk, -⟩ := e_bs hv
    refine e_callV (ci := 3) (As := [.int l4, .int l5, .long (v1).toInt64]) (rest := []) (n := 3) E J hk rfl (mX3_add (l := l) (G := G) l3 l4 l5 (v1).toInt64 h _ hv) q_2_176 q_2_177 q_2_178 q_1_5 q_2_179 (by decide +kernel) rfl ⟨Nat.le_of_ble_eq_true rfl, Nat.le_of_ble_eq_true rfl⟩ (st0 := [.long (v1).toInt64, .int l5, .int l4, .ref (e_ad G l3)]) (st1 := []) rfl rfl hl.1 (Nat.le_of_ble_eq_true rfl) dX6_stand_46 ⟨Nat.le_refl _, Nat.le_refl _⟩ (fun H locs J => ?_)
    refine lv_iinc (v := (l5 + (nI 1))) (lv' := [(5, .int (l5 + (nI 1))), (0, .ref (e_ad G l0)), (1, .int l1), (2, .int l2), (3, .ref (e_ad G l3)), (4, .int l4)]) hx hb dX6_stand_49 hl (k := 5) rfl rfl (by decide) rfl (fun ls hl => ?_)
    refine lv_goto (tgt := 23) hx hb dX6_stand_52 (by decide) ?_
    exact K23 l0 l1 l2 l3 l4 (l5 + (nI 1)) h2 hM _ _ J _ (lv_sub hl [1, 2, 3, 4, 5, 0] rfl)
set_option maxRecDepth 100000 in
set_option maxHeartbeats 4000000 in
theorem mX6_stand_L23 {p : Program} {l : Launch} {e : Env} {s : State} {m : MethodId} {args : Array Value} {below : List Frame} {meth : Method} {c : Code} {G : e_G} {res : (Option Nat × e_H)} {k14 : Nat → Int32 → Int32 → Nat → Int32 → e_H → Option (Option Nat × e_H)} (E : e_M G p s args m meth c cX6_stand 6 (some (FieldType.object "BentBranches$Shape")) RX6) (K14 : ∀ (l0 : Nat) (l1 : Int32) (l2 : Int32) (l3 : Nat) (l4 : Int32) (h : e_H), k14 l0 l1 l2 l3 l4 h = some res → ∀ (H : Heap) (locs : List Loc), e_J G s h H locs → ∀ (ls : Array Slot), lv_has ls 6 [(0, .ref (e_ad G l0)), (1, .int l1), (2, .int l2), (3, .ref (e_ad G l3)), (4, .int l4)] → W p l e (e_rm 2 50) s m args below meth c H locs 0 0 (MQ below (e_Q G res.2 (some (e_r G res.1))) args s 0 0 (e_A G)) (F0 m 14 ls [])) (n : Nat) (l0 : Nat) (l1 : Int32) (l2 : Int32) (l3 : Nat) (l4 : Int32) (l5 : Int32) (h : e_H) (hM : fX6_stand_L23 k14 n l0 l1 l2 l3 l4 l5 h = some res) {H : Heap} {locs : List Loc} (J : e_J G s h H locs) {ls : Array Slot} (hl : lv_has ls 6 [(0, .ref (e_ad G l0)), (1, .int l1), (2, .int l2), (3, .ref (e_ad G l3)), (4, .int l4), (5, .int l5)]) : W p l e (e_rm 2 50) s m args below meth c H locs 0 0 (MQ below (e_Q G res.2 (some (e_r G res.1))) args s 0 0 (e_A G)) (F0 m 23 ls []) := by
  induction n generalizing l0 l1 l2 l3 l4 l5 h H locs ls with
  | zero => exact e_no hM
  | succ n ih => exact mX6_stand_b23 (k23 := (fX6_stand_L23 k14 n)) E  K14 (fun l0 l1 l2 l3 l4 l5 h hM H locs J ls hl => ih l0 l1 l2 l3 l4 l5 h hM J hl) l0 l1 l2 l3 l4 l5 h hM J hl
set_option maxRecDepth 100000 in
set_option maxHeartbeats 4000000 in
theorem mX6_stand_b14 {p : Program} {l : Launch} {e : Env} {s : State} {m : MethodId} {args : Array Value} {below : List Frame} {meth : Method} {c : Code} {G : e_G} {res : (Option Nat × e_H)} {k14 : Nat → Int32 → Int32 → Nat → Int32 → e_H → Option (Option Nat × e_H)} (E : e_M G p s args m meth c cX6_stand 6 (some (FieldType.object "BentBranches$Shape")) RX6) (K14 : ∀ (l0 : Nat) (l1 : Int32) (l2 : Int32) (l3 : Nat) (l4 : Int32) (h : e_H), k14 l0 l1 l2 l3 l4 h = some res → ∀ (H : Heap) (locs : List Loc), e_J G s h H locs → ∀ (ls : Array Slot), lv_has ls 6 [(0, .ref (e_ad G l0)), (1, .int l1), (2, .int l2), (3, .ref (e_ad G l3)), (4, .int l4)] → W p l e (e_rm 2 50) s m args below meth c H locs 0 0 (MQ below (e_Q G res.2 (some (e_r G res.1))) args s 0 0 (e_A G)) (F0 m 14 ls [])) (l0 : Nat) (l1 : Int32) (l2 : Int32) (l3 : Nat) (l4 : Int32) (h : e_H) (hM : fX6_stand_b14 k14 l0 l1 l2 l3 l4 h = some res) {H : Heap} {locs : List Loc} (J : e_J G s h H locs) {ls : Array Slot} (hl : lv_has ls 6 [(0, .ref (e_ad G l0)), (1, .int l1), (2, .int l2), (3, .ref (e_ad G l3)), (4, .int l4)]) : W p l e (e_rm 2 50) s m args below meth c H locs 0 0 (MQ below (e_Q G res.2 (some (e_r G res.1))) args s 0 0 (e_A G)) (F0 m 14 ls []) := by
  obtain ⟨hx, hb, hr, hml, hown, hts, hlocks, hES, hbs⟩ := id E
  unfold fX6_stand_b14 at hM
  refine lv_iload hx hb dX6_stand_14 (lv_at hl 4 rfl) ?_
  refine lv_iconst (v := nI 4) hx hb dX6_stand_16 (by decide) ?_
  refine lv_icmp_gt (tgt := 61) hx hb dX6_stand_17 (by decide) (fun hc => ?_) (fun hc => ?_)
  · have hM := e_ip hc hM
    refine lv_aload_n hx hb dX6_stand_61 rfl (lv_at hl 3 rfl) ?_
    refine lv_iload_n hx hb dX6_stand_62 rfl (lv_at hl 1 rfl) ?_
    obtain ⟨h1, hv, hM⟩ := e_bs hM
    obtain ⟨fs_, hk, -⟩ := e_bs hv
    refine e_callV (ci := 3) (As := [.int l1]) (rest := []) (n := 1) E J hk rfl (mX3_moveX (l := l) (G := G) l3 l1 h _ hv) q_2_180 q_2_181 q_2_182 q_1_5 q_2_183 (by decide +kernel) rfl ⟨Nat.le_of_ble_eq_true rfl, Nat.le_of_ble_eq_true rfl⟩ (st0 := [.int l1, .ref (e_ad G l3)]) (st1 := []) rfl rfl hl.1 (Nat.le_of_ble_eq_true rfl) dX6_stand_63 ⟨Nat.le_refl _, Nat.le_refl _⟩ (fun H locs J => ?_)
    refine lv_aload_n hx hb dX6_stand_66 rfl (lv_at hl 3 rfl) ?_
    refine lv_iload_n hx hb dX6_stand_67 rfl (lv_at hl 2 rfl) ?_
    refine lv_iconst (v := nI 4) hx hb dX6_stand_68 (by decide) ?_
    obtain ⟨h2, hv, hM⟩ := e_bs hM
    obtain ⟨fs_, hk, -⟩ := e_bs hv
    refine e_callV (ci := 3) (As := [.int l2, .int (nI 4)]) (rest := []) (n := 2) E J hk rfl (mX3_moveY (l := l) (G := G) l3 l2 (nI 4) h1 _ hv) q_2_189 q_2_190 q_2_191 q_1_5 q_2_192 (by decide +kernel) rfl ⟨Nat.le_of_ble_eq_true rfl, Nat.le_of_ble_eq_true rfl⟩ (st0 := [.int (nI 4), .int l2, .ref (e_ad G l3)]) (st1 := []) rfl rfl hl.1 (Nat.le_of_ble_eq_true rfl) dX6_stand_69 ⟨Nat.le_refl _, Nat.le_refl _⟩ (fun H locs J => ?_)
    refine lv_aload_n hx hb dX6_stand_72 rfl (lv_at hl 3 rfl) ?_
    obtain rfl := e_so hM
    exact e_aretQ E J (Or.inl ⟨_, rfl⟩) dX6_stand_73
  · have hM := e_in hc hM
    refine lv_iconst (v := nI 0) hx hb dX6_stand_20 (by decide) ?_
    refine lv_istore (lv' := [(5, .int (nI 0)), (0, .ref (e_ad G l0)), (1, .int l1), (2, .int l2), (3, .ref (e_ad G l3)), (4, .int l4)]) hx hb dX6_stand_21 hl (by decide) rfl (fun ls hl => ?_)
    exact mX6_stand_L23 E K14 200 l0 l1 l2 l3 l4 (nI 0) h hM J (lv_sub hl [1, 2, 3, 4, 5, 0] rfl)
set_option maxRecDepth 100000 in
set_option maxHeartbeats 4000000 in
theorem mX6_stand_L14 {p : Program} {l : Launch} {e : Env} {s : State} {m : MethodId} {args : Array Value} {below : List Frame} {meth : Method} {c : Code} {G : e_G} {res : (Option Nat × e_H)} (E : e_M G p s args m meth c cX6_stand 6 (some (FieldType.object "BentBranches$Shape")) RX6) (n : Nat) (l0 : Nat) (l1 : Int32) (l2 : Int32) (l3 : Nat) (l4 : Int32) (h : e_H) (hM : fX6_stand_L14 n l0 l1 l2 l3 l4 h = some res) {H : Heap} {locs : List Loc} (J : e_J G s h H locs) {ls : Array Slot} (hl : lv_has ls 6 [(0, .ref (e_ad G l0)), (1, .int l1), (2, .int l2), (3, .ref (e_ad G l3)), (4, .int l4)]) : W p l e (e_rm 2 50) s m args below meth c H locs 0 0 (MQ below (e_Q G res.2 (some (e_r G res.1))) args s 0 0 (e_A G)) (F0 m 14 ls []) := by
  induction n generalizing l0 l1 l2 l3 l4 h H locs ls with
  | zero => exact e_no hM
  | succ n ih => exact mX6_stand_b14 (k14 := (fX6_stand_L14 n)) E   (fun l0 l1 l2 l3 l4 h hM H locs J ls hl => ih l0 l1 l2 l3 l4 h hM J hl) l0 l1 l2 l3 l4 h hM J hl
set_option maxRecDepth 100000 in
set_option maxHeartbeats 4000000 in
theorem mX6_stand {l : Launch} {G : e_G} (l0 : Nat) (l1 : Int32) (l2 : Int32) (h : e_H) (res : (Option Nat × e_H)) (hM : fX6_stand l0 l1 l2 h = some res) : Met l yX6_stand (e_W yX6_stand cX6_stand 6 (some (FieldType.object "BentBranches$Shape"))) (e_rm 2 50) (e_Pc G h [.ref (e_ad G l0), .int l1, .int l2]) (e_Q G res.2 (some (e_r G res.1))) 0 0 (e_A G) := by
  refine Met.ofW (cc := cX6_stand) (maxL := 6) (ret := (some (FieldType.object "BentBranches$Shape"))) (by decide) rfl ?_
  intro p e s m args below meth c s₁ B hml hv
  obtain ⟨rfl, hS, hP⟩ := hv
  have E := e_enter (own := RX6) (ret := (some (FieldType.object "BentBranches$Shape"))) B hml rfl hS hP
  have J : e_J G s h s.heap [] := ⟨hP, va_S.rf⟩
  have hl := lv_entry ([.ref (e_ad G l0), .int l1, .int l2]) (n := 6) (Nat.le_of_ble_eq_true rfl)
  rw [lg_entry_eq]
  generalize (lg_sl ([.ref (e_ad G l0), .int l1, .int l2]) ++ List.replicate (6 - (lg_sl ([.ref (e_ad G l0), .int l1, .int l2])).length) Slot.unset).toArray = ls at hl ⊢
  have hl : lv_has ls 6 [(0, .ref (e_ad G l0)), (1, .int l1), (2, .int l2)] := hl
  obtain ⟨hx, hb, hr, hml, hown, hts, hlocks, hES, hbs⟩ := id E
  unfold fX6_stand at hM
  obtain ⟨fs_, hk_, hM⟩ := e_bs hM
  refine lv_aload_n hx hb dX6_stand_0 rfl (lv_at hl 0 rfl) ?_
  obtain ⟨v1, hv, hM⟩ := e_bs hM
  refine e_getR (C := RX6) (T := TX6) (N := 9) E J hv rfl inX6 (by decide) q_1_101 dX6_stand_1 ?_
  rcases v1 with _ | a2
  · have hM := e_on0 hM
    refine W.eq (g2 := F0 m 4 ls [.null]) rfl ?_
    refine lv_iconst (v := nI 0) hx hb dX6_stand_4 (by decide) ?_
    exact e_no hM
  · have hM := e_on1 hM
    refine W.eq (g2 := F0 m 4 ls [.ref (e_ad G a2)]) rfl ?_
    refine lv_iconst (v := nI 0) hx hb dX6_stand_4 (by decide) ?_
    obtain ⟨v4, hv, hM⟩ := e_bs hM
    refine e_aald E J hv rfl dX6_stand_5 ?_
    rcases v4 with _ | a5
    · have hM := e_on0 hM
      refine W.eq (g2 := F0 m 6 ls [.null]) rfl ?_
      refine lv_astore_nN (lv' := [(3, .null), (0, .ref (e_ad G l0)), (1, .int l1), (2, .int l2)]) hx hb dX6_stand_6 rfl hl (by decide) rfl (fun ls hl => ?_)
      refine lv_aload_nN hx hb dX6_stand_7 rfl (lv_at hl 0 rfl) ?_
      exact e_no hM
    · have hM := e_on1 hM
      refine W.eq (g2 := F0 m 6 ls [.ref (e_ad G a5)]) rfl ?_
      refine lv_astore_n (lv' := [(3, .ref (e_ad G a5)), (0, .ref (e_ad G l0)), (1, .int l1), (2, .int l2)]) hx hb dX6_stand_6 rfl hl (by decide) rfl (fun ls hl => ?_)
      refine lv_aload_n hx hb dX6_stand_7 rfl (lv_at hl 0 rfl) ?_
      obtain ⟨h6, hv, hM⟩ := e_bs hM
      obtain ⟨fs_, hk, -⟩ := e_bs hv
      refine e_callV (ci := 3) (As := []) (rest := []) (n := 0) E J hk rfl (mX3_clear (l := l) (G := G) a5 h _ hv) q_2_169 q_2_170 q_2_171 q_1_5 q_2_172 (by decide +kernel) rfl ⟨Nat.le_of_ble_eq_true rfl, Nat.le_of_ble_eq_true rfl⟩ (st0 := [.ref (e_ad G a5)]) (st1 := []) rfl rfl hl.1 (Nat.le_of_ble_eq_true rfl) dX6_stand_8 ⟨Nat.le_refl _, Nat.le_refl _⟩ (fun H locs J => ?_)
      refine lv_iconst (v := nI 0) hx hb dX6_stand_11 (by decide) ?_
      refine lv_istore (lv' := [(4, .int (nI 0)), (3, .ref (e_ad G a5)), (0, .ref (e_ad G l0)), (1, .int l1), (2, .int l2)]) hx hb dX6_stand_12 hl (by decide) rfl (fun ls hl => ?_)
      exact mX6_stand_L14 E 200 l0 l1 l2 a5 (nI 0) h6 hM J (lv_sub hl [2, 3, 4, 1, 0] rfl)
set_option maxRecDepth 100000 in
set_option maxHeartbeats 4000000 in
theorem mX8_shapeAt {l : Launch} {G : e_G} (l0 : Nat) (l1 : Int32) (l2 : Int32) (h : e_H) (res : (Option Nat × e_H)) (hM : fX8_shapeAt l0 l1 l2 h = some res) : Met l yX8_shapeAt (e_W yX8_shapeAt cX8_shapeAt 4 (some (FieldType.object "BentBranches$Shape"))) (e_rm 5 124) (e_Pc G h [.ref (e_ad G l0), .int l1, .int l2]) (e_Q G res.2 (some (e_r G res.1))) 0 0 (e_A G) := by
  refine Met.ofW (cc := cX8_shapeAt) (maxL := 4) (ret := (some (FieldType.object "BentBranches$Shape"))) (by decide) rfl ?_
  intro p e s m args below meth c s₁ B hml hv
  obtain ⟨rfl, hS, hP⟩ := hv
  have E := e_enter (own := RX8) (ret := (some (FieldType.object "BentBranches$Shape"))) B hml rfl hS hP
  have J : e_J G s h s.heap [] := ⟨hP, va_S.rf⟩
  have hl := lv_entry ([.ref (e_ad G l0), .int l1, .int l2]) (n := 4) (Nat.le_of_ble_eq_true rfl)
  rw [lg_entry_eq]
  generalize (lg_sl ([.ref (e_ad G l0), .int l1, .int l2]) ++ List.replicate (4 - (lg_sl ([.ref (e_ad G l0), .int l1, .int l2])).length) Slot.unset).toArray = ls at hl ⊢
  have hl : lv_has ls 4 [(0, .ref (e_ad G l0)), (1, .int l1), (2, .int l2)] := hl
  obtain ⟨hx, hb, hr, hml, hown, hts, hlocks, hES, hbs⟩ := id E
  unfold fX8_shapeAt at hM
  obtain ⟨fs_, hk_, hM⟩ := e_bs hM
  refine lv_aload_n hx hb dX8_shapeAt_0 rfl (lv_at hl 0 rfl) ?_
  obtain ⟨v1, hv, hM⟩ := e_bs hM
  refine e_getR (C := RX8) (T := TX8) (N := 10) E J hv rfl inX8 (by decide) q_1_199 dX8_shapeAt_1 ?_
  rcases v1 with _ | a2
  · have hM := e_on0 hM
    refine W.eq (g2 := F0 m 4 ls [.null]) rfl ?_
    refine lv_iload_n hx hb dX8_shapeAt_4 rfl (lv_at hl 1 rfl) ?_
    exact e_no hM
  · have hM := e_on1 hM
    refine W.eq (g2 := F0 m 4 ls [.ref (e_ad G a2)]) rfl ?_
    refine lv_iload_n hx hb dX8_shapeAt_4 rfl (lv_at hl 1 rfl) ?_
    obtain ⟨v3, hv, hM⟩ := e_bs hM
    obtain ⟨fs_, hk, -⟩ := e_bs hv
    refine e_callV (ci := 7) (As := [.int l1]) (rest := []) (n := 1) E J hk rfl (mX7_curveOf (l := l) (G := G) a2 l1 h _ hv) q_2_14 q_2_15 q_2_16 q_1_2 q_2_17 (by decide +kernel) rfl ⟨Nat.le_of_ble_eq_true rfl, Nat.le_of_ble_eq_true rfl⟩ (st0 := [.int l1, .ref (e_ad G a2)]) (st1 := [e_r G v3]) rfl rfl hl.1 (Nat.le_of_ble_eq_true rfl) dX8_shapeAt_5 ⟨Nat.le_refl _, Nat.le_refl _⟩ (fun H locs J => ?_)
    rcases v3 with _ | a4
    · have hM := e_on0 hM
      refine W.eq (g2 := F0 m 8 ls [.null]) rfl ?_
      refine lv_astore_nN (lv' := [(3, .null), (0, .ref (e_ad G l0)), (1, .int l1), (2, .int l2)]) hx hb dX8_shapeAt_8 rfl hl (by decide) rfl (fun ls hl => ?_)
      refine lv_aload_nN hx hb dX8_shapeAt_9 rfl (lv_at hl 0 rfl) ?_
      refine lv_ifnullN (tgt := 35) hx hb dX8_shapeAt_10 (by decide) ?_
      refine lv_null hx hb dX8_shapeAt_35 ?_
      obtain rfl := e_so hM
      exact e_aretN E J (Or.inl ⟨_, rfl⟩) dX8_shapeAt_36
    · have hM := e_on1 hM
      refine W.eq (g2 := F0 m 8 ls [.ref (e_ad G a4)]) rfl ?_
      refine lv_astore_n (lv' := [(3, .ref (e_ad G a4)), (0, .ref (e_ad G l0)), (1, .int l1), (2, .int l2)]) hx hb dX8_shapeAt_8 rfl hl (by decide) rfl (fun ls hl => ?_)
      refine lv_aload_n hx hb dX8_shapeAt_9 rfl (lv_at hl 0 rfl) ?_
      refine lv_ifnull hx hb dX8_shapeAt_10 ?_
      refine lv_iload_n hx hb dX8_shapeAt_13 rfl (lv_at hl 3 rfl) ?_
      refine lv_if_lt (tgt := 35) hx hb dX8_shapeAt_14 (by decide) (fun hc => ?_) (fun hc => ?_)
      · have hM := e_ip hc hM
        refine lv_null hx hb dX8_shapeAt_35 ?_
        obtain rfl := e_so hM
        exact e_aretN E J (Or.inl ⟨_, rfl⟩) dX8_shapeAt_36
      · have hM := e_in hc hM
        refine lv_iload_n hx hb dX8_shapeAt_17 rfl (lv_at hl 3 rfl) ?_
        refine lv_bipush (v := nI 100) hx hb dX8_shapeAt_18 (by decide) ?_
        refine lv_idiv hx hb dX8_shapeAt_20 (by decide) ?_
        refine lv_bipush (v := nI 11) hx hb dX8_shapeAt_21 (by decide) ?_
        refine lv_icmp_ge (tgt := 35) hx hb dX8_shapeAt_23 (by decide) (fun hc => ?_) (fun hc => ?_)
        · have hM := e_ip hc hM
          refine lv_null hx hb dX8_shapeAt_35 ?_
          obtain rfl := e_so hM
          exact e_aretN E J (Or.inl ⟨_, rfl⟩) dX8_shapeAt_36
        · have hM := e_in hc hM
          refine lv_iload_n hx hb dX8_shapeAt_26 rfl (lv_at hl 3 rfl) ?_
          refine lv_bipush (v := nI 100) hx hb dX8_shapeAt_27 (by decide) ?_
          refine lv_irem hx hb dX8_shapeAt_29 (by decide) ?_
          refine lv_bipush (v := nI 11) hx hb dX8_shapeAt_30 (by decide) ?_
          refine lv_icmp_lt (tgt := 37) hx hb dX8_shapeAt_32 (by decide) (fun hc => ?_) (fun hc => ?_)
          · have hM := e_ip hc hM
            refine lv_aload_n hx hb dX8_shapeAt_37 rfl (lv_at hl 1 rfl) ?_
            obtain ⟨v5, hv, hM⟩ := e_bs hM
            refine e_getR (C := RX8) (T := TX8) (N := 10) E J hv rfl inX8 (by decide) q_1_201 dX8_shapeAt_38 ?_
            rcases v5 with _ | a6
            · have hM := e_on0 hM
              refine W.eq (g2 := F0 m 41 ls [.null]) rfl ?_
              refine lv_aload_n hx hb dX8_shapeAt_41 rfl (lv_at hl 0 rfl) ?_
              exact e_no hM
            · have hM := e_on1 hM
              refine W.eq (g2 := F0 m 41 ls [.ref (e_ad G a6)]) rfl ?_
              refine lv_aload_n hx hb dX8_shapeAt_41 rfl (lv_at hl 0 rfl) ?_
              obtain ⟨h7, hv, hM⟩ := e_bs hM
              obtain ⟨fs_, hk, -⟩ := e_bs hv
              refine e_callV (ci := 6) (As := [.ref (e_ad G a4)]) (rest := []) (n := 1) E J hk rfl (mX6_look (l := l) (G := G) a6 a4 h _ hv) q_2_94 q_2_95 q_2_96 q_1_4 q_2_97 (by decide +kernel) rfl ⟨Nat.le_of_ble_eq_true rfl, Nat.le_of_ble_eq_true rfl⟩ (st0 := [.ref (e_ad G a4), .ref (e_ad G a6)]) (st1 := []) rfl rfl hl.1 (Nat.le_of_ble_eq_true rfl) dX8_shapeAt_42 ⟨Nat.le_refl _, Nat.le_refl _⟩ (fun H locs J => ?_)
              refine lv_aload_n hx hb dX8_shapeAt_45 rfl (lv_at hl 1 rfl) ?_
              obtain ⟨v8, hv, hM⟩ := e_bs hM
              refine e_getR (C := RX8) (T := TX8) (N := 10) E J hv rfl inX8 (by decide) q_1_201 dX8_shapeAt_46 ?_
              rcases v8 with _ | a9
              · have hM := e_on0 hM
                refine W.eq (g2 := F0 m 49 ls [.null]) rfl ?_
                refine lv_iload_n hx hb dX8_shapeAt_49 rfl (lv_at hl 3 rfl) ?_
                refine lv_bipush (v := nI 100) hx hb dX8_shapeAt_50 (by decide) ?_
                refine lv_idiv hx hb dX8_shapeAt_52 (by decide) ?_
                refine lv_iconst (v := nI 5) hx hb dX8_shapeAt_53 (by decide) ?_
                refine lv_isub hx hb dX8_shapeAt_54 ?_
                refine lv_iload_n hx hb dX8_shapeAt_55 rfl (lv_at hl 3 rfl) ?_
                refine lv_bipush (v := nI 100) hx hb dX8_shapeAt_56 (by decide) ?_
                refine lv_irem hx hb dX8_shapeAt_58 (by decide) ?_
                refine lv_iconst (v := nI 5) hx hb dX8_shapeAt_59 (by decide) ?_
                refine lv_isub hx hb dX8_shapeAt_60 ?_
                exact e_no hM
              · have hM := e_on1 hM
                refine W.eq (g2 := F0 m 49 ls [.ref (e_ad G a9)]) rfl ?_
                refine lv_iload_n hx hb dX8_shapeAt_49 rfl (lv_at hl 3 rfl) ?_
                refine lv_bipush (v := nI 100) hx hb dX8_shapeAt_50 (by decide) ?_
                refine lv_idiv hx hb dX8_shapeAt_52 (by decide) ?_
                refine lv_iconst (v := nI 5) hx hb dX8_shapeAt_53 (by decide) ?_
                refine lv_isub hx hb dX8_shapeAt_54 ?_
                refine lv_iload_n hx hb dX8_shapeAt_55 rfl (lv_at hl 3 rfl) ?_
                refine lv_bipush (v := nI 100) hx hb dX8_shapeAt_56 (by decide) ?_
                refine lv_irem hx hb dX8_shapeAt_58 (by decide) ?_
                refine lv_iconst (v := nI 5) hx hb dX8_shapeAt_59 (by decide) ?_
                refine lv_isub hx hb dX8_shapeAt_60 ?_
                obtain ⟨p10, hv, hM⟩ := e_bs hM
                obtain ⟨fs_, hk, -⟩ := e_bs hv
                refine e_callV (ci := 6) (As := [.int ((l2 / (nI 100)) - (nI 5)), .int ((l2 - l2 / (nI 100) * (nI 100)) - (nI 5))]) (rest := []) (n := 2) E J hk rfl (mX6_stand (l := l) (G := G) a9 ((l2 / (nI 100)) - (nI 5)) ((l2 - l2 / (nI 100) * (nI 100)) - (nI 5)) h7 _ hv) q_2_165 q_2_166 q_2_167 q_1_4 q_2_168 (by decide +kernel) rfl ⟨Nat.le_of_ble_eq_true rfl, Nat.le_of_ble_eq_true rfl⟩ (st0 := [.int ((l2 - l2 / (nI 100) * (nI 100)) - (nI 5)), .int ((l2 / (nI 100)) - (nI 5)), .ref (e_ad G a9)]) (st1 := [e_r G p10.1]) rfl rfl hl.1 (Nat.le_of_ble_eq_true rfl) dX8_shapeAt_61 ⟨Nat.le_refl _, Nat.le_refl _⟩ (fun H locs J => ?_)
                obtain ⟨r11, hr11⟩ := p10
                rcases r11 with _ | a12
                · have hM := e_on0 hM
                  refine W.eq (g2 := F0 m 64 ls [.null]) rfl ?_
                  obtain rfl := e_so hM
                  exact e_aretN E J (Or.inl ⟨_, rfl⟩) dX8_shapeAt_64
                · have hM := e_on1 hM
                  refine W.eq (g2 := F0 m 64 ls [.ref (e_ad G a12)]) rfl ?_
                  obtain rfl := e_so hM
                  exact e_aretQ E J (Or.inl ⟨_, rfl⟩) dX8_shapeAt_64
          · have hM := e_in hc hM
            refine lv_null hx hb dX8_shapeAt_35 ?_
            obtain rfl := e_so hM
            exact e_aretN E J (Or.inl ⟨_, rfl⟩) dX8_shapeAt_36
set_option maxRecDepth 100000 in
set_option maxHeartbeats 4000000 in
theorem mX3_least_b10 {p : Program} {l : Launch} {e : Env} {s : State} {m : MethodId} {args : Array Value} {below : List Frame} {meth : Method} {c : Code} {G : e_G} {res : Int32} {k2 : Nat → Int32 → Option Int32} {k10 : Nat → Int32 → Int32 → Option Int32} (E : e_M G p s args m meth c cX3_least 3 (some FieldType.int) RX3) (h : e_H) (K2 : ∀ (l0 : Nat) (l1 : Int32), k2 l0 l1 = some res → ∀ (H : Heap) (locs : List Loc), e_J G s h H locs → ∀ (ls : Array Slot), lv_has ls 3 [(0, .ref (e_ad G l0)), (1, .int l1)] → W p l e (e_rm 1 23) s m args below meth c H locs 0 0 (MQ below (e_Q G h (some (.int res))) args s 0 0 (e_A G)) (F0 m 2 ls [])) (K10 : ∀ (l0 : Nat) (l1 : Int32) (l2 : Int32), k10 l0 l1 l2 = some res → ∀ (H : Heap) (locs : List Loc), e_J G s h H locs → ∀ (ls : Array Slot), lv_has ls 3 [(0, .ref (e_ad G l0)), (1, .int l1), (2, .int l2)] → W p l e (e_rm 1 23) s m args below meth c H locs 0 0 (MQ below (e_Q G h (some (.int res))) args s 0 0 (e_A G)) (F0 m 10 ls [])) (l0 : Nat) (l1 : Int32) (l2 : Int32) (hM : fX3_least_b10 h k2 k10 l0 l1 l2 = some res) {H : Heap} {locs : List Loc} (J : e_J G s h H locs) {ls : Array Slot} (hl : lv_has ls 3 [(0, .ref (e_ad G l0)), (1, .int l1), (2, .int l2)]) : W p l e (e_rm 1 23) s m args below meth c H locs 0 0 (MQ below (e_Q G h (some (.int res))) args s 0 0 (e_A G)) (F0 m 10 ls []) := by
  obtain ⟨hx, hb, hr, hml, hown, hts, hlocks, hES, hbs⟩ := id E
  unfold fX3_least_b10 at hM
  refine lv_iload_n hx hb dX3_least_10 rfl (lv_at hl 2 rfl) ?_
  refine lv_iconst (v := nI 4) hx hb dX3_least_11 (by decide) ?_
  refine lv_icmp_gt (tgt := 36) hx hb dX3_least_12 (by decide) (fun hc => ?_) (fun hc => ?_)
  · have hM := e_ip hc hM
    refine lv_iinc (v := (l1 + (nI 1))) (lv' := [(1, .int (l1 + (nI 1))), (0, .ref (e_ad G l0)), (2, .int l2)]) hx hb dX3_least_36 hl (k := 1) rfl rfl (by decide) rfl (fun ls hl => ?_)
    refine lv_goto (tgt := 2) hx hb dX3_least_39 (by decide) ?_
    exact K2 l0 (l1 + (nI 1)) hM _ _ J _ (lv_sub hl [1, 0] rfl)
  · have hM := e_in hc hM
    refine lv_aload_n hx hb dX3_least_15 rfl (lv_at hl 0 rfl) ?_
    refine lv_iload_n hx hb dX3_least_16 rfl (lv_at hl 1 rfl) ?_
    refine lv_iload_n hx hb dX3_least_17 rfl (lv_at hl 2 rfl) ?_
    refine lv_isub hx hb dX3_least_18 ?_
    refine lv_iload_n hx hb dX3_least_19 rfl (lv_at hl 2 rfl) ?_
    obtain ⟨v1, hv, hM⟩ := e_bs hM
    obtain ⟨fs_, hk, -⟩ := e_bs hv
    refine e_callV (ci := 3) (As := [.int (l1 - l2), .int l2]) (rest := []) (n := 2) E J hk rfl (mX3_number (l := l) (G := G) l0 (l1 - l2) l2 h _ hv) q_2_184 q_2_185 q_2_186 q_1_5 q_2_187 (by decide +kernel) rfl ⟨Nat.le_of_ble_eq_true rfl, Nat.le_of_ble_eq_true rfl⟩ (st0 := [.int l2, .int (l1 - l2), .ref (e_ad G l0)]) (st1 := [.long v1]) rfl rfl hl.1 (Nat.le_of_ble_eq_true rfl) dX3_least_20 ⟨Nat.le_refl _, Nat.le_refl _⟩ (fun H locs J => ?_)
    refine lv_lconst (v := 0) hx hb dX3_least_23 (by decide) ?_
    refine W.lcmp hx hb dX3_least_24 ?_
    refine lv_if_eq (tgt := 30) hx hb dX3_least_25 (by decide) (fun hc => ?_) (fun hc => ?_)
    · have hM := e_ip hc hM
      refine lv_iinc (v := (l2 + (nI 1))) (lv' := [(2, .int (l2 + (nI 1))), (0, .ref (e_ad G l0)), (1, .int l1)]) hx hb dX3_least_30 hl (k := 2) rfl rfl (by decide) rfl (fun ls hl => ?_)
      refine lv_goto (tgt := 10) hx hb dX3_least_33 (by decide) ?_
      exact K10 l0 l1 (l2 + (nI 1)) hM _ _ J _ (lv_sub hl [1, 2, 0] rfl)
    · have hM := e_in hc hM
      refine lv_iload_n hx hb dX3_least_28 rfl (lv_at hl 1 rfl) ?_
      obtain rfl := e_so hM
      exact e_iret E J dX3_least_29
set_option maxRecDepth 100000 in
set_option maxHeartbeats 4000000 in
theorem mX3_least_L10 {p : Program} {l : Launch} {e : Env} {s : State} {m : MethodId} {args : Array Value} {below : List Frame} {meth : Method} {c : Code} {G : e_G} {res : Int32} {k2 : Nat → Int32 → Option Int32} (E : e_M G p s args m meth c cX3_least 3 (some FieldType.int) RX3) (h : e_H) (K2 : ∀ (l0 : Nat) (l1 : Int32), k2 l0 l1 = some res → ∀ (H : Heap) (locs : List Loc), e_J G s h H locs → ∀ (ls : Array Slot), lv_has ls 3 [(0, .ref (e_ad G l0)), (1, .int l1)] → W p l e (e_rm 1 23) s m args below meth c H locs 0 0 (MQ below (e_Q G h (some (.int res))) args s 0 0 (e_A G)) (F0 m 2 ls [])) (n : Nat) (l0 : Nat) (l1 : Int32) (l2 : Int32) (hM : fX3_least_L10 h k2 n l0 l1 l2 = some res) {H : Heap} {locs : List Loc} (J : e_J G s h H locs) {ls : Array Slot} (hl : lv_has ls 3 [(0, .ref (e_ad G l0)), (1, .int l1), (2, .int l2)]) : W p l e (e_rm 1 23) s m args below meth c H locs 0 0 (MQ below (e_Q G h (some (.int res))) args s 0 0 (e_A G)) (F0 m 10 ls []) := by
  induction n generalizing l0 l1 l2 H locs ls with
  | zero => exact e_no hM
  | succ n ih => exact mX3_least_b10 (k10 := (fX3_least_L10 h k2 n)) E h K2 (fun l0 l1 l2 hM H locs J ls hl => ih l0 l1 l2 hM J hl) l0 l1 l2 hM J hl
set_option maxRecDepth 100000 in
set_option maxHeartbeats 4000000 in
theorem mX3_least_b2 {p : Program} {l : Launch} {e : Env} {s : State} {m : MethodId} {args : Array Value} {below : List Frame} {meth : Method} {c : Code} {G : e_G} {res : Int32} {k2 : Nat → Int32 → Option Int32} (E : e_M G p s args m meth c cX3_least 3 (some FieldType.int) RX3) (h : e_H) (K2 : ∀ (l0 : Nat) (l1 : Int32), k2 l0 l1 = some res → ∀ (H : Heap) (locs : List Loc), e_J G s h H locs → ∀ (ls : Array Slot), lv_has ls 3 [(0, .ref (e_ad G l0)), (1, .int l1)] → W p l e (e_rm 1 23) s m args below meth c H locs 0 0 (MQ below (e_Q G h (some (.int res))) args s 0 0 (e_A G)) (F0 m 2 ls [])) (l0 : Nat) (l1 : Int32) (hM : fX3_least_b2 h k2 l0 l1 = some res) {H : Heap} {locs : List Loc} (J : e_J G s h H locs) {ls : Array Slot} (hl : lv_has ls 3 [(0, .ref (e_ad G l0)), (1, .int l1)]) : W p l e (e_rm 1 23) s m args below meth c H locs 0 0 (MQ below (e_Q G h (some (.int res))) args s 0 0 (e_A G)) (F0 m 2 ls []) := by
  obtain ⟨hx, hb, hr, hml, hown, hts, hlocks, hES, hbs⟩ := id E
  unfold fX3_least_b2 at hM
  refine lv_iload_n hx hb dX3_least_2 rfl (lv_at hl 1 rfl) ?_
  refine lv_bipush (v := nI 16) hx hb dX3_least_3 (by decide) ?_
  refine lv_icmp_gt (tgt := 42) hx hb dX3_least_5 (by decide) (fun hc => ?_) (fun hc => ?_)
  · have hM := e_ip hc hM
    refine lv_bipush (v := nI 17) hx hb dX3_least_42 (by decide) ?_
    obtain rfl := e_so hM
    exact e_iret E J dX3_least_44
  · have hM := e_in hc hM
    refine lv_iconst (v := nI 0) hx hb dX3_least_8 (by decide) ?_
    refine lv_istore_n (lv' := [(2, .int (nI 0)), (0, .ref (e_ad G l0)), (1, .int l1)]) hx hb dX3_least_9 rfl hl (by decide) rfl (fun ls hl => ?_)
    exact mX3_least_L10 E h K2 200 l0 l1 (nI 0) hM J (lv_sub hl [1, 2, 0] rfl)
set_option maxRecDepth 100000 in
set_option maxHeartbeats 4000000 in
theorem mX3_least_L2 {p : Program} {l : Launch} {e : Env} {s : State} {m : MethodId} {args : Array Value} {below : List Frame} {meth : Method} {c : Code} {G : e_G} {res : Int32} (E : e_M G p s args m meth c cX3_least 3 (some FieldType.int) RX3) (h : e_H) (n : Nat) (l0 : Nat) (l1 : Int32) (hM : fX3_least_L2 h n l0 l1 = some res) {H : Heap} {locs : List Loc} (J : e_J G s h H locs) {ls : Array Slot} (hl : lv_has ls 3 [(0, .ref (e_ad G l0)), (1, .int l1)]) : W p l e (e_rm 1 23) s m args below meth c H locs 0 0 (MQ below (e_Q G h (some (.int res))) args s 0 0 (e_A G)) (F0 m 2 ls []) := by
  induction n generalizing l0 l1 H locs ls with
  | zero => exact e_no hM
  | succ n ih => exact mX3_least_b2 (k2 := (fX3_least_L2 h n)) E h  (fun l0 l1 hM H locs J ls hl => ih l0 l1 hM J hl) l0 l1 hM J hl
set_option maxRecDepth 100000 in
set_option maxHeartbeats 4000000 in
theorem mX3_least {l : Launch} {G : e_G} (l0 : Nat) (h : e_H) (res : Int32) (hM : fX3_least l0 h = some res) : Met l yX3_least (e_W yX3_least cX3_least 3 (some FieldType.int)) (e_rm 1 23) (e_Pc G h [.ref (e_ad G l0)]) (e_Q G h (some (.int res))) 0 0 (e_A G) := by
  refine Met.ofW (cc := cX3_least) (maxL := 3) (ret := (some FieldType.int)) (by decide) rfl ?_
  intro p e s m args below meth c s₁ B hml hv
  obtain ⟨rfl, hS, hP⟩ := hv
  have E := e_enter (own := RX3) (ret := (some FieldType.int)) B hml rfl hS hP
  have J : e_J G s h s.heap [] := ⟨hP, va_S.rf⟩
  have hl := lv_entry ([.ref (e_ad G l0)]) (n := 3) (Nat.le_of_ble_eq_true rfl)
  rw [lg_entry_eq]
  generalize (lg_sl ([.ref (e_ad G l0)]) ++ List.replicate (3 - (lg_sl ([.ref (e_ad G l0)])).length) Slot.unset).toArray = ls at hl ⊢
  have hl : lv_has ls 3 [(0, .ref (e_ad G l0))] := hl
  obtain ⟨hx, hb, hr, hml, hown, hts, hlocks, hES, hbs⟩ := id E
  unfold fX3_least at hM
  obtain ⟨fs_, hk_, hM⟩ := e_bs hM
  refine lv_iconst (v := nI 0) hx hb dX3_least_0 (by decide) ?_
  refine lv_istore_n (lv' := [(1, .int (nI 0)), (0, .ref (e_ad G l0))]) hx hb dX3_least_1 rfl hl (by decide) rfl (fun ls hl => ?_)
  exact mX3_least_L2 E h 200 l0 (nI 0) hM J (lv_sub hl [1, 0] rfl)
set_option maxRecDepth 100000 in
set_option maxHeartbeats 4000000 in
theorem mX8_times {l : Launch} {G : e_G} (l0 : Nat) (l1 : Int32) (l2 : Int32) (h : e_H) (res : (Int32 × e_H)) (hM : fX8_times l0 l1 l2 h = some res) : Met l yX8_times (e_W yX8_times cX8_times 4 (some FieldType.int)) (e_rm 6 147) (e_Pc G h [.ref (e_ad G l0), .int l1, .int l2]) (e_Q G res.2 (some (.int res.1))) 0 0 (e_A G) := by
  refine Met.ofW (cc := cX8_times) (maxL := 4) (ret := (some FieldType.int)) (by decide) rfl ?_
  intro p e s m args below meth c s₁ B hml hv
  obtain ⟨rfl, hS, hP⟩ := hv
  have E := e_enter (own := RX8) (ret := (some FieldType.int)) B hml rfl hS hP
  have J : e_J G s h s.heap [] := ⟨hP, va_S.rf⟩
  have hl := lv_entry ([.ref (e_ad G l0), .int l1, .int l2]) (n := 4) (Nat.le_of_ble_eq_true rfl)
  rw [lg_entry_eq]
  generalize (lg_sl ([.ref (e_ad G l0), .int l1, .int l2]) ++ List.replicate (4 - (lg_sl ([.ref (e_ad G l0), .int l1, .int l2])).length) Slot.unset).toArray = ls at hl ⊢
  have hl : lv_has ls 4 [(0, .ref (e_ad G l0)), (1, .int l1), (2, .int l2)] := hl
  obtain ⟨hx, hb, hr, hml, hown, hts, hlocks, hES, hbs⟩ := id E
  unfold fX8_times at hM
  obtain ⟨fs_, hk_, hM⟩ := e_bs hM
  refine lv_aload_n hx hb dX8_times_0 rfl (lv_at hl 0 rfl) ?_
  refine lv_iload_n hx hb dX8_times_1 rfl (lv_at hl 1 rfl) ?_
  refine lv_iload_n hx hb dX8_times_2 rfl (lv_at hl 2 rfl) ?_
  obtain ⟨p1, hv, hM⟩ := e_bs hM
  obtain ⟨fs_, hk, -⟩ := e_bs hv
  refine e_callV (ci := 8) (As := [.int l1, .int l2]) (rest := []) (n := 2) E J hk rfl (mX8_shapeAt (l := l) (G := G) l0 l1 l2 h _ hv) q_2_161 q_2_163 q_p_2 q_1_1 q_2_164 (by decide +kernel) rfl ⟨Nat.le_of_ble_eq_true rfl, Nat.le_of_ble_eq_true rfl⟩ (st0 := [.int l2, .int l1, .ref (e_ad G l0)]) (st1 := [e_r G p1.1]) rfl rfl hl.1 (Nat.le_of_ble_eq_true rfl) dX8_times_3 ⟨Nat.le_refl _, Nat.le_refl _⟩ (fun H locs J => ?_)
  obtain ⟨r2, hr2⟩ := p1
  rcases r2 with _ | a3
  · have hM := e_on0 hM
    refine W.eq (g2 := F0 m 6 ls [.null]) rfl ?_
    refine lv_astore_nN (lv' := [(3, .null), (0, .ref (e_ad G l0)), (1, .int l1), (2, .int l2)]) hx hb dX8_times_6 rfl hl (by decide) rfl (fun ls hl => ?_)
    refine lv_aload_nN hx hb dX8_times_7 rfl (lv_at hl 0 rfl) ?_
    refine lv_ifnonnullN hx hb dX8_times_8 ?_
    refine lv_ldc (v := -1000000001) hx hb hown (hts _ q_1_237) dX8_times_11 ?_
    refine lv_goto (tgt := 20) hx hb dX8_times_13 (by decide) ?_
    obtain rfl := e_so hM
    exact e_iret E J dX8_times_20
  · have hM := e_on1 hM
    refine W.eq (g2 := F0 m 6 ls [.ref (e_ad G a3)]) rfl ?_
    refine lv_astore_n (lv' := [(3, .ref (e_ad G a3)), (0, .ref (e_ad G l0)), (1, .int l1), (2, .int l2)]) hx hb dX8_times_6 rfl hl (by decide) rfl (fun ls hl => ?_)
    refine lv_aload_n hx hb dX8_times_7 rfl (lv_at hl 0 rfl) ?_
    refine lv_ifnonnull (tgt := 16) hx hb dX8_times_8 (by decide) ?_
    refine lv_aload_n hx hb dX8_times_16 rfl (lv_at hl 0 rfl) ?_
    obtain ⟨v4, hv, hM⟩ := e_bs hM
    obtain ⟨fs_, hk, -⟩ := e_bs hv
    refine e_callV (ci := 3) (As := []) (rest := []) (n := 0) E J hk rfl (mX3_least (l := l) (G := G) a3 hr2 _ hv) q_2_193 q_2_194 q_2_195 q_1_5 q_2_196 (by decide +kernel) rfl ⟨Nat.le_of_ble_eq_true rfl, Nat.le_of_ble_eq_true rfl⟩ (st0 := [.ref (e_ad G a3)]) (st1 := [.int v4]) rfl rfl hl.1 (Nat.le_of_ble_eq_true rfl) dX8_times_17 ⟨Nat.le_refl _, Nat.le_refl _⟩ (fun H locs J => ?_)
    obtain rfl := e_so hM
    exact e_iret E J dX8_times_20
set_option maxRecDepth 100000 in
set_option maxHeartbeats 4000000 in
theorem mX3_has {l : Launch} {G : e_G} (l0 : Int32) (l1 : Int32) (h : e_H) (res : Bool) (hM : fX3_has l0 l1 = some res) : Met l yX3_has (e_W yX3_has cX3_has 2 (some FieldType.boolean)) (e_rm 0 0) (e_Pc G h [.int l0, .int l1]) (e_Q G h (some (.int (e_b res)))) 0 0 (e_A G) := by
  refine Met.ofW (cc := cX3_has) (maxL := 2) (ret := (some FieldType.boolean)) (by decide) rfl ?_
  intro p e s m args below meth c s₁ B hml hv
  obtain ⟨rfl, hS, hP⟩ := hv
  have E := e_enter (own := RX3) (ret := (some FieldType.boolean)) B hml rfl hS hP
  have J : e_J G s h s.heap [] := ⟨hP, va_S.rf⟩
  have hl := lv_entry ([.int l0, .int l1]) (n := 2) (Nat.le_of_ble_eq_true rfl)
  rw [lg_entry_eq]
  generalize (lg_sl ([.int l0, .int l1]) ++ List.replicate (2 - (lg_sl ([.int l0, .int l1])).length) Slot.unset).toArray = ls at hl ⊢
  have hl : lv_has ls 2 [(0, .int l0), (1, .int l1)] := hl
  obtain ⟨hx, hb, hr, hml, hown, hts, hlocks, hES, hbs⟩ := id E
  unfold fX3_has at hM
  refine lv_iload_n hx hb dX3_has_0 rfl (lv_at hl 0 rfl) ?_
  refine lv_if_lt (tgt := 23) hx hb dX3_has_1 (by decide) (fun hc => ?_) (fun hc => ?_)
  · have hM := e_ip hc hM
    refine lv_iconst (v := nI 0) hx hb dX3_has_23 (by decide) ?_
    obtain rfl := e_so hM
    exact e_zret E J (false) rfl dX3_has_24
  · have hM := e_in hc hM
    refine lv_iload_n hx hb dX3_has_4 rfl (lv_at hl 0 rfl) ?_
    refine lv_bipush (v := nI 16) hx hb dX3_has_5 (by decide) ?_
    refine lv_icmp_gt (tgt := 23) hx hb dX3_has_7 (by decide) (fun hc => ?_) (fun hc => ?_)
    · have hM := e_ip hc hM
      refine lv_iconst (v := nI 0) hx hb dX3_has_23 (by decide) ?_
      obtain rfl := e_so hM
      exact e_zret E J (false) rfl dX3_has_24
    · have hM := e_in hc hM
      refine lv_iload_n hx hb dX3_has_10 rfl (lv_at hl 1 rfl) ?_
      refine lv_if_lt (tgt := 23) hx hb dX3_has_11 (by decide) (fun hc => ?_) (fun hc => ?_)
      · have hM := e_ip hc hM
        refine lv_iconst (v := nI 0) hx hb dX3_has_23 (by decide) ?_
        obtain rfl := e_so hM
        exact e_zret E J (false) rfl dX3_has_24
      · have hM := e_in hc hM
        refine lv_iload_n hx hb dX3_has_14 rfl (lv_at hl 1 rfl) ?_
        refine lv_iconst (v := nI 4) hx hb dX3_has_15 (by decide) ?_
        refine lv_icmp_gt (tgt := 23) hx hb dX3_has_16 (by decide) (fun hc => ?_) (fun hc => ?_)
        · have hM := e_ip hc hM
          refine lv_iconst (v := nI 0) hx hb dX3_has_23 (by decide) ?_
          obtain rfl := e_so hM
          exact e_zret E J (false) rfl dX3_has_24
        · have hM := e_in hc hM
          refine lv_iconst (v := nI 1) hx hb dX3_has_19 (by decide) ?_
          refine lv_goto (tgt := 24) hx hb dX3_has_20 (by decide) ?_
          obtain rfl := e_so hM
          exact e_zret E J (true) rfl dX3_has_24
set_option maxRecDepth 100000 in
set_option maxHeartbeats 4000000 in
theorem mX8_shape {l : Launch} {G : e_G} (l0 : Nat) (l1 : Int32) (l2 : Int32) (l3 : Int32) (h : e_H) (res : (Int64 × e_H)) (hM : fX8_shape l0 l1 l2 l3 h = some res) : Met l yX8_shape (e_W yX8_shape cX8_shape 7 (some FieldType.long)) (e_rm 6 147) (e_Pc G h [.ref (e_ad G l0), .int l1, .int l2, .int l3]) (e_Q G res.2 (some (.long res.1))) 0 0 (e_A G) := by
  refine Met.ofW (cc := cX8_shape) (maxL := 7) (ret := (some FieldType.long)) (by decide) rfl ?_
  intro p e s m args below meth c s₁ B hml hv
  obtain ⟨rfl, hS, hP⟩ := hv
  have E := e_enter (own := RX8) (ret := (some FieldType.long)) B hml rfl hS hP
  have J : e_J G s h s.heap [] := ⟨hP, va_S.rf⟩
  have hl := lv_entry ([.ref (e_ad G l0), .int l1, .int l2, .int l3]) (n := 7) (Nat.le_of_ble_eq_true rfl)
  rw [lg_entry_eq]
  generalize (lg_sl ([.ref (e_ad G l0), .int l1, .int l2, .int l3]) ++ List.replicate (7 - (lg_sl ([.ref (e_ad G l0), .int l1, .int l2, .int l3])).length) Slot.unset).toArray = ls at hl ⊢
  have hl : lv_has ls 7 [(0, .ref (e_ad G l0)), (1, .int l1), (2, .int l2), (3, .int l3)] := hl
  obtain ⟨hx, hb, hr, hml, hown, hts, hlocks, hES, hbs⟩ := id E
  unfold fX8_shape at hM
  obtain ⟨fs_, hk_, hM⟩ := e_bs hM
  refine lv_aload_n hx hb dX8_shape_0 rfl (lv_at hl 0 rfl) ?_
  refine lv_iload_n hx hb dX8_shape_1 rfl (lv_at hl 1 rfl) ?_
  refine lv_iload_n hx hb dX8_shape_2 rfl (lv_at hl 2 rfl) ?_
  obtain ⟨p1, hv, hM⟩ := e_bs hM
  obtain ⟨fs_, hk, -⟩ := e_bs hv
  refine e_callV (ci := 8) (As := [.int l1, .int l2]) (rest := []) (n := 2) E J hk rfl (mX8_shapeAt (l := l) (G := G) l0 l1 l2 h _ hv) q_2_161 q_2_163 q_p_2 q_1_1 q_2_164 (by decide +kernel) rfl ⟨Nat.le_of_ble_eq_true rfl, Nat.le_of_ble_eq_true rfl⟩ (st0 := [.int l2, .int l1, .ref (e_ad G l0)]) (st1 := [e_r G p1.1]) rfl rfl hl.1 (Nat.le_of_ble_eq_true rfl) dX8_shape_3 ⟨Nat.le_refl _, Nat.le_refl _⟩ (fun H locs J => ?_)
  obtain ⟨r2, hr2⟩ := p1
  rcases r2 with _ | a3
  · have hM := e_on0 hM
    refine W.eq (g2 := F0 m 6 ls [.null]) rfl ?_
    refine lv_astoreN (lv' := [(4, .null), (0, .ref (e_ad G l0)), (1, .int l1), (2, .int l2), (3, .int l3)]) hx hb dX8_shape_6 hl (by decide) rfl (fun ls hl => ?_)
    refine lv_iload_n hx hb dX8_shape_8 rfl (lv_at hl 4 rfl) ?_
    refine lv_bipush (v := nI 10) hx hb dX8_shape_9 (by decide) ?_
    refine lv_idiv hx hb dX8_shape_11 (by decide) ?_
    refine lv_istore (lv' := [(5, .int (l3 / (nI 10))), (4, .null), (0, .ref (e_ad G l0)), (1, .int l1), (2, .int l2), (3, .int l3)]) hx hb dX8_shape_12 hl (by decide) rfl (fun ls hl => ?_)
    refine lv_iload_n hx hb dX8_shape_14 rfl (lv_at hl 5 rfl) ?_
    refine lv_bipush (v := nI 10) hx hb dX8_shape_15 (by decide) ?_
    refine lv_irem hx hb dX8_shape_17 (by decide) ?_
    refine lv_istore (lv' := [(6, .int (l3 - l3 / (nI 10) * (nI 10))), (5, .int (l3 / (nI 10))), (4, .null), (0, .ref (e_ad G l0)), (1, .int l1), (2, .int l2), (3, .int l3)]) hx hb dX8_shape_18 hl (by decide) rfl (fun ls hl => ?_)
    refine lv_aloadN hx hb dX8_shape_20 (lv_at hl 2 rfl) ?_
    refine lv_ifnullN (tgt := 35) hx hb dX8_shape_22 (by decide) ?_
    refine lv_ldc2 (v := -1000000001) hx hb hown (hts _ q_2_152) dX8_shape_35 ?_
    refine lv_goto (tgt := 50) hx hb dX8_shape_38 (by decide) ?_
    obtain rfl := e_so hM
    exact e_lret E J dX8_shape_50
  · have hM := e_on1 hM
    refine W.eq (g2 := F0 m 6 ls [.ref (e_ad G a3)]) rfl ?_
    refine lv_astore (lv' := [(4, .ref (e_ad G a3)), (0, .ref (e_ad G l0)), (1, .int l1), (2, .int l2), (3, .int l3)]) hx hb dX8_shape_6 hl (by decide) rfl (fun ls hl => ?_)
    refine lv_iload_n hx hb dX8_shape_8 rfl (lv_at hl 4 rfl) ?_
    refine lv_bipush (v := nI 10) hx hb dX8_shape_9 (by decide) ?_
    refine lv_idiv hx hb dX8_shape_11 (by decide) ?_
    refine lv_istore (lv' := [(5, .int (l3 / (nI 10))), (4, .ref (e_ad G a3)), (0, .ref (e_ad G l0)), (1, .int l1), (2, .int l2), (3, .int l3)]) hx hb dX8_shape_12 hl (by decide) rfl (fun ls hl => ?_)
    refine lv_iload_n hx hb dX8_shape_14 rfl (lv_at hl 5 rfl) ?_
    refine lv_bipush (v := nI 10) hx hb dX8_shape_15 (by decide) ?_
    refine lv_irem hx hb dX8_shape_17 (by decide) ?_
    refine lv_istore (lv' := [(6, .int (l3 - l3 / (nI 10) * (nI 10))), (5, .int (l3 / (nI 10))), (4, .ref (e_ad G a3)), (0, .ref (e_ad G l0)), (1, .int l1), (2, .int l2), (3, .int l3)]) hx hb dX8_shape_18 hl (by decide) rfl (fun ls hl => ?_)
    refine lv_aload hx hb dX8_shape_20 (lv_at hl 2 rfl) ?_
    refine lv_ifnull hx hb dX8_shape_22 ?_
    refine lv_iload hx hb dX8_shape_25 (lv_at hl 1 rfl) ?_
    refine lv_iload hx hb dX8_shape_27 (lv_at hl 0 rfl) ?_
    obtain ⟨v4, hv, hM⟩ := e_bs hM
    refine e_callS (As := [.int (l3 / (nI 10)), .int (l3 - l3 / (nI 10) * (nI 10))]) (rest := []) (n := 2) E J (mX3_has (l := l) (G := G) (l3 / (nI 10)) (l3 - l3 / (nI 10) * (nI 10)) hr2 _ hv) q_2_201 q_2_202 q_1_5 q_2_203 (by decide +kernel) rfl ⟨Nat.le_of_ble_eq_true rfl, Nat.le_of_ble_eq_true rfl⟩ (st0 := [.int (l3 - l3 / (nI 10) * (nI 10)), .int (l3 / (nI 10))]) (st1 := [.int (e_b v4)]) rfl rfl hl.1 (Nat.le_of_ble_eq_true rfl) dX8_shape_29 ⟨Nat.le_refl _, Nat.le_refl _⟩ (fun H locs J => ?_)
    refine lv_if_ne (tgt := 41) hx hb dX8_shape_32 (by decide) (fun hc => ?_) (fun hc => ?_)
    · have hM := e_in hc hM
      refine lv_aload hx hb dX8_shape_41 (lv_at hl 2 rfl) ?_
      refine lv_iload hx hb dX8_shape_43 (lv_at hl 1 rfl) ?_
      refine lv_iload hx hb dX8_shape_45 (lv_at hl 0 rfl) ?_
      obtain ⟨v5, hv, hM⟩ := e_bs hM
      obtain ⟨fs_, hk, -⟩ := e_bs hv
      refine e_callV (ci := 3) (As := [.int (l3 / (nI 10)), .int (l3 - l3 / (nI 10) * (nI 10))]) (rest := []) (n := 2) E J hk rfl (mX3_number (l := l) (G := G) a3 (l3 / (nI 10)) (l3 - l3 / (nI 10) * (nI 10)) hr2 _ hv) q_2_204 q_2_185 q_2_186 q_1_5 q_2_187 (by decide +kernel) rfl ⟨Nat.le_of_ble_eq_true rfl, Nat.le_of_ble_eq_true rfl⟩ (st0 := [.int (l3 - l3 / (nI 10) * (nI 10)), .int (l3 / (nI 10)), .ref (e_ad G a3)]) (st1 := [.long v5]) rfl rfl hl.1 (Nat.le_of_ble_eq_true rfl) dX8_shape_47 ⟨Nat.le_refl _, Nat.le_refl _⟩ (fun H locs J => ?_)
      obtain rfl := e_so hM
      exact e_lret E J dX8_shape_50
    · have hM := e_ip hc hM
      refine lv_ldc2 (v := -1000000001) hx hb hown (hts _ q_2_152) dX8_shape_35 ?_
      refine lv_goto (tgt := 50) hx hb dX8_shape_38 (by decide) ?_
      obtain rfl := e_so hM
      exact e_lret E J dX8_shape_50
set_option maxRecDepth 100000 in
set_option maxHeartbeats 4000000 in
theorem mX3_branches {l : Launch} {G : e_G} (l0 : Int32) (h : e_H) (res : Bool) (hM : fX3_branches l0 = some res) : Met l yX3_branches (e_W yX3_branches cX3_branches 1 (some FieldType.boolean)) (e_rm 0 0) (e_Pc G h [.int l0]) (e_Q G h (some (.int (e_b res)))) 0 0 (e_A G) := by
  refine Met.ofW (cc := cX3_branches) (maxL := 1) (ret := (some FieldType.boolean)) (by decide) rfl ?_
  intro p e s m args below meth c s₁ B hml hv
  obtain ⟨rfl, hS, hP⟩ := hv
  have E := e_enter (own := RX3) (ret := (some FieldType.boolean)) B hml rfl hS hP
  have J : e_J G s h s.heap [] := ⟨hP, va_S.rf⟩
  have hl := lv_entry ([.int l0]) (n := 1) (Nat.le_of_ble_eq_true rfl)
  rw [lg_entry_eq]
  generalize (lg_sl ([.int l0]) ++ List.replicate (1 - (lg_sl ([.int l0])).length) Slot.unset).toArray = ls at hl ⊢
  have hl : lv_has ls 1 [(0, .int l0)] := hl
  obtain ⟨hx, hb, hr, hml, hown, hts, hlocks, hES, hbs⟩ := id E
  unfold fX3_branches at hM
  refine lv_iload_n hx hb dX3_branches_0 rfl (lv_at hl 0 rfl) ?_
  refine lv_iconst (v := nI 1) hx hb dX3_branches_1 (by decide) ?_
  refine lv_icmp_lt (tgt := 15) hx hb dX3_branches_2 (by decide) (fun hc => ?_) (fun hc => ?_)
  · have hM := e_ip hc hM
    refine lv_iconst (v := nI 0) hx hb dX3_branches_15 (by decide) ?_
    obtain rfl := e_so hM
    exact e_zret E J (false) rfl dX3_branches_16
  · have hM := e_in hc hM
    refine lv_iload_n hx hb dX3_branches_5 rfl (lv_at hl 0 rfl) ?_
    refine lv_bipush (v := nI 16) hx hb dX3_branches_6 (by decide) ?_
    refine lv_icmp_gt (tgt := 15) hx hb dX3_branches_8 (by decide) (fun hc => ?_) (fun hc => ?_)
    · have hM := e_ip hc hM
      refine lv_iconst (v := nI 0) hx hb dX3_branches_15 (by decide) ?_
      obtain rfl := e_so hM
      exact e_zret E J (false) rfl dX3_branches_16
    · have hM := e_in hc hM
      refine lv_iconst (v := nI 1) hx hb dX3_branches_11 (by decide) ?_
      refine lv_goto (tgt := 16) hx hb dX3_branches_12 (by decide) ?_
      obtain rfl := e_so hM
      exact e_zret E J (true) rfl dX3_branches_16
set_option maxRecDepth 100000 in
set_option maxHeartbeats 4000000 in
theorem mX3_lowestOf {l : Launch} {G : e_G} (l0 : Nat) (l1 : Int32) (l2 : Int32) (h : e_H) (res : Int64) (hM : fX3_lowestOf l0 l1 l2 h = some res) : Met l yX3_lowestOf (e_W yX3_lowestOf cX3_lowestOf 3 (some FieldType.long)) (e_rm 1 23) (e_Pc G h [.ref (e_ad G l0), .int l1, .int l2]) (e_Q G h (some (.long res))) 0 0 (e_A G) := by
  refine Met.ofW (cc := cX3_lowestOf) (maxL := 3) (ret := (some FieldType.long)) (by decide) rfl ?_
  intro p e s m args below meth c s₁ B hml hv
  obtain ⟨rfl, hS, hP⟩ := hv
  have E := e_enter (own := RX3) (ret := (some FieldType.long)) B hml rfl hS hP
  have J : e_J G s h s.heap [] := ⟨hP, va_S.rf⟩
  have hl := lv_entry ([.ref (e_ad G l0), .int l1, .int l2]) (n := 3) (Nat.le_of_ble_eq_true rfl)
  rw [lg_entry_eq]
  generalize (lg_sl ([.ref (e_ad G l0), .int l1, .int l2]) ++ List.replicate (3 - (lg_sl ([.ref (e_ad G l0), .int l1, .int l2])).length) Slot.unset).toArray = ls at hl ⊢
  have hl : lv_has ls 3 [(0, .ref (e_ad G l0)), (1, .int l1), (2, .int l2)] := hl
  obtain ⟨hx, hb, hr, hml, hown, hts, hlocks, hES, hbs⟩ := id E
  unfold fX3_lowestOf at hM
  obtain ⟨fs_, hk_, hM⟩ := e_bs hM
  refine lv_aload_n hx hb dX3_lowestOf_0 rfl (lv_at hl 0 rfl) ?_
  refine lv_iload_n hx hb dX3_lowestOf_1 rfl (lv_at hl 1 rfl) ?_
  refine lv_iload_n hx hb dX3_lowestOf_2 rfl (lv_at hl 2 rfl) ?_
  refine lv_isub hx hb dX3_lowestOf_3 ?_
  refine lv_iload_n hx hb dX3_lowestOf_4 rfl (lv_at hl 2 rfl) ?_
  obtain ⟨v1, hv, hM⟩ := e_bs hM
  obtain ⟨fs_, hk, -⟩ := e_bs hv
  refine e_callV (ci := 3) (As := [.int (l1 - l2), .int l2]) (rest := []) (n := 2) E J hk rfl (mX3_number (l := l) (G := G) l0 (l1 - l2) l2 h _ hv) q_2_184 q_2_185 q_2_186 q_1_5 q_2_187 (by decide +kernel) rfl ⟨Nat.le_of_ble_eq_true rfl, Nat.le_of_ble_eq_true rfl⟩ (st0 := [.int l2, .int (l1 - l2), .ref (e_ad G l0)]) (st1 := [.long v1]) rfl rfl hl.1 (Nat.le_of_ble_eq_true rfl) dX3_lowestOf_5 ⟨Nat.le_refl _, Nat.le_refl _⟩ (fun H locs J => ?_)
  obtain rfl := e_so hM
  exact e_lret E J dX3_lowestOf_8
set_option maxRecDepth 100000 in
set_option maxHeartbeats 4000000 in
theorem mX8_lowest {l : Launch} {G : e_G} (l0 : Nat) (l1 : Int32) (l2 : Int32) (l3 : Int32) (h : e_H) (res : (Int64 × e_H)) (hM : fX8_lowest l0 l1 l2 l3 h = some res) : Met l yX8_lowest (e_W yX8_lowest cX8_lowest 6 (some FieldType.long)) (e_rm 6 147) (e_Pc G h [.ref (e_ad G l0), .int l1, .int l2, .int l3]) (e_Q G res.2 (some (.long res.1))) 0 0 (e_A G) := by
  refine Met.ofW (cc := cX8_lowest) (maxL := 6) (ret := (some FieldType.long)) (by decide) rfl ?_
  intro p e s m args below meth c s₁ B hml hv
  obtain ⟨rfl, hS, hP⟩ := hv
  have E := e_enter (own := RX8) (ret := (some FieldType.long)) B hml rfl hS hP
  have J : e_J G s h s.heap [] := ⟨hP, va_S.rf⟩
  have hl := lv_entry ([.ref (e_ad G l0), .int l1, .int l2, .int l3]) (n := 6) (Nat.le_of_ble_eq_true rfl)
  rw [lg_entry_eq]
  generalize (lg_sl ([.ref (e_ad G l0), .int l1, .int l2, .int l3]) ++ List.replicate (6 - (lg_sl ([.ref (e_ad G l0), .int l1, .int l2, .int l3])).length) Slot.unset).toArray = ls at hl ⊢
  have hl : lv_has ls 6 [(0, .ref (e_ad G l0)), (1, .int l1), (2, .int l2), (3, .int l3)] := hl
  obtain ⟨hx, hb, hr, hml, hown, hts, hlocks, hES, hbs⟩ := id E
  unfold fX8_lowest at hM
  obtain ⟨fs_, hk_, hM⟩ := e_bs hM
  refine lv_aload_n hx hb dX8_lowest_0 rfl (lv_at hl 0 rfl) ?_
  refine lv_iload_n hx hb dX8_lowest_1 rfl (lv_at hl 1 rfl) ?_
  refine lv_iload_n hx hb dX8_lowest_2 rfl (lv_at hl 2 rfl) ?_
  obtain ⟨p1, hv, hM⟩ := e_bs hM
  obtain ⟨fs_, hk, -⟩ := e_bs hv
  refine e_callV (ci := 8) (As := [.int l1, .int l2]) (rest := []) (n := 2) E J hk rfl (mX8_shapeAt (l := l) (G := G) l0 l1 l2 h _ hv) q_2_161 q_2_163 q_p_2 q_1_1 q_2_164 (by decide +kernel) rfl ⟨Nat.le_of_ble_eq_true rfl, Nat.le_of_ble_eq_true rfl⟩ (st0 := [.int l2, .int l1, .ref (e_ad G l0)]) (st1 := [e_r G p1.1]) rfl rfl hl.1 (Nat.le_of_ble_eq_true rfl) dX8_lowest_3 ⟨Nat.le_refl _, Nat.le_refl _⟩ (fun H locs J => ?_)
  obtain ⟨r2, hr2⟩ := p1
  rcases r2 with _ | a3
  · have hM := e_on0 hM
    refine W.eq (g2 := F0 m 6 ls [.null]) rfl ?_
    refine lv_astoreN (lv' := [(4, .null), (0, .ref (e_ad G l0)), (1, .int l1), (2, .int l2), (3, .int l3)]) hx hb dX8_lowest_6 hl (by decide) rfl (fun ls hl => ?_)
    refine lv_aloadN hx hb dX8_lowest_8 (lv_at hl 0 rfl) ?_
    refine lv_ifnullN (tgt := 22) hx hb dX8_lowest_10 (by decide) ?_
    refine lv_ldc2 (v := -1000000001) hx hb hown (hts _ q_2_152) dX8_lowest_22 ?_
    obtain rfl := e_so hM
    exact e_lret E J dX8_lowest_25
  · have hM := e_on1 hM
    refine W.eq (g2 := F0 m 6 ls [.ref (e_ad G a3)]) rfl ?_
    refine lv_astore (lv' := [(4, .ref (e_ad G a3)), (0, .ref (e_ad G l0)), (1, .int l1), (2, .int l2), (3, .int l3)]) hx hb dX8_lowest_6 hl (by decide) rfl (fun ls hl => ?_)
    refine lv_aload hx hb dX8_lowest_8 (lv_at hl 0 rfl) ?_
    refine lv_ifnull hx hb dX8_lowest_10 ?_
    refine lv_iload_n hx hb dX8_lowest_13 rfl (lv_at hl 4 rfl) ?_
    refine lv_if_lt (tgt := 22) hx hb dX8_lowest_14 (by decide) (fun hc => ?_) (fun hc => ?_)
    · have hM := e_ip hc hM
      refine lv_ldc2 (v := -1000000001) hx hb hown (hts _ q_2_152) dX8_lowest_22 ?_
      obtain rfl := e_so hM
      exact e_lret E J dX8_lowest_25
    · have hM := e_in hc hM
      refine lv_iload_n hx hb dX8_lowest_17 rfl (lv_at hl 4 rfl) ?_
      refine lv_iconst (v := nI 4) hx hb dX8_lowest_18 (by decide) ?_
      refine lv_icmp_le (tgt := 26) hx hb dX8_lowest_19 (by decide) (fun hc => ?_) (fun hc => ?_)
      · have hM := e_ip hc hM
        refine lv_aload hx hb dX8_lowest_26 (lv_at hl 0 rfl) ?_
        obtain ⟨v4, hv, hM⟩ := e_bs hM
        obtain ⟨fs_, hk, -⟩ := e_bs hv
        refine e_callV (ci := 3) (As := []) (rest := []) (n := 0) E J hk rfl (mX3_least (l := l) (G := G) a3 hr2 _ hv) q_2_193 q_2_194 q_2_195 q_1_5 q_2_196 (by decide +kernel) rfl ⟨Nat.le_of_ble_eq_true rfl, Nat.le_of_ble_eq_true rfl⟩ (st0 := [.ref (e_ad G a3)]) (st1 := [.int v4]) rfl rfl hl.1 (Nat.le_of_ble_eq_true rfl) dX8_lowest_28 ⟨Nat.le_refl _, Nat.le_refl _⟩ (fun H locs J => ?_)
        refine lv_istore (lv' := [(5, .int v4), (4, .ref (e_ad G a3)), (0, .ref (e_ad G l0)), (1, .int l1), (2, .int l2), (3, .int l3)]) hx hb dX8_lowest_31 hl (by decide) rfl (fun ls hl => ?_)
        refine lv_iload hx hb dX8_lowest_33 (lv_at hl 0 rfl) ?_
        obtain ⟨v5, hv, hM⟩ := e_bs hM
        refine e_callS (As := [.int v4]) (rest := []) (n := 1) E J (mX3_branches (l := l) (G := G) v4 hr2 _ hv) q_2_209 q_2_210 q_1_5 q_2_211 (by decide +kernel) rfl ⟨Nat.le_of_ble_eq_true rfl, Nat.le_of_ble_eq_true rfl⟩ (st0 := [.int v4]) (st1 := [.int (e_b v5)]) rfl rfl hl.1 (Nat.le_of_ble_eq_true rfl) dX8_lowest_35 ⟨Nat.le_refl _, Nat.le_refl _⟩ (fun H locs J => ?_)
        refine lv_if_eq (tgt := 52) hx hb dX8_lowest_38 (by decide) (fun hc => ?_) (fun hc => ?_)
        · have hM := e_ip hc hM
          refine lv_ldc2 (v := -1000000002) hx hb hown (hts _ q_2_216) dX8_lowest_52 ?_
          obtain rfl := e_so hM
          exact e_lret E J dX8_lowest_55
        · have hM := e_in hc hM
          refine lv_aload hx hb dX8_lowest_41 (lv_at hl 1 rfl) ?_
          refine lv_iload hx hb dX8_lowest_43 (lv_at hl 0 rfl) ?_
          refine lv_iload_n hx hb dX8_lowest_45 rfl (lv_at hl 5 rfl) ?_
          obtain ⟨v6, hv, hM⟩ := e_bs hM
          obtain ⟨fs_, hk, -⟩ := e_bs hv
          refine e_callV (ci := 3) (As := [.int v4, .int l3]) (rest := []) (n := 2) E J hk rfl (mX3_lowestOf (l := l) (G := G) a3 v4 l3 hr2 _ hv) q_2_212 q_2_213 q_2_214 q_1_5 q_2_215 (by decide +kernel) rfl ⟨Nat.le_of_ble_eq_true rfl, Nat.le_of_ble_eq_true rfl⟩ (st0 := [.int l3, .int v4, .ref (e_ad G a3)]) (st1 := [.long v6]) rfl rfl hl.1 (Nat.le_of_ble_eq_true rfl) dX8_lowest_46 ⟨Nat.le_refl _, Nat.le_refl _⟩ (fun H locs J => ?_)
          refine lv_goto (tgt := 55) hx hb dX8_lowest_49 (by decide) ?_
          obtain rfl := e_so hM
          exact e_lret E J dX8_lowest_55
      · have hM := e_in hc hM
        refine lv_ldc2 (v := -1000000001) hx hb hown (hts _ q_2_152) dX8_lowest_22 ?_
        obtain rfl := e_so hM
        exact e_lret E J dX8_lowest_25
set_option maxRecDepth 100000 in
set_option maxHeartbeats 4000000 in
theorem mX3_sumOnLine_b5 {p : Program} {l : Launch} {e : Env} {s : State} {m : MethodId} {args : Array Value} {below : List Frame} {meth : Method} {c : Code} {G : e_G} {res : Int64} {k5 : Nat → Int32 → Int32 → Int64 → Int32 → Option Int64} (E : e_M G p s args m meth c cX3_sumOnLine 6 (some FieldType.long) RX3) (h : e_H) (K5 : ∀ (l0 : Nat) (l1 : Int32) (l2 : Int32) (l3 : Int64) (l5 : Int32), k5 l0 l1 l2 l3 l5 = some res → ∀ (H : Heap) (locs : List Loc), e_J G s h H locs → ∀ (ls : Array Slot), lv_has ls 6 [(0, .ref (e_ad G l0)), (1, .int l1), (2, .int l2), (3, .long l3), (5, .int l5)] → W p l e (e_rm 1 23) s m args below meth c H locs 0 0 (MQ below (e_Q G h (some (.long res))) args s 0 0 (e_A G)) (F0 m 5 ls [])) (l0 : Nat) (l1 : Int32) (l2 : Int32) (l3 : Int64) (l5 : Int32) (hM : fX3_sumOnLine_b5 h k5 l0 l1 l2 l3 l5 = some res) {H : Heap} {locs : List Loc} (J : e_J G s h H locs) {ls : Array Slot} (hl : lv_has ls 6 [(0, .ref (e_ad G l0)), (1, .int l1), (2, .int l2), (3, .long l3), (5, .int l5)]) : W p l e (e_rm 1 23) s m args below meth c H locs 0 0 (MQ below (e_Q G h (some (.long res))) args s 0 0 (e_A G)) (F0 m 5 ls []) := by
  obtain ⟨hx, hb, hr, hml, hown, hts, hlocks, hES, hbs⟩ := id E
  unfold fX3_sumOnLine_b5 at hM
  refine lv_iload hx hb dX3_sumOnLine_5 (lv_at hl 4 rfl) ?_
  refine lv_if_lt (tgt := 32) hx hb dX3_sumOnLine_7 (by decide) (fun hc => ?_) (fun hc => ?_)
  · have hM := e_ip hc hM
    refine lv_lload_n hx hb dX3_sumOnLine_32 rfl (lv_at hl 3 rfl) ?_
    obtain rfl := e_so hM
    exact e_lret E J dX3_sumOnLine_33
  · have hM := e_in hc hM
    refine lv_lload_n hx hb dX3_sumOnLine_10 rfl (lv_at hl 3 rfl) ?_
    refine lv_iload_n hx hb dX3_sumOnLine_11 rfl (lv_at hl 2 rfl) ?_
    refine lv_i2l hx hb dX3_sumOnLine_12 rfl ?_
    refine lv_lmul hx hb dX3_sumOnLine_13 ?_
    refine lv_aload_n hx hb dX3_sumOnLine_14 rfl (lv_at hl 0 rfl) ?_
    refine lv_iload_n hx hb dX3_sumOnLine_15 rfl (lv_at hl 1 rfl) ?_
    refine lv_iload hx hb dX3_sumOnLine_16 (lv_at hl 4 rfl) ?_
    refine lv_isub hx hb dX3_sumOnLine_18 ?_
    refine lv_iload hx hb dX3_sumOnLine_19 (lv_at hl 4 rfl) ?_
    obtain ⟨v1, hv, hM⟩ := e_bs hM
    obtain ⟨fs_, hk, -⟩ := e_bs hv
    refine e_callV (ci := 3) (As := [.int (l1 - l5), .int l5]) (rest := [.long (l3 * (l2).toInt64)]) (n := 2) E J hk rfl (mX3_number (l := l) (G := G) l0 (l1 - l5) l5 h _ hv) q_2_184 q_2_185 q_2_186 q_1_5 q_2_187 (by decide +kernel) rfl ⟨Nat.le_of_ble_eq_true rfl, Nat.le_of_ble_eq_true rfl⟩ (st0 := [.int l5, .int (l1 - l5), .ref (e_ad G l0), .long (l3 * (l2).toInt64)]) (st1 := [.long v1, .long (l3 * (l2).toInt64)]) rfl rfl hl.1 (Nat.le_of_ble_eq_true rfl) dX3_sumOnLine_21 ⟨Nat.le_refl _, Nat.le_refl _⟩ (fun H locs J => ?_)
    refine lv_ladd hx hb dX3_sumOnLine_24 ?_
    refine lv_lstore_n (lv' := [(3, .long ((l3 * (l2).toInt64) + v1)), (0, .ref (e_ad G l0)), (1, .int l1), (2, .int l2), (5, .int l5)]) hx hb dX3_sumOnLine_25 rfl hl (by decide) rfl (fun ls hl => ?_)
    refine lv_iinc (v := (l5 + (-1 : Int32))) (lv' := [(5, .int (l5 + (-1 : Int32))), (3, .long ((l3 * (l2).toInt64) + v1)), (0, .ref (e_ad G l0)), (1, .int l1), (2, .int l2)]) hx hb dX3_sumOnLine_26 hl (k := 4) rfl rfl (by decide) rfl (fun ls hl => ?_)
    refine lv_goto (tgt := 5) hx hb dX3_sumOnLine_29 (by decide) ?_
    exact K5 l0 l1 l2 ((l3 * (l2).toInt64) + v1) (l5 + (-1 : Int32)) hM _ _ J _ (lv_sub hl [2, 3, 4, 1, 0] rfl)
set_option maxRecDepth 100000 in
set_option maxHeartbeats 4000000 in
theorem mX3_sumOnLine_L5 {p : Program} {l : Launch} {e : Env} {s : State} {m : MethodId} {args : Array Value} {below : List Frame} {meth : Method} {c : Code} {G : e_G} {res : Int64} (E : e_M G p s args m meth c cX3_sumOnLine 6 (some FieldType.long) RX3) (h : e_H) (n : Nat) (l0 : Nat) (l1 : Int32) (l2 : Int32) (l3 : Int64) (l5 : Int32) (hM : fX3_sumOnLine_L5 h n l0 l1 l2 l3 l5 = some res) {H : Heap} {locs : List Loc} (J : e_J G s h H locs) {ls : Array Slot} (hl : lv_has ls 6 [(0, .ref (e_ad G l0)), (1, .int l1), (2, .int l2), (3, .long l3), (5, .int l5)]) : W p l e (e_rm 1 23) s m args below meth c H locs 0 0 (MQ below (e_Q G h (some (.long res))) args s 0 0 (e_A G)) (F0 m 5 ls []) := by
  induction n generalizing l0 l1 l2 l3 l5 H locs ls with
  | zero => exact e_no hM
  | succ n ih => exact mX3_sumOnLine_b5 (k5 := (fX3_sumOnLine_L5 h n)) E h  (fun l0 l1 l2 l3 l5 hM H locs J ls hl => ih l0 l1 l2 l3 l5 hM J hl) l0 l1 l2 l3 l5 hM J hl
set_option maxRecDepth 100000 in
set_option maxHeartbeats 4000000 in
theorem mX3_sumOnLine {l : Launch} {G : e_G} (l0 : Nat) (l1 : Int32) (l2 : Int32) (h : e_H) (res : Int64) (hM : fX3_sumOnLine l0 l1 l2 h = some res) : Met l yX3_sumOnLine (e_W yX3_sumOnLine cX3_sumOnLine 6 (some FieldType.long)) (e_rm 1 23) (e_Pc G h [.ref (e_ad G l0), .int l1, .int l2]) (e_Q G h (some (.long res))) 0 0 (e_A G) := by
  refine Met.ofW (cc := cX3_sumOnLine) (maxL := 6) (ret := (some FieldType.long)) (by decide) rfl ?_
  intro p e s m args below meth c s₁ B hml hv
  obtain ⟨rfl, hS, hP⟩ := hv
  have E := e_enter (own := RX3) (ret := (some FieldType.long)) B hml rfl hS hP
  have J : e_J G s h s.heap [] := ⟨hP, va_S.rf⟩
  have hl := lv_entry ([.ref (e_ad G l0), .int l1, .int l2]) (n := 6) (Nat.le_of_ble_eq_true rfl)
  rw [lg_entry_eq]
  generalize (lg_sl ([.ref (e_ad G l0), .int l1, .int l2]) ++ List.replicate (6 - (lg_sl ([.ref (e_ad G l0), .int l1, .int l2])).length) Slot.unset).toArray = ls at hl ⊢
  have hl : lv_has ls 6 [(0, .ref (e_ad G l0)), (1, .int l1), (2, .int l2)] := hl
  obtain ⟨hx, hb, hr, hml, hown, hts, hlocks, hES, hbs⟩ := id E
  unfold fX3_sumOnLine at hM
  obtain ⟨fs_, hk_, hM⟩ := e_bs hM
  refine lv_lconst (v := 0) hx hb dX3_sumOnLine_0 (by decide) ?_
  refine lv_lstore_n (lv' := [(3, .long (0 : Int64)), (0, .ref (e_ad G l0)), (1, .int l1), (2, .int l2)]) hx hb dX3_sumOnLine_1 rfl hl (by decide) rfl (fun ls hl => ?_)
  refine lv_iconst (v := nI 4) hx hb dX3_sumOnLine_2 (by decide) ?_
  refine lv_istore (lv' := [(5, .int (nI 4)), (3, .long (0 : Int64)), (0, .ref (e_ad G l0)), (1, .int l1), (2, .int l2)]) hx hb dX3_sumOnLine_3 hl (by decide) rfl (fun ls hl => ?_)
  exact mX3_sumOnLine_L5 E h 200 l0 l1 l2 (0 : Int64) (nI 4) hM J (lv_sub hl [2, 3, 4, 1, 0] rfl)
set_option maxRecDepth 100000 in
set_option maxHeartbeats 4000000 in
theorem mX6_slopeBits_b49 {p : Program} {l : Launch} {e : Env} {s : State} {m : MethodId} {args : Array Value} {below : List Frame} {meth : Method} {c : Code} {G : e_G} {res : (Int32 × e_H)} {k6 : Nat → Nat → Int32 → Int32 → Int32 → e_H → Option (Int32 × e_H)} (E : e_M G p s args m meth c cX6_slopeBits 5 (some FieldType.int) RX6) (K6 : ∀ (l0 : Nat) (l1 : Nat) (l2 : Int32) (l3 : Int32) (l4 : Int32) (h : e_H), k6 l0 l1 l2 l3 l4 h = some res → ∀ (H : Heap) (locs : List Loc), e_J G s h H locs → ∀ (ls : Array Slot), lv_has ls 5 [(0, .ref (e_ad G l0)), (1, .ref (e_ad G l1)), (2, .int l2), (3, .int l3), (4, .int l4)] → W p l e (e_rm 3 75) s m args below meth c H locs 0 0 (MQ below (e_Q G res.2 (some (.int res.1))) args s 0 0 (e_A G)) (F0 m 6 ls [])) (l0 : Nat) (l1 : Nat) (l2 : Int32) (l3 : Int32) (l4 : Int32) (h : e_H) (hM : fX6_slopeBits_b49 k6 l0 l1 l2 l3 l4 h = some res) {H : Heap} {locs : List Loc} (J : e_J G s h H locs) {ls : Array Slot} (hl : lv_has ls 5 [(0, .ref (e_ad G l0)), (1, .ref (e_ad G l1)), (2, .int l2), (3, .int l3), (4, .int l4)]) : W p l e (e_rm 3 75) s m args below meth c H locs 0 0 (MQ below (e_Q G res.2 (some (.int res.1))) args s 0 0 (e_A G)) (F0 m 49 ls []) := by
  obtain ⟨hx, hb, hr, hml, hown, hts, hlocks, hES, hbs⟩ := id E
  unfold fX6_slopeBits_b49 at hM
  refine lv_iinc (v := (l4 + (nI 1))) (lv' := [(4, .int (l4 + (nI 1))), (0, .ref (e_ad G l0)), (1, .ref (e_ad G l1)), (2, .int l2), (3, .int l3)]) hx hb dX6_slopeBits_49 hl (k := 4) rfl rfl (by decide) rfl (fun ls hl => ?_)
  refine lv_goto (tgt := 6) hx hb dX6_slopeBits_52 (by decide) ?_
  exact K6 l0 l1 l2 l3 (l4 + (nI 1)) h hM _ _ J _ (lv_sub hl [1, 2, 3, 4, 0] rfl)
set_option maxRecDepth 100000 in
set_option maxHeartbeats 4000000 in
theorem mX6_slopeBits_b6 {p : Program} {l : Launch} {e : Env} {s : State} {m : MethodId} {args : Array Value} {below : List Frame} {meth : Method} {c : Code} {G : e_G} {res : (Int32 × e_H)} {k6 : Nat → Nat → Int32 → Int32 → Int32 → e_H → Option (Int32 × e_H)} (E : e_M G p s args m meth c cX6_slopeBits 5 (some FieldType.int) RX6) (K6 : ∀ (l0 : Nat) (l1 : Nat) (l2 : Int32) (l3 : Int32) (l4 : Int32) (h : e_H), k6 l0 l1 l2 l3 l4 h = some res → ∀ (H : Heap) (locs : List Loc), e_J G s h H locs → ∀ (ls : Array Slot), lv_has ls 5 [(0, .ref (e_ad G l0)), (1, .ref (e_ad G l1)), (2, .int l2), (3, .int l3), (4, .int l4)] → W p l e (e_rm 3 75) s m args below meth c H locs 0 0 (MQ below (e_Q G res.2 (some (.int res.1))) args s 0 0 (e_A G)) (F0 m 6 ls [])) (l0 : Nat) (l1 : Nat) (l2 : Int32) (l3 : Int32) (l4 : Int32) (h : e_H) (hM : fX6_slopeBits_b6 k6 l0 l1 l2 l3 l4 h = some res) {H : Heap} {locs : List Loc} (J : e_J G s h H locs) {ls : Array Slot} (hl : lv_has ls 5 [(0, .ref (e_ad G l0)), (1, .ref (e_ad G l1)), (2, .int l2), (3, .int l3), (4, .int l4)]) : W p l e (e_rm 3 75) s m args below meth c H locs 0 0 (MQ below (e_Q G res.2 (some (.int res.1))) args s 0 0 (e_A G)) (F0 m 6 ls []) := by
  obtain ⟨hx, hb, hr, hml, hown, hts, hlocks, hES, hbs⟩ := id E
  unfold fX6_slopeBits_b6 at hM
  refine lv_iload hx hb dX6_slopeBits_6 (lv_at hl 4 rfl) ?_
  refine lv_iconst (v := nI 5) hx hb dX6_slopeBits_8 (by decide) ?_
  refine lv_icmp_gt (tgt := 55) hx hb dX6_slopeBits_9 (by decide) (fun hc => ?_) (fun hc => ?_)
  · have hM := e_ip hc hM
    refine lv_iload_n hx hb dX6_slopeBits_55 rfl (lv_at hl 3 rfl) ?_
    obtain rfl := e_so hM
    exact e_iret E J dX6_slopeBits_56
  · have hM := e_in hc hM
    refine lv_aload_n hx hb dX6_slopeBits_12 rfl (lv_at hl 1 rfl) ?_
    refine lv_iload_n hx hb dX6_slopeBits_13 rfl (lv_at hl 2 rfl) ?_
    refine lv_iload hx hb dX6_slopeBits_14 (lv_at hl 4 rfl) ?_
    obtain ⟨v1, hv, hM⟩ := e_bs hM
    obtain ⟨fs_, hk, -⟩ := e_bs hv
    refine e_callV (ci := 3) (As := [.int l2, .int l4]) (rest := []) (n := 2) E J hk rfl (mX3_sumOnLine (l := l) (G := G) l1 l2 l4 h _ hv) q_2_225 q_2_226 q_2_227 q_1_5 q_2_228 (by decide +kernel) rfl ⟨Nat.le_of_ble_eq_true rfl, Nat.le_of_ble_eq_true rfl⟩ (st0 := [.int l4, .int l2, .ref (e_ad G l1)]) (st1 := [.long v1]) rfl rfl hl.1 (Nat.le_of_ble_eq_true rfl) dX6_slopeBits_16 ⟨Nat.le_refl _, Nat.le_refl _⟩ (fun H locs J => ?_)
    refine lv_lconst (v := 0) hx hb dX6_slopeBits_19 (by decide) ?_
    refine W.lcmp hx hb dX6_slopeBits_20 ?_
    refine lv_if_ne (tgt := 49) hx hb dX6_slopeBits_21 (by decide) (fun hc => ?_) (fun hc => ?_)
    · have hM := e_in hc hM
      exact mX6_slopeBits_b49 E K6 l0 l1 l2 l3 l4 h hM J (lv_sub hl [0, 1, 2, 3, 4] rfl)
    · have hM := e_ip hc hM
      refine lv_aload_n hx hb dX6_slopeBits_24 rfl (lv_at hl 0 rfl) ?_
      obtain ⟨v2, hv, hM⟩ := e_bs hM
      refine e_getR (C := RX6) (T := TX6) (N := 9) E J hv rfl inX6 (by decide) q_1_97 dX6_slopeBits_25 ?_
      rcases v2 with _ | a3
      · have hM := e_on0 hM
        refine W.eq (g2 := F0 m 28 ls [.null]) rfl ?_
        refine lv_iconst (v := nI 1) hx hb dX6_slopeBits_28 (by decide) ?_
        refine lv_iload hx hb dX6_slopeBits_29 (lv_at hl 4 rfl) ?_
        refine lv_iload_n hx hb dX6_slopeBits_31 rfl (lv_at hl 2 rfl) ?_
        refine lv_iconst (v := nI 0) hx hb dX6_slopeBits_32 (by decide) ?_
        refine lv_iconst (v := nI 1) hx hb dX6_slopeBits_33 (by decide) ?_
        exact e_no hM
      · have hM := e_on1 hM
        refine W.eq (g2 := F0 m 28 ls [.ref (e_ad G a3)]) rfl ?_
        refine lv_iconst (v := nI 1) hx hb dX6_slopeBits_28 (by decide) ?_
        refine lv_iload hx hb dX6_slopeBits_29 (lv_at hl 4 rfl) ?_
        refine lv_iload_n hx hb dX6_slopeBits_31 rfl (lv_at hl 2 rfl) ?_
        refine lv_iconst (v := nI 0) hx hb dX6_slopeBits_32 (by decide) ?_
        refine lv_iconst (v := nI 1) hx hb dX6_slopeBits_33 (by decide) ?_
        obtain ⟨p4, hv, hM⟩ := e_bs hM
        obtain ⟨fs_, hk, -⟩ := e_bs hv
        refine e_callV (ci := 7) (As := [.int (nI 1), .int l4, .int l2, .int (nI 0), .int (nI 1)]) (rest := []) (n := 5) E J hk rfl (mX7_lawGives (l := l) (G := G) a3 (nI 1) l4 l2 (nI 0) (nI 1) h _ hv) q_2_229 q_2_54 q_2_55 q_1_2 q_2_56 (by decide +kernel) rfl ⟨Nat.le_of_ble_eq_true rfl, Nat.le_of_ble_eq_true rfl⟩ (st0 := [.int (nI 1), .int (nI 0), .int l2, .int l4, .int (nI 1), .ref (e_ad G a3)]) (st1 := [.int p4.1]) rfl rfl hl.1 (Nat.le_of_ble_eq_true rfl) dX6_slopeBits_34 ⟨Nat.le_refl _, Nat.le_refl _⟩ (fun H locs J => ?_)
        refine lv_if_eq (tgt := 49) hx hb dX6_slopeBits_37 (by decide) (fun hc => ?_) (fun hc => ?_)
        · have hM := e_ip hc hM
          exact mX6_slopeBits_b49 E K6 l0 l1 l2 l3 l4 p4.2 hM J (lv_sub hl [0, 1, 2, 3, 4] rfl)
        · have hM := e_in hc hM
          refine lv_iload_n hx hb dX6_slopeBits_40 rfl (lv_at hl 3 rfl) ?_
          refine lv_iconst (v := nI 1) hx hb dX6_slopeBits_41 (by decide) ?_
          refine lv_iload hx hb dX6_slopeBits_42 (lv_at hl 4 rfl) ?_
          refine lv_iconst (v := nI 5) hx hb dX6_slopeBits_44 (by decide) ?_
          refine lv_iadd hx hb dX6_slopeBits_45 ?_
          refine lv_ishl hx hb dX6_slopeBits_46 ?_
          refine lv_ior hx hb dX6_slopeBits_47 ?_
          refine lv_istore_n (lv' := [(3, .int (l3 ||| ((nI 1) <<< ((l4 + (nI 5)) &&& 31)))), (0, .ref (e_ad G l0)), (1, .ref (e_ad G l1)), (2, .int l2), (4, .int l4)]) hx hb dX6_slopeBits_48 rfl hl (by decide) rfl (fun ls hl => ?_)
          exact mX6_slopeBits_b49 E K6 l0 l1 l2 (l3 ||| ((nI 1) <<< ((l4 + (nI 5)) &&& 31))) l4 p4.2 hM J (lv_sub hl [1, 2, 3, 0, 4] rfl)
set_option maxRecDepth 100000 in
set_option maxHeartbeats 4000000 in
theorem mX6_slopeBits_L6 {p : Program} {l : Launch} {e : Env} {s : State} {m : MethodId} {args : Array Value} {below : List Frame} {meth : Method} {c : Code} {G : e_G} {res : (Int32 × e_H)} (E : e_M G p s args m meth c cX6_slopeBits 5 (some FieldType.int) RX6) (n : Nat) (l0 : Nat) (l1 : Nat) (l2 : Int32) (l3 : Int32) (l4 : Int32) (h : e_H) (hM : fX6_slopeBits_L6 n l0 l1 l2 l3 l4 h = some res) {H : Heap} {locs : List Loc} (J : e_J G s h H locs) {ls : Array Slot} (hl : lv_has ls 5 [(0, .ref (e_ad G l0)), (1, .ref (e_ad G l1)), (2, .int l2), (3, .int l3), (4, .int l4)]) : W p l e (e_rm 3 75) s m args below meth c H locs 0 0 (MQ below (e_Q G res.2 (some (.int res.1))) args s 0 0 (e_A G)) (F0 m 6 ls []) := by
  induction n generalizing l0 l1 l2 l3 l4 h H locs ls with
  | zero => exact e_no hM
  | succ n ih => exact mX6_slopeBits_b6 (k6 := (fX6_slopeBits_L6 n)) E   (fun l0 l1 l2 l3 l4 h hM H locs J ls hl => ih l0 l1 l2 l3 l4 h hM J hl) l0 l1 l2 l3 l4 h hM J hl
set_option maxRecDepth 100000 in
set_option maxHeartbeats 4000000 in
theorem mX6_slopeBits {l : Launch} {G : e_G} (l0 : Nat) (l1 : Nat) (l2 : Int32) (h : e_H) (res : (Int32 × e_H)) (hM : fX6_slopeBits l0 l1 l2 h = some res) : Met l yX6_slopeBits (e_W yX6_slopeBits cX6_slopeBits 5 (some FieldType.int)) (e_rm 3 75) (e_Pc G h [.ref (e_ad G l0), .ref (e_ad G l1), .int l2]) (e_Q G res.2 (some (.int res.1))) 0 0 (e_A G) := by
  refine Met.ofW (cc := cX6_slopeBits) (maxL := 5) (ret := (some FieldType.int)) (by decide) rfl ?_
  intro p e s m args below meth c s₁ B hml hv
  obtain ⟨rfl, hS, hP⟩ := hv
  have E := e_enter (own := RX6) (ret := (some FieldType.int)) B hml rfl hS hP
  have J : e_J G s h s.heap [] := ⟨hP, va_S.rf⟩
  have hl := lv_entry ([.ref (e_ad G l0), .ref (e_ad G l1), .int l2]) (n := 5) (Nat.le_of_ble_eq_true rfl)
  rw [lg_entry_eq]
  generalize (lg_sl ([.ref (e_ad G l0), .ref (e_ad G l1), .int l2]) ++ List.replicate (5 - (lg_sl ([.ref (e_ad G l0), .ref (e_ad G l1), .int l2])).length) Slot.unset).toArray = ls at hl ⊢
  have hl : lv_has ls 5 [(0, .ref (e_ad G l0)), (1, .ref (e_ad G l1)), (2, .int l2)] := hl
  obtain ⟨hx, hb, hr, hml, hown, hts, hlocks, hES, hbs⟩ := id E
  unfold fX6_slopeBits at hM
  obtain ⟨fs_, hk_, hM⟩ := e_bs hM
  refine lv_iconst (v := nI 0) hx hb dX6_slopeBits_0 (by decide) ?_
  refine lv_istore_n (lv' := [(3, .int (nI 0)), (0, .ref (e_ad G l0)), (1, .ref (e_ad G l1)), (2, .int l2)]) hx hb dX6_slopeBits_1 rfl hl (by decide) rfl (fun ls hl => ?_)
  refine lv_bipush (v := -5) hx hb dX6_slopeBits_2 (by decide) ?_
  refine lv_istore (lv' := [(4, .int (-5 : Int32)), (3, .int (nI 0)), (0, .ref (e_ad G l0)), (1, .ref (e_ad G l1)), (2, .int l2)]) hx hb dX6_slopeBits_4 hl (by decide) rfl (fun ls hl => ?_)
  exact mX6_slopeBits_L6 E 200 l0 l1 l2 (nI 0) (-5 : Int32) h hM J (lv_sub hl [2, 3, 4, 1, 0] rfl)
set_option maxRecDepth 100000 in
set_option maxHeartbeats 4000000 in
theorem mX8_slopes {l : Launch} {G : e_G} (l0 : Nat) (l1 : Int32) (l2 : Int32) (h : e_H) (res : (Int32 × e_H)) (hM : fX8_slopes l0 l1 l2 h = some res) : Met l yX8_slopes (e_W yX8_slopes cX8_slopes 5 (some FieldType.int)) (e_rm 6 147) (e_Pc G h [.ref (e_ad G l0), .int l1, .int l2]) (e_Q G res.2 (some (.int res.1))) 0 0 (e_A G) := by
  refine Met.ofW (cc := cX8_slopes) (maxL := 5) (ret := (some FieldType.int)) (by decide) rfl ?_
  intro p e s m args below meth c s₁ B hml hv
  obtain ⟨rfl, hS, hP⟩ := hv
  have E := e_enter (own := RX8) (ret := (some FieldType.int)) B hml rfl hS hP
  have J : e_J G s h s.heap [] := ⟨hP, va_S.rf⟩
  have hl := lv_entry ([.ref (e_ad G l0), .int l1, .int l2]) (n := 5) (Nat.le_of_ble_eq_true rfl)
  rw [lg_entry_eq]
  generalize (lg_sl ([.ref (e_ad G l0), .int l1, .int l2]) ++ List.replicate (5 - (lg_sl ([.ref (e_ad G l0), .int l1, .int l2])).length) Slot.unset).toArray = ls at hl ⊢
  have hl : lv_has ls 5 [(0, .ref (e_ad G l0)), (1, .int l1), (2, .int l2)] := hl
  obtain ⟨hx, hb, hr, hml, hown, hts, hlocks, hES, hbs⟩ := id E
  unfold fX8_slopes at hM
  obtain ⟨fs_, hk_, hM⟩ := e_bs hM
  refine lv_aload_n hx hb dX8_slopes_0 rfl (lv_at hl 0 rfl) ?_
  refine lv_iload_n hx hb dX8_slopes_1 rfl (lv_at hl 1 rfl) ?_
  refine lv_iload_n hx hb dX8_slopes_2 rfl (lv_at hl 2 rfl) ?_
  obtain ⟨p1, hv, hM⟩ := e_bs hM
  obtain ⟨fs_, hk, -⟩ := e_bs hv
  refine e_callV (ci := 8) (As := [.int l1, .int l2]) (rest := []) (n := 2) E J hk rfl (mX8_shapeAt (l := l) (G := G) l0 l1 l2 h _ hv) q_2_161 q_2_163 q_p_2 q_1_1 q_2_164 (by decide +kernel) rfl ⟨Nat.le_of_ble_eq_true rfl, Nat.le_of_ble_eq_true rfl⟩ (st0 := [.int l2, .int l1, .ref (e_ad G l0)]) (st1 := [e_r G p1.1]) rfl rfl hl.1 (Nat.le_of_ble_eq_true rfl) dX8_slopes_3 ⟨Nat.le_refl _, Nat.le_refl _⟩ (fun H locs J => ?_)
  obtain ⟨r2, hr2⟩ := p1
  rcases r2 with _ | a3
  · have hM := e_on0 hM
    refine W.eq (g2 := F0 m 6 ls [.null]) rfl ?_
    refine lv_astore_nN (lv' := [(3, .null), (0, .ref (e_ad G l0)), (1, .int l1), (2, .int l2)]) hx hb dX8_slopes_6 rfl hl (by decide) rfl (fun ls hl => ?_)
    refine lv_aload_nN hx hb dX8_slopes_7 rfl (lv_at hl 0 rfl) ?_
    refine lv_ifnonnullN hx hb dX8_slopes_8 ?_
    refine lv_ldc (v := -1000000001) hx hb hown (hts _ q_1_237) dX8_slopes_11 ?_
    obtain rfl := e_so hM
    exact e_iret E J dX8_slopes_13
  · have hM := e_on1 hM
    refine W.eq (g2 := F0 m 6 ls [.ref (e_ad G a3)]) rfl ?_
    refine lv_astore_n (lv' := [(3, .ref (e_ad G a3)), (0, .ref (e_ad G l0)), (1, .int l1), (2, .int l2)]) hx hb dX8_slopes_6 rfl hl (by decide) rfl (fun ls hl => ?_)
    refine lv_aload_n hx hb dX8_slopes_7 rfl (lv_at hl 0 rfl) ?_
    refine lv_ifnonnull (tgt := 14) hx hb dX8_slopes_8 (by decide) ?_
    refine lv_aload_n hx hb dX8_slopes_14 rfl (lv_at hl 0 rfl) ?_
    obtain ⟨v4, hv, hM⟩ := e_bs hM
    obtain ⟨fs_, hk, -⟩ := e_bs hv
    refine e_callV (ci := 3) (As := []) (rest := []) (n := 0) E J hk rfl (mX3_least (l := l) (G := G) a3 hr2 _ hv) q_2_193 q_2_194 q_2_195 q_1_5 q_2_196 (by decide +kernel) rfl ⟨Nat.le_of_ble_eq_true rfl, Nat.le_of_ble_eq_true rfl⟩ (st0 := [.ref (e_ad G a3)]) (st1 := [.int v4]) rfl rfl hl.1 (Nat.le_of_ble_eq_true rfl) dX8_slopes_15 ⟨Nat.le_refl _, Nat.le_refl _⟩ (fun H locs J => ?_)
    refine lv_istore (lv' := [(4, .int v4), (3, .ref (e_ad G a3)), (0, .ref (e_ad G l0)), (1, .int l1), (2, .int l2)]) hx hb dX8_slopes_18 hl (by decide) rfl (fun ls hl => ?_)
    refine lv_iload hx hb dX8_slopes_20 (lv_at hl 0 rfl) ?_
    obtain ⟨v5, hv, hM⟩ := e_bs hM
    refine e_callS (As := [.int v4]) (rest := []) (n := 1) E J (mX3_branches (l := l) (G := G) v4 hr2 _ hv) q_2_209 q_2_210 q_1_5 q_2_211 (by decide +kernel) rfl ⟨Nat.le_of_ble_eq_true rfl, Nat.le_of_ble_eq_true rfl⟩ (st0 := [.int v4]) (st1 := [.int (e_b v5)]) rfl rfl hl.1 (Nat.le_of_ble_eq_true rfl) dX8_slopes_22 ⟨Nat.le_refl _, Nat.le_refl _⟩ (fun H locs J => ?_)
    refine lv_if_eq (tgt := 41) hx hb dX8_slopes_25 (by decide) (fun hc => ?_) (fun hc => ?_)
    · have hM := e_ip hc hM
      refine lv_ldc (v := -1000000002) hx hb hown (hts _ q_2_230) dX8_slopes_41 ?_
      obtain rfl := e_so hM
      exact e_iret E J dX8_slopes_43
    · have hM := e_in hc hM
      refine lv_aload_n hx hb dX8_slopes_28 rfl (lv_at hl 2 rfl) ?_
      obtain ⟨v6, hv, hM⟩ := e_bs hM
      refine e_getR (C := RX8) (T := TX8) (N := 10) E J hv rfl inX8 (by decide) q_1_201 dX8_slopes_29 ?_
      rcases v6 with _ | a7
      · have hM := e_on0 hM
        refine W.eq (g2 := F0 m 32 ls [.null]) rfl ?_
        refine lv_aload_n hx hb dX8_slopes_32 rfl (lv_at hl 1 rfl) ?_
        refine lv_iload hx hb dX8_slopes_33 (lv_at hl 0 rfl) ?_
        exact e_no hM
      · have hM := e_on1 hM
        refine W.eq (g2 := F0 m 32 ls [.ref (e_ad G a7)]) rfl ?_
        refine lv_aload_n hx hb dX8_slopes_32 rfl (lv_at hl 1 rfl) ?_
        refine lv_iload hx hb dX8_slopes_33 (lv_at hl 0 rfl) ?_
        obtain ⟨p8, hv, hM⟩ := e_bs hM
        obtain ⟨fs_, hk, -⟩ := e_bs hv
        refine e_callV (ci := 6) (As := [.ref (e_ad G a3), .int v4]) (rest := []) (n := 2) E J hk rfl (mX6_slopeBits (l := l) (G := G) a7 a3 v4 hr2 _ hv) q_2_221 q_2_222 q_2_223 q_1_4 q_2_224 (by decide +kernel) rfl ⟨Nat.le_of_ble_eq_true rfl, Nat.le_of_ble_eq_true rfl⟩ (st0 := [.int v4, .ref (e_ad G a3), .ref (e_ad G a7)]) (st1 := [.int p8.1]) rfl rfl hl.1 (Nat.le_of_ble_eq_true rfl) dX8_slopes_35 ⟨Nat.le_refl _, Nat.le_refl _⟩ (fun H locs J => ?_)
        refine lv_goto (tgt := 43) hx hb dX8_slopes_38 (by decide) ?_
        obtain rfl := e_so hM
        exact e_iret E J dX8_slopes_43
set_option maxRecDepth 100000 in
set_option maxHeartbeats 4000000 in
theorem mX8_isSlope {l : Launch} {G : e_G} (l0 : Int32) (h : e_H) (res : Bool) (hM : fX8_isSlope l0 = some res) : Met l yX8_isSlope (e_W yX8_isSlope cX8_isSlope 1 (some FieldType.boolean)) (e_rm 0 0) (e_Pc G h [.int l0]) (e_Q G h (some (.int (e_b res)))) 0 0 (e_A G) := by
  refine Met.ofW (cc := cX8_isSlope) (maxL := 1) (ret := (some FieldType.boolean)) (by decide) rfl ?_
  intro p e s m args below meth c s₁ B hml hv
  obtain ⟨rfl, hS, hP⟩ := hv
  have E := e_enter (own := RX8) (ret := (some FieldType.boolean)) B hml rfl hS hP
  have J : e_J G s h s.heap [] := ⟨hP, va_S.rf⟩
  have hl := lv_entry ([.int l0]) (n := 1) (Nat.le_of_ble_eq_true rfl)
  rw [lg_entry_eq]
  generalize (lg_sl ([.int l0]) ++ List.replicate (1 - (lg_sl ([.int l0])).length) Slot.unset).toArray = ls at hl ⊢
  have hl : lv_has ls 1 [(0, .int l0)] := hl
  obtain ⟨hx, hb, hr, hml, hown, hts, hlocks, hES, hbs⟩ := id E
  unfold fX8_isSlope at hM
  refine lv_iload_n hx hb dX8_isSlope_0 rfl (lv_at hl 0 rfl) ?_
  refine lv_bipush (v := -5) hx hb dX8_isSlope_1 (by decide) ?_
  refine lv_icmp_lt (tgt := 15) hx hb dX8_isSlope_3 (by decide) (fun hc => ?_) (fun hc => ?_)
  · have hM := e_ip hc hM
    refine lv_iconst (v := nI 0) hx hb dX8_isSlope_15 (by decide) ?_
    obtain rfl := e_so hM
    exact e_zret E J (false) rfl dX8_isSlope_16
  · have hM := e_in hc hM
    refine lv_iload_n hx hb dX8_isSlope_6 rfl (lv_at hl 0 rfl) ?_
    refine lv_iconst (v := nI 5) hx hb dX8_isSlope_7 (by decide) ?_
    refine lv_icmp_gt (tgt := 15) hx hb dX8_isSlope_8 (by decide) (fun hc => ?_) (fun hc => ?_)
    · have hM := e_ip hc hM
      refine lv_iconst (v := nI 0) hx hb dX8_isSlope_15 (by decide) ?_
      obtain rfl := e_so hM
      exact e_zret E J (false) rfl dX8_isSlope_16
    · have hM := e_in hc hM
      refine lv_iconst (v := nI 1) hx hb dX8_isSlope_11 (by decide) ?_
      refine lv_goto (tgt := 16) hx hb dX8_isSlope_12 (by decide) ?_
      obtain rfl := e_so hM
      exact e_zret E J (true) rfl dX8_isSlope_16
set_option maxRecDepth 100000 in
set_option maxHeartbeats 4000000 in
theorem mX6_partBy_b55 {p : Program} {l : Launch} {e : Env} {s : State} {m : MethodId} {args : Array Value} {below : List Frame} {meth : Method} {c : Code} {G : e_G} {res : (Bool × e_H)} {k55 : Nat → Int32 → Int64 → Int32 → e_H → Option (Bool × e_H)} (E : e_M G p s args m meth c cX6_partBy 9 (some FieldType.boolean) RX6) (K55 : ∀ (l0 : Nat) (l1 : Int32) (l4 : Int64) (l6 : Int32) (h : e_H), k55 l0 l1 l4 l6 h = some res → ∀ (H : Heap) (locs : List Loc), e_J G s h H locs → ∀ (ls : Array Slot), lv_has ls 9 [(0, .ref (e_ad G l0)), (1, .int l1), (4, .long l4), (6, .int l6)] → W p l e (e_rm 0 0) s m args below meth c H locs 0 0 (MQ below (e_Q G res.2 (some (.int (e_b res.1)))) args s 0 0 (e_A G)) (F0 m 55 ls [])) (l0 : Nat) (l1 : Int32) (l4 : Int64) (l6 : Int32) (h : e_H) (hM : fX6_partBy_b55 k55 l0 l1 l4 l6 h = some res) {H : Heap} {locs : List Loc} (J : e_J G s h H locs) {ls : Array Slot} (hl : lv_has ls 9 [(0, .ref (e_ad G l0)), (1, .int l1), (4, .long l4), (6, .int l6)]) : W p l e (e_rm 0 0) s m args below meth c H locs 0 0 (MQ below (e_Q G res.2 (some (.int (e_b res.1)))) args s 0 0 (e_A G)) (F0 m 55 ls []) := by
  obtain ⟨hx, hb, hr, hml, hown, hts, hlocks, hES, hbs⟩ := id E
  unfold fX6_partBy_b55 at hM
  refine lv_iload hx hb dX6_partBy_55 (lv_at hl 3 rfl) ?_
  refine lv_if_lt (tgt := 94) hx hb dX6_partBy_57 (by decide) (fun hc => ?_) (fun hc => ?_)
  · have hM := e_ip hc hM
    refine lv_iconst (v := nI 1) hx hb dX6_partBy_94 (by decide) ?_
    obtain rfl := e_so hM
    exact e_zret E J (true) rfl dX6_partBy_95
  · have hM := e_in hc hM
    refine lv_aload_n hx hb dX6_partBy_60 rfl (lv_at hl 0 rfl) ?_
    obtain ⟨v1, hv, hM⟩ := e_bs hM
    refine e_getR (C := RX6) (T := TX6) (N := 9) E J hv rfl inX6 (by decide) q_1_102 dX6_partBy_61 ?_
    rcases v1 with _ | a2
    · have hM := e_on0 hM
      refine W.eq (g2 := F0 m 64 ls [.null]) rfl ?_
      refine lv_iload hx hb dX6_partBy_64 (lv_at hl 3 rfl) ?_
      exact e_no hM
    · have hM := e_on1 hM
      refine W.eq (g2 := F0 m 64 ls [.ref (e_ad G a2)]) rfl ?_
      refine lv_iload hx hb dX6_partBy_64 (lv_at hl 3 rfl) ?_
      obtain ⟨v4, hv, hM⟩ := e_bs hM
      refine e_lald E J hv dX6_partBy_66 ?_
      refine lv_lstore (lv' := [(7, .long v4), (0, .ref (e_ad G l0)), (1, .int l1), (4, .long l4), (6, .int l6)]) hx hb dX6_partBy_67 hl (by decide) rfl (fun ls hl => ?_)
      refine lv_aload_n hx hb dX6_partBy_69 rfl (lv_at hl 1 rfl) ?_
      obtain ⟨v5, hv, hM⟩ := e_bs hM
      refine e_getR (C := RX6) (T := TX6) (N := 9) E J hv rfl inX6 (by decide) q_1_102 dX6_partBy_70 ?_
      rcases v5 with _ | a6
      · have hM := e_on0 hM
        refine W.eq (g2 := F0 m 73 ls [.null]) rfl ?_
        refine lv_iload hx hb dX6_partBy_73 (lv_at hl 4 rfl) ?_
        refine lv_lload hx hb dX6_partBy_75 (lv_at hl 3 rfl) ?_
        exact e_no hM
      · have hM := e_on1 hM
        refine W.eq (g2 := F0 m 73 ls [.ref (e_ad G a6)]) rfl ?_
        refine lv_iload hx hb dX6_partBy_73 (lv_at hl 4 rfl) ?_
        refine lv_lload hx hb dX6_partBy_75 (lv_at hl 3 rfl) ?_
        obtain ⟨h8, hv, hM⟩ := e_bs hM
        refine e_last E J hv dX6_partBy_77 (fun H locs J => ?_)
        refine lv_lload hx hb dX6_partBy_78 (lv_at hl 3 rfl) ?_
        refine lv_iload_n hx hb dX6_partBy_80 rfl (lv_at hl 2 rfl) ?_
        refine lv_i2l hx hb dX6_partBy_81 rfl ?_
        refine lv_lmul hx hb dX6_partBy_82 ?_
        refine lv_lload hx hb dX6_partBy_83 (lv_at hl 0 rfl) ?_
        refine lv_ladd hx hb dX6_partBy_85 ?_
        refine lv_lstore (lv' := [(4, .long ((l4 * (l1).toInt64) + v4)), (7, .long v4), (0, .ref (e_ad G l0)), (1, .int l1), (6, .int l6)]) hx hb dX6_partBy_86 hl (by decide) rfl (fun ls hl => ?_)
        refine lv_iinc (v := (l6 + (-1 : Int32))) (lv' := [(6, .int (l6 + (-1 : Int32))), (4, .long ((l4 * (l1).toInt64) + v4)), (7, .long v4), (0, .ref (e_ad G l0)), (1, .int l1)]) hx hb dX6_partBy_88 hl (k := 4) rfl rfl (by decide) rfl (fun ls hl => ?_)
        refine lv_goto (tgt := 55) hx hb dX6_partBy_91 (by decide) ?_
        exact K55 l0 l1 ((l4 * (l1).toInt64) + v4) (l6 + (-1 : Int32)) h8 hM _ _ J _ (lv_sub hl [3, 4, 1, 0] rfl)
set_option maxRecDepth 100000 in
set_option maxHeartbeats 4000000 in
theorem mX6_partBy_L55 {p : Program} {l : Launch} {e : Env} {s : State} {m : MethodId} {args : Array Value} {below : List Frame} {meth : Method} {c : Code} {G : e_G} {res : (Bool × e_H)} (E : e_M G p s args m meth c cX6_partBy 9 (some FieldType.boolean) RX6) (n : Nat) (l0 : Nat) (l1 : Int32) (l4 : Int64) (l6 : Int32) (h : e_H) (hM : fX6_partBy_L55 n l0 l1 l4 l6 h = some res) {H : Heap} {locs : List Loc} (J : e_J G s h H locs) {ls : Array Slot} (hl : lv_has ls 9 [(0, .ref (e_ad G l0)), (1, .int l1), (4, .long l4), (6, .int l6)]) : W p l e (e_rm 0 0) s m args below meth c H locs 0 0 (MQ below (e_Q G res.2 (some (.int (e_b res.1)))) args s 0 0 (e_A G)) (F0 m 55 ls []) := by
  induction n generalizing l0 l1 l4 l6 h H locs ls with
  | zero => exact e_no hM
  | succ n ih => exact mX6_partBy_b55 (k55 := (fX6_partBy_L55 n)) E   (fun l0 l1 l4 l6 h hM H locs J ls hl => ih l0 l1 l4 l6 h hM J hl) l0 l1 l4 l6 h hM J hl
set_option maxRecDepth 100000 in
set_option maxHeartbeats 4000000 in
theorem mX6_partBy_b11 {p : Program} {l : Launch} {e : Env} {s : State} {m : MethodId} {args : Array Value} {below : List Frame} {meth : Method} {c : Code} {G : e_G} {res : (Bool × e_H)} {k11 : Nat → Int32 → Int64 → Int32 → e_H → Option (Bool × e_H)} (E : e_M G p s args m meth c cX6_partBy 9 (some FieldType.boolean) RX6) (K11 : ∀ (l0 : Nat) (l1 : Int32) (l2 : Int64) (l4 : Int32) (h : e_H), k11 l0 l1 l2 l4 h = some res → ∀ (H : Heap) (locs : List Loc), e_J G s h H locs → ∀ (ls : Array Slot), lv_has ls 9 [(0, .ref (e_ad G l0)), (1, .int l1), (2, .long l2), (4, .int l4)] → W p l e (e_rm 0 0) s m args below meth c H locs 0 0 (MQ below (e_Q G res.2 (some (.int (e_b res.1)))) args s 0 0 (e_A G)) (F0 m 11 ls [])) (l0 : Nat) (l1 : Int32) (l2 : Int64) (l4 : Int32) (h : e_H) (hM : fX6_partBy_b11 k11 l0 l1 l2 l4 h = some res) {H : Heap} {locs : List Loc} (J : e_J G s h H locs) {ls : Array Slot} (hl : lv_has ls 9 [(0, .ref (e_ad G l0)), (1, .int l1), (2, .long l2), (4, .int l4)]) : W p l e (e_rm 0 0) s m args below meth c H locs 0 0 (MQ below (e_Q G res.2 (some (.int (e_b res.1)))) args s 0 0 (e_A G)) (F0 m 11 ls []) := by
  obtain ⟨hx, hb, hr, hml, hown, hts, hlocks, hES, hbs⟩ := id E
  unfold fX6_partBy_b11 at hM
  refine lv_iload hx hb dX6_partBy_11 (lv_at hl 3 rfl) ?_
  refine lv_if_lt (tgt := 35) hx hb dX6_partBy_13 (by decide) (fun hc => ?_) (fun hc => ?_)
  · have hM := e_ip hc hM
    refine lv_lload_n hx hb dX6_partBy_35 rfl (lv_at hl 2 rfl) ?_
    refine lv_lconst (v := 0) hx hb dX6_partBy_36 (by decide) ?_
    refine W.lcmp hx hb dX6_partBy_37 ?_
    refine lv_if_eq (tgt := 43) hx hb dX6_partBy_38 (by decide) (fun hc => ?_) (fun hc => ?_)
    · have hM := e_ip hc hM
      refine lv_lconst (v := 0) hx hb dX6_partBy_43 (by decide) ?_
      refine lv_lstore (lv' := [(4, .long (0 : Int64)), (0, .ref (e_ad G l0)), (1, .int l1), (2, .long l2)]) hx hb dX6_partBy_44 hl (by decide) rfl (fun ls hl => ?_)
      refine lv_aload_n hx hb dX6_partBy_46 rfl (lv_at hl 1 rfl) ?_
      obtain ⟨v1, hv, hM⟩ := e_bs hM
      refine e_getR (C := RX6) (T := TX6) (N := 9) E J hv rfl inX6 (by decide) q_1_102 dX6_partBy_47 ?_
      rcases v1 with _ | a2
      · have hM := e_on0 hM
        refine W.eq (g2 := F0 m 50 ls [.null]) rfl ?_
        exact e_no hM
      · have hM := e_on1 hM
        refine W.eq (g2 := F0 m 50 ls [.ref (e_ad G a2)]) rfl ?_
        obtain ⟨v3, hv, hM⟩ := e_bs hM
        refine e_alen E J hv rfl rfl dX6_partBy_50 ?_
        refine lv_iconst (v := nI 1) hx hb dX6_partBy_51 (by decide) ?_
        refine lv_isub hx hb dX6_partBy_52 ?_
        refine lv_istore (lv' := [(6, .int (v3 - (nI 1))), (4, .long (0 : Int64)), (0, .ref (e_ad G l0)), (1, .int l1), (2, .long l2)]) hx hb dX6_partBy_53 hl (by decide) rfl (fun ls hl => ?_)
        exact mX6_partBy_L55 E 200 l0 l1 (0 : Int64) (v3 - (nI 1)) h hM J (lv_sub hl [2, 3, 1, 0] rfl)
    · have hM := e_in hc hM
      refine lv_iconst (v := nI 0) hx hb dX6_partBy_41 (by decide) ?_
      obtain rfl := e_so hM
      exact e_zret E J (false) rfl dX6_partBy_42
  · have hM := e_in hc hM
    refine lv_lload_n hx hb dX6_partBy_16 rfl (lv_at hl 2 rfl) ?_
    refine lv_iload_n hx hb dX6_partBy_17 rfl (lv_at hl 1 rfl) ?_
    refine lv_i2l hx hb dX6_partBy_18 rfl ?_
    refine lv_lmul hx hb dX6_partBy_19 ?_
    refine lv_aload_n hx hb dX6_partBy_20 rfl (lv_at hl 0 rfl) ?_
    obtain ⟨v4, hv, hM⟩ := e_bs hM
    refine e_getR (C := RX6) (T := TX6) (N := 9) E J hv rfl inX6 (by decide) q_1_102 dX6_partBy_21 ?_
    rcases v4 with _ | a5
    · have hM := e_on0 hM
      refine W.eq (g2 := F0 m 24 ls [.null, .long (l2 * (l1).toInt64)]) rfl ?_
      refine lv_iload hx hb dX6_partBy_24 (lv_at hl 3 rfl) ?_
      exact e_no hM
    · have hM := e_on1 hM
      refine W.eq (g2 := F0 m 24 ls [.ref (e_ad G a5), .long (l2 * (l1).toInt64)]) rfl ?_
      refine lv_iload hx hb dX6_partBy_24 (lv_at hl 3 rfl) ?_
      obtain ⟨v7, hv, hM⟩ := e_bs hM
      refine e_lald E J hv dX6_partBy_26 ?_
      refine lv_ladd hx hb dX6_partBy_27 ?_
      refine lv_lstore_n (lv' := [(2, .long ((l2 * (l1).toInt64) + v7)), (0, .ref (e_ad G l0)), (1, .int l1), (4, .int l4)]) hx hb dX6_partBy_28 rfl hl (by decide) rfl (fun ls hl => ?_)
      refine lv_iinc (v := (l4 + (-1 : Int32))) (lv' := [(4, .int (l4 + (-1 : Int32))), (2, .long ((l2 * (l1).toInt64) + v7)), (0, .ref (e_ad G l0)), (1, .int l1)]) hx hb dX6_partBy_29 hl (k := 3) rfl rfl (by decide) rfl (fun ls hl => ?_)
      refine lv_goto (tgt := 11) hx hb dX6_partBy_32 (by decide) ?_
      exact K11 l0 l1 ((l2 * (l1).toInt64) + v7) (l4 + (-1 : Int32)) h hM _ _ J _ (lv_sub hl [2, 3, 1, 0] rfl)
set_option maxRecDepth 100000 in
set_option maxHeartbeats 4000000 in
theorem mX6_partBy_L11 {p : Program} {l : Launch} {e : Env} {s : State} {m : MethodId} {args : Array Value} {below : List Frame} {meth : Method} {c : Code} {G : e_G} {res : (Bool × e_H)} (E : e_M G p s args m meth c cX6_partBy 9 (some FieldType.boolean) RX6) (n : Nat) (l0 : Nat) (l1 : Int32) (l2 : Int64) (l4 : Int32) (h : e_H) (hM : fX6_partBy_L11 n l0 l1 l2 l4 h = some res) {H : Heap} {locs : List Loc} (J : e_J G s h H locs) {ls : Array Slot} (hl : lv_has ls 9 [(0, .ref (e_ad G l0)), (1, .int l1), (2, .long l2), (4, .int l4)]) : W p l e (e_rm 0 0) s m args below meth c H locs 0 0 (MQ below (e_Q G res.2 (some (.int (e_b res.1)))) args s 0 0 (e_A G)) (F0 m 11 ls []) := by
  induction n generalizing l0 l1 l2 l4 h H locs ls with
  | zero => exact e_no hM
  | succ n ih => exact mX6_partBy_b11 (k11 := (fX6_partBy_L11 n)) E   (fun l0 l1 l2 l4 h hM H locs J ls hl => ih l0 l1 l2 l4 h hM J hl) l0 l1 l2 l4 h hM J hl
set_option maxRecDepth 100000 in
set_option maxHeartbeats 4000000 in
theorem mX6_partBy {l : Launch} {G : e_G} (l0 : Nat) (l1 : Int32) (h : e_H) (res : (Bool × e_H)) (hM : fX6_partBy l0 l1 h = some res) : Met l yX6_partBy (e_W yX6_partBy cX6_partBy 9 (some FieldType.boolean)) (e_rm 0 0) (e_Pc G h [.ref (e_ad G l0), .int l1]) (e_Q G res.2 (some (.int (e_b res.1)))) 0 0 (e_A G) := by
  refine Met.ofW (cc := cX6_partBy) (maxL := 9) (ret := (some FieldType.boolean)) (by decide) rfl ?_
  intro p e s m args below meth c s₁ B hml hv
  obtain ⟨rfl, hS, hP⟩ := hv
  have E := e_enter (own := RX6) (ret := (some FieldType.boolean)) B hml rfl hS hP
  have J : e_J G s h s.heap [] := ⟨hP, va_S.rf⟩
  have hl := lv_entry ([.ref (e_ad G l0), .int l1]) (n := 9) (Nat.le_of_ble_eq_true rfl)
  rw [lg_entry_eq]
  generalize (lg_sl ([.ref (e_ad G l0), .int l1]) ++ List.replicate (9 - (lg_sl ([.ref (e_ad G l0), .int l1])).length) Slot.unset).toArray = ls at hl ⊢
  have hl : lv_has ls 9 [(0, .ref (e_ad G l0)), (1, .int l1)] := hl
  obtain ⟨hx, hb, hr, hml, hown, hts, hlocks, hES, hbs⟩ := id E
  unfold fX6_partBy at hM
  obtain ⟨fs_, hk_, hM⟩ := e_bs hM
  refine lv_lconst (v := 0) hx hb dX6_partBy_0 (by decide) ?_
  refine lv_lstore_n (lv' := [(2, .long (0 : Int64)), (0, .ref (e_ad G l0)), (1, .int l1)]) hx hb dX6_partBy_1 rfl hl (by decide) rfl (fun ls hl => ?_)
  refine lv_aload_n hx hb dX6_partBy_2 rfl (lv_at hl 1 rfl) ?_
  obtain ⟨v1, hv, hM⟩ := e_bs hM
  refine e_getR (C := RX6) (T := TX6) (N := 9) E J hv rfl inX6 (by decide) q_1_102 dX6_partBy_3 ?_
  rcases v1 with _ | a2
  · have hM := e_on0 hM
    refine W.eq (g2 := F0 m 6 ls [.null]) rfl ?_
    exact e_no hM
  · have hM := e_on1 hM
    refine W.eq (g2 := F0 m 6 ls [.ref (e_ad G a2)]) rfl ?_
    obtain ⟨v3, hv, hM⟩ := e_bs hM
    refine e_alen E J hv rfl rfl dX6_partBy_6 ?_
    refine lv_iconst (v := nI 1) hx hb dX6_partBy_7 (by decide) ?_
    refine lv_isub hx hb dX6_partBy_8 ?_
    refine lv_istore (lv' := [(4, .int (v3 - (nI 1))), (2, .long (0 : Int64)), (0, .ref (e_ad G l0)), (1, .int l1)]) hx hb dX6_partBy_9 hl (by decide) rfl (fun ls hl => ?_)
    exact mX6_partBy_L11 E 200 l0 l1 (0 : Int64) (v3 - (nI 1)) h hM J (lv_sub hl [2, 3, 1, 0] rfl)
set_option maxRecDepth 100000 in
set_option maxHeartbeats 4000000 in
theorem mX6_oftenOf_b39 {p : Program} {l : Launch} {e : Env} {s : State} {m : MethodId} {args : Array Value} {below : List Frame} {meth : Method} {c : Code} {G : e_G} {res : (Int32 × e_H)} {k39 : Nat → Int32 → Int32 → Int32 → e_H → Option (Int32 × e_H)} (E : e_M G p s args m meth c cX6_oftenOf 6 (some FieldType.int) RX6) (K39 : ∀ (l0 : Nat) (l3 : Int32) (l4 : Int32) (l5 : Int32) (h : e_H), k39 l0 l3 l4 l5 h = some res → ∀ (H : Heap) (locs : List Loc), e_J G s h H locs → ∀ (ls : Array Slot), lv_has ls 6 [(0, .ref (e_ad G l0)), (3, .int l3), (4, .int l4), (5, .int l5)] → W p l e (e_rm 2 45) s m args below meth c H locs 0 0 (MQ below (e_Q G res.2 (some (.int res.1))) args s 0 0 (e_A G)) (F0 m 39 ls [])) (l0 : Nat) (l3 : Int32) (l4 : Int32) (l5 : Int32) (h : e_H) (hM : fX6_oftenOf_b39 k39 l0 l3 l4 l5 h = some res) {H : Heap} {locs : List Loc} (J : e_J G s h H locs) {ls : Array Slot} (hl : lv_has ls 6 [(0, .ref (e_ad G l0)), (3, .int l3), (4, .int l4), (5, .int l5)]) : W p l e (e_rm 2 45) s m args below meth c H locs 0 0 (MQ below (e_Q G res.2 (some (.int res.1))) args s 0 0 (e_A G)) (F0 m 39 ls []) := by
  obtain ⟨hx, hb, hr, hml, hown, hts, hlocks, hES, hbs⟩ := id E
  unfold fX6_oftenOf_b39 at hM
  refine lv_iload hx hb dX6_oftenOf_39 (lv_at hl 3 rfl) ?_
  refine lv_iconst (v := nI 4) hx hb dX6_oftenOf_41 (by decide) ?_
  refine lv_icmp_ge (tgt := 62) hx hb dX6_oftenOf_42 (by decide) (fun hc => ?_) (fun hc => ?_)
  · have hM := e_ip hc hM
    refine lv_iload hx hb dX6_oftenOf_62 (lv_at hl 2 rfl) ?_
    obtain rfl := e_so hM
    exact e_iret E J dX6_oftenOf_64
  · have hM := e_in hc hM
    refine lv_aload_n hx hb dX6_oftenOf_45 rfl (lv_at hl 0 rfl) ?_
    refine lv_iload_n hx hb dX6_oftenOf_46 rfl (lv_at hl 1 rfl) ?_
    obtain ⟨p1, hv, hM⟩ := e_bs hM
    obtain ⟨fs_, hk, -⟩ := e_bs hv
    refine e_callV (ci := 6) (As := [.int l3]) (rest := []) (n := 1) E J hk rfl (mX6_partBy (l := l) (G := G) l0 l3 h _ hv) q_3_3 q_3_5 q_p_3 q_1_4 q_3_6 (by decide +kernel) rfl ⟨Nat.le_of_ble_eq_true rfl, Nat.le_of_ble_eq_true rfl⟩ (st0 := [.int l3, .ref (e_ad G l0)]) (st1 := [.int (e_b p1.1)]) rfl rfl hl.1 (Nat.le_of_ble_eq_true rfl) dX6_oftenOf_47 ⟨Nat.le_refl _, Nat.le_refl _⟩ (fun H locs J => ?_)
    refine lv_if_eq (tgt := 62) hx hb dX6_oftenOf_50 (by decide) (fun hc => ?_) (fun hc => ?_)
    · have hM := e_ip hc hM
      refine lv_iload hx hb dX6_oftenOf_62 (lv_at hl 2 rfl) ?_
      obtain rfl := e_so hM
      exact e_iret E J dX6_oftenOf_64
    · have hM := e_in hc hM
      refine lv_iinc (v := (l4 + (nI 1))) (lv' := [(4, .int (l4 + (nI 1))), (0, .ref (e_ad G l0)), (3, .int l3), (5, .int l5)]) hx hb dX6_oftenOf_53 hl (k := 2) rfl rfl (by decide) rfl (fun ls hl => ?_)
      refine lv_iinc (v := (l5 + (nI 1))) (lv' := [(5, .int (l5 + (nI 1))), (4, .int (l4 + (nI 1))), (0, .ref (e_ad G l0)), (3, .int l3)]) hx hb dX6_oftenOf_56 hl (k := 3) rfl rfl (by decide) rfl (fun ls hl => ?_)
      refine lv_goto (tgt := 39) hx hb dX6_oftenOf_59 (by decide) ?_
      exact K39 l0 l3 (l4 + (nI 1)) (l5 + (nI 1)) p1.2 hM _ _ J _ (lv_sub hl [2, 3, 1, 0] rfl)
set_option maxRecDepth 100000 in
set_option maxHeartbeats 4000000 in
theorem mX6_oftenOf_L39 {p : Program} {l : Launch} {e : Env} {s : State} {m : MethodId} {args : Array Value} {below : List Frame} {meth : Method} {c : Code} {G : e_G} {res : (Int32 × e_H)} (E : e_M G p s args m meth c cX6_oftenOf 6 (some FieldType.int) RX6) (n : Nat) (l0 : Nat) (l3 : Int32) (l4 : Int32) (l5 : Int32) (h : e_H) (hM : fX6_oftenOf_L39 n l0 l3 l4 l5 h = some res) {H : Heap} {locs : List Loc} (J : e_J G s h H locs) {ls : Array Slot} (hl : lv_has ls 6 [(0, .ref (e_ad G l0)), (3, .int l3), (4, .int l4), (5, .int l5)]) : W p l e (e_rm 2 45) s m args below meth c H locs 0 0 (MQ below (e_Q G res.2 (some (.int res.1))) args s 0 0 (e_A G)) (F0 m 39 ls []) := by
  induction n generalizing l0 l3 l4 l5 h H locs ls with
  | zero => exact e_no hM
  | succ n ih => exact mX6_oftenOf_b39 (k39 := (fX6_oftenOf_L39 n)) E   (fun l0 l3 l4 l5 h hM H locs J ls hl => ih l0 l3 l4 l5 h hM J hl) l0 l3 l4 l5 h hM J hl
set_option maxRecDepth 100000 in
set_option maxHeartbeats 4000000 in
theorem mX6_oftenOf_b3 {p : Program} {l : Launch} {e : Env} {s : State} {m : MethodId} {args : Array Value} {below : List Frame} {meth : Method} {c : Code} {G : e_G} {res : (Int32 × e_H)} {k3 : Nat → Nat → Int32 → Int32 → Int32 → e_H → Option (Int32 × e_H)} (E : e_M G p s args m meth c cX6_oftenOf 6 (some FieldType.int) RX6) (K3 : ∀ (l0 : Nat) (l1 : Nat) (l2 : Int32) (l3 : Int32) (l4 : Int32) (h : e_H), k3 l0 l1 l2 l3 l4 h = some res → ∀ (H : Heap) (locs : List Loc), e_J G s h H locs → ∀ (ls : Array Slot), lv_has ls 6 [(0, .ref (e_ad G l0)), (1, .ref (e_ad G l1)), (2, .int l2), (3, .int l3), (4, .int l4)] → W p l e (e_rm 2 45) s m args below meth c H locs 0 0 (MQ below (e_Q G res.2 (some (.int res.1))) args s 0 0 (e_A G)) (F0 m 3 ls [])) (l0 : Nat) (l1 : Nat) (l2 : Int32) (l3 : Int32) (l4 : Int32) (h : e_H) (hM : fX6_oftenOf_b3 k3 l0 l1 l2 l3 l4 h = some res) {H : Heap} {locs : List Loc} (J : e_J G s h H locs) {ls : Array Slot} (hl : lv_has ls 6 [(0, .ref (e_ad G l0)), (1, .ref (e_ad G l1)), (2, .int l2), (3, .int l3), (4, .int l4)]) : W p l e (e_rm 2 45) s m args below meth c H locs 0 0 (MQ below (e_Q G res.2 (some (.int res.1))) args s 0 0 (e_A G)) (F0 m 3 ls []) := by
  obtain ⟨hx, hb, hr, hml, hown, hts, hlocks, hES, hbs⟩ := id E
  unfold fX6_oftenOf_b3 at hM
  refine lv_iload hx hb dX6_oftenOf_3 (lv_at hl 4 rfl) ?_
  refine lv_aload_n hx hb dX6_oftenOf_5 rfl (lv_at hl 0 rfl) ?_
  obtain ⟨v1, hv, hM⟩ := e_bs hM
  refine e_getR (C := RX6) (T := TX6) (N := 9) E J hv rfl inX6 (by decide) q_1_102 dX6_oftenOf_6 ?_
  rcases v1 with _ | a2
  · have hM := e_on0 hM
    refine W.eq (g2 := F0 m 9 ls [.null, .int l4]) rfl ?_
    exact e_no hM
  · have hM := e_on1 hM
    refine W.eq (g2 := F0 m 9 ls [.ref (e_ad G a2), .int l4]) rfl ?_
    obtain ⟨v3, hv, hM⟩ := e_bs hM
    refine e_alen E J hv rfl rfl dX6_oftenOf_9 ?_
    refine lv_icmp_ge (tgt := 33) hx hb dX6_oftenOf_10 (by decide) (fun hc => ?_) (fun hc => ?_)
    · have hM := e_ip hc hM
      refine lv_iconst (v := nI 0) hx hb dX6_oftenOf_33 (by decide) ?_
      refine lv_istore (lv' := [(4, .int (nI 0)), (0, .ref (e_ad G l0)), (1, .ref (e_ad G l1)), (2, .int l2), (3, .int l3)]) hx hb dX6_oftenOf_34 hl (by decide) rfl (fun ls hl => ?_)
      refine lv_iconst (v := nI 0) hx hb dX6_oftenOf_36 (by decide) ?_
      refine lv_istore (lv' := [(5, .int (nI 0)), (4, .int (nI 0)), (0, .ref (e_ad G l0)), (1, .ref (e_ad G l1)), (2, .int l2), (3, .int l3)]) hx hb dX6_oftenOf_37 hl (by decide) rfl (fun ls hl => ?_)
      exact mX6_oftenOf_L39 E 200 l0 l3 (nI 0) (nI 0) h hM J (lv_sub hl [2, 5, 1, 0] rfl)
    · have hM := e_in hc hM
      refine lv_aload_n hx hb dX6_oftenOf_13 rfl (lv_at hl 0 rfl) ?_
      obtain ⟨v4, hv, hM⟩ := e_bs hM
      refine e_getR (C := RX6) (T := TX6) (N := 9) E J hv rfl inX6 (by decide) q_1_102 dX6_oftenOf_14 ?_
      rcases v4 with _ | a5
      · have hM := e_on0 hM
        refine W.eq (g2 := F0 m 17 ls [.null]) rfl ?_
        refine lv_iload hx hb dX6_oftenOf_17 (lv_at hl 4 rfl) ?_
        refine lv_aload_n hx hb dX6_oftenOf_19 rfl (lv_at hl 1 rfl) ?_
        refine lv_iload_n hx hb dX6_oftenOf_20 rfl (lv_at hl 2 rfl) ?_
        refine lv_iload hx hb dX6_oftenOf_21 (lv_at hl 4 rfl) ?_
        obtain ⟨v6, hv, hM⟩ := e_bs hM
        obtain ⟨fs_, hk, -⟩ := e_bs hv
        refine e_callV (ci := 3) (As := [.int l2, .int l4]) (rest := [.int l4, .null]) (n := 2) E J hk rfl (mX3_lowestOf (l := l) (G := G) l1 l2 l4 h _ hv) q_3_2 q_2_213 q_2_214 q_1_5 q_2_215 (by decide +kernel) rfl ⟨Nat.le_of_ble_eq_true rfl, Nat.le_of_ble_eq_true rfl⟩ (st0 := [.int l4, .int l2, .ref (e_ad G l1), .int l4, .null]) (st1 := [.long v6, .int l4, .null]) rfl rfl hl.1 (Nat.le_of_ble_eq_true rfl) dX6_oftenOf_23 ⟨Nat.le_refl _, Nat.le_refl _⟩ (fun H locs J => ?_)
        exact e_no hM
      · have hM := e_on1 hM
        refine W.eq (g2 := F0 m 17 ls [.ref (e_ad G a5)]) rfl ?_
        refine lv_iload hx hb dX6_oftenOf_17 (lv_at hl 4 rfl) ?_
        refine lv_aload_n hx hb dX6_oftenOf_19 rfl (lv_at hl 1 rfl) ?_
        refine lv_iload_n hx hb dX6_oftenOf_20 rfl (lv_at hl 2 rfl) ?_
        refine lv_iload hx hb dX6_oftenOf_21 (lv_at hl 4 rfl) ?_
        obtain ⟨v8, hv, hM⟩ := e_bs hM
        obtain ⟨fs_, hk, -⟩ := e_bs hv
        refine e_callV (ci := 3) (As := [.int l2, .int l4]) (rest := [.int l4, .ref (e_ad G a5)]) (n := 2) E J hk rfl (mX3_lowestOf (l := l) (G := G) l1 l2 l4 h _ hv) q_3_2 q_2_213 q_2_214 q_1_5 q_2_215 (by decide +kernel) rfl ⟨Nat.le_of_ble_eq_true rfl, Nat.le_of_ble_eq_true rfl⟩ (st0 := [.int l4, .int l2, .ref (e_ad G l1), .int l4, .ref (e_ad G a5)]) (st1 := [.long v8, .int l4, .ref (e_ad G a5)]) rfl rfl hl.1 (Nat.le_of_ble_eq_true rfl) dX6_oftenOf_23 ⟨Nat.le_refl _, Nat.le_refl _⟩ (fun H locs J => ?_)
        obtain ⟨h9, hv, hM⟩ := e_bs hM
        refine e_last E J hv dX6_oftenOf_26 (fun H locs J => ?_)
        refine lv_iinc (v := (l4 + (nI 1))) (lv' := [(4, .int (l4 + (nI 1))), (0, .ref (e_ad G l0)), (1, .ref (e_ad G l1)), (2, .int l2), (3, .int l3)]) hx hb dX6_oftenOf_27 hl (k := 4) rfl rfl (by decide) rfl (fun ls hl => ?_)
        refine lv_goto (tgt := 3) hx hb dX6_oftenOf_30 (by decide) ?_
        exact K3 l0 l1 l2 l3 (l4 + (nI 1)) h9 hM _ _ J _ (lv_sub hl [1, 2, 3, 4, 0] rfl)
set_option maxRecDepth 100000 in
set_option maxHeartbeats 4000000 in
theorem mX6_oftenOf_L3 {p : Program} {l : Launch} {e : Env} {s : State} {m : MethodId} {args : Array Value} {below : List Frame} {meth : Method} {c : Code} {G : e_G} {res : (Int32 × e_H)} (E : e_M G p s args m meth c cX6_oftenOf 6 (some FieldType.int) RX6) (n : Nat) (l0 : Nat) (l1 : Nat) (l2 : Int32) (l3 : Int32) (l4 : Int32) (h : e_H) (hM : fX6_oftenOf_L3 n l0 l1 l2 l3 l4 h = some res) {H : Heap} {locs : List Loc} (J : e_J G s h H locs) {ls : Array Slot} (hl : lv_has ls 6 [(0, .ref (e_ad G l0)), (1, .ref (e_ad G l1)), (2, .int l2), (3, .int l3), (4, .int l4)]) : W p l e (e_rm 2 45) s m args below meth c H locs 0 0 (MQ below (e_Q G res.2 (some (.int res.1))) args s 0 0 (e_A G)) (F0 m 3 ls []) := by
  induction n generalizing l0 l1 l2 l3 l4 h H locs ls with
  | zero => exact e_no hM
  | succ n ih => exact mX6_oftenOf_b3 (k3 := (fX6_oftenOf_L3 n)) E   (fun l0 l1 l2 l3 l4 h hM H locs J ls hl => ih l0 l1 l2 l3 l4 h hM J hl) l0 l1 l2 l3 l4 h hM J hl
set_option maxRecDepth 100000 in
set_option maxHeartbeats 4000000 in
theorem mX6_oftenOf {l : Launch} {G : e_G} (l0 : Nat) (l1 : Nat) (l2 : Int32) (l3 : Int32) (h : e_H) (res : (Int32 × e_H)) (hM : fX6_oftenOf l0 l1 l2 l3 h = some res) : Met l yX6_oftenOf (e_W yX6_oftenOf cX6_oftenOf 6 (some FieldType.int)) (e_rm 2 45) (e_Pc G h [.ref (e_ad G l0), .ref (e_ad G l1), .int l2, .int l3]) (e_Q G res.2 (some (.int res.1))) 0 0 (e_A G) := by
  refine Met.ofW (cc := cX6_oftenOf) (maxL := 6) (ret := (some FieldType.int)) (by decide) rfl ?_
  intro p e s m args below meth c s₁ B hml hv
  obtain ⟨rfl, hS, hP⟩ := hv
  have E := e_enter (own := RX6) (ret := (some FieldType.int)) B hml rfl hS hP
  have J : e_J G s h s.heap [] := ⟨hP, va_S.rf⟩
  have hl := lv_entry ([.ref (e_ad G l0), .ref (e_ad G l1), .int l2, .int l3]) (n := 6) (Nat.le_of_ble_eq_true rfl)
  rw [lg_entry_eq]
  generalize (lg_sl ([.ref (e_ad G l0), .ref (e_ad G l1), .int l2, .int l3]) ++ List.replicate (6 - (lg_sl ([.ref (e_ad G l0), .ref (e_ad G l1), .int l2, .int l3])).length) Slot.unset).toArray = ls at hl ⊢
  have hl : lv_has ls 6 [(0, .ref (e_ad G l0)), (1, .ref (e_ad G l1)), (2, .int l2), (3, .int l3)] := hl
  obtain ⟨hx, hb, hr, hml, hown, hts, hlocks, hES, hbs⟩ := id E
  unfold fX6_oftenOf at hM
  obtain ⟨fs_, hk_, hM⟩ := e_bs hM
  refine lv_iconst (v := nI 0) hx hb dX6_oftenOf_0 (by decide) ?_
  refine lv_istore (lv' := [(4, .int (nI 0)), (0, .ref (e_ad G l0)), (1, .ref (e_ad G l1)), (2, .int l2), (3, .int l3)]) hx hb dX6_oftenOf_1 hl (by decide) rfl (fun ls hl => ?_)
  exact mX6_oftenOf_L3 E 200 l0 l1 l2 l3 (nI 0) h hM J (lv_sub hl [1, 2, 3, 4, 0] rfl)
set_option maxRecDepth 100000 in
set_option maxHeartbeats 4000000 in
theorem mX8_often {l : Launch} {G : e_G} (l0 : Nat) (l1 : Int32) (l2 : Int32) (l3 : Int32) (h : e_H) (res : (Int32 × e_H)) (hM : fX8_often l0 l1 l2 l3 h = some res) : Met l yX8_often (e_W yX8_often cX8_often 6 (some FieldType.int)) (e_rm 6 147) (e_Pc G h [.ref (e_ad G l0), .int l1, .int l2, .int l3]) (e_Q G res.2 (some (.int res.1))) 0 0 (e_A G) := by
  refine Met.ofW (cc := cX8_often) (maxL := 6) (ret := (some FieldType.int)) (by decide) rfl ?_
  intro p e s m args below meth c s₁ B hml hv
  obtain ⟨rfl, hS, hP⟩ := hv
  have E := e_enter (own := RX8) (ret := (some FieldType.int)) B hml rfl hS hP
  have J : e_J G s h s.heap [] := ⟨hP, va_S.rf⟩
  have hl := lv_entry ([.ref (e_ad G l0), .int l1, .int l2, .int l3]) (n := 6) (Nat.le_of_ble_eq_true rfl)
  rw [lg_entry_eq]
  generalize (lg_sl ([.ref (e_ad G l0), .int l1, .int l2, .int l3]) ++ List.replicate (6 - (lg_sl ([.ref (e_ad G l0), .int l1, .int l2, .int l3])).length) Slot.unset).toArray = ls at hl ⊢
  have hl : lv_has ls 6 [(0, .ref (e_ad G l0)), (1, .int l1), (2, .int l2), (3, .int l3)] := hl
  obtain ⟨hx, hb, hr, hml, hown, hts, hlocks, hES, hbs⟩ := id E
  unfold fX8_often at hM
  obtain ⟨fs_, hk_, hM⟩ := e_bs hM
  refine lv_aload_n hx hb dX8_often_0 rfl (lv_at hl 0 rfl) ?_
  refine lv_iload_n hx hb dX8_often_1 rfl (lv_at hl 1 rfl) ?_
  refine lv_iload_n hx hb dX8_often_2 rfl (lv_at hl 2 rfl) ?_
  obtain ⟨p1, hv, hM⟩ := e_bs hM
  obtain ⟨fs_, hk, -⟩ := e_bs hv
  refine e_callV (ci := 8) (As := [.int l1, .int l2]) (rest := []) (n := 2) E J hk rfl (mX8_shapeAt (l := l) (G := G) l0 l1 l2 h _ hv) q_2_161 q_2_163 q_p_2 q_1_1 q_2_164 (by decide +kernel) rfl ⟨Nat.le_of_ble_eq_true rfl, Nat.le_of_ble_eq_true rfl⟩ (st0 := [.int l2, .int l1, .ref (e_ad G l0)]) (st1 := [e_r G p1.1]) rfl rfl hl.1 (Nat.le_of_ble_eq_true rfl) dX8_often_3 ⟨Nat.le_refl _, Nat.le_refl _⟩ (fun H locs J => ?_)
  obtain ⟨r2, hr2⟩ := p1
  rcases r2 with _ | a3
  · have hM := e_on0 hM
    refine W.eq (g2 := F0 m 6 ls [.null]) rfl ?_
    refine lv_astoreN (lv' := [(4, .null), (0, .ref (e_ad G l0)), (1, .int l1), (2, .int l2), (3, .int l3)]) hx hb dX8_often_6 hl (by decide) rfl (fun ls hl => ?_)
    refine lv_aloadN hx hb dX8_often_8 (lv_at hl 0 rfl) ?_
    refine lv_ifnullN (tgt := 20) hx hb dX8_often_10 (by decide) ?_
    refine lv_ldc (v := -1000000001) hx hb hown (hts _ q_1_237) dX8_often_20 ?_
    obtain rfl := e_so hM
    exact e_iret E J dX8_often_22
  · have hM := e_on1 hM
    refine W.eq (g2 := F0 m 6 ls [.ref (e_ad G a3)]) rfl ?_
    refine lv_astore (lv' := [(4, .ref (e_ad G a3)), (0, .ref (e_ad G l0)), (1, .int l1), (2, .int l2), (3, .int l3)]) hx hb dX8_often_6 hl (by decide) rfl (fun ls hl => ?_)
    refine lv_aload hx hb dX8_often_8 (lv_at hl 0 rfl) ?_
    refine lv_ifnull hx hb dX8_often_10 ?_
    refine lv_iload_n hx hb dX8_often_13 rfl (lv_at hl 4 rfl) ?_
    obtain ⟨v4, hv, hM⟩ := e_bs hM
    refine e_callS (As := [.int l3]) (rest := []) (n := 1) E J (mX8_isSlope (l := l) (G := G) l3 hr2 _ hv) q_2_235 q_2_236 q_1_1 q_2_237 (by decide +kernel) rfl ⟨Nat.le_of_ble_eq_true rfl, Nat.le_of_ble_eq_true rfl⟩ (st0 := [.int l3]) (st1 := [.int (e_b v4)]) rfl rfl hl.1 (Nat.le_of_ble_eq_true rfl) dX8_often_14 ⟨Nat.le_refl _, Nat.le_refl _⟩ (fun H locs J => ?_)
    refine lv_if_ne (tgt := 23) hx hb dX8_often_17 (by decide) (fun hc => ?_) (fun hc => ?_)
    · have hM := e_in hc hM
      refine lv_aload hx hb dX8_often_23 (lv_at hl 0 rfl) ?_
      obtain ⟨v5, hv, hM⟩ := e_bs hM
      obtain ⟨fs_, hk, -⟩ := e_bs hv
      refine e_callV (ci := 3) (As := []) (rest := []) (n := 0) E J hk rfl (mX3_least (l := l) (G := G) a3 hr2 _ hv) q_2_193 q_2_194 q_2_195 q_1_5 q_2_196 (by decide +kernel) rfl ⟨Nat.le_of_ble_eq_true rfl, Nat.le_of_ble_eq_true rfl⟩ (st0 := [.ref (e_ad G a3)]) (st1 := [.int v5]) rfl rfl hl.1 (Nat.le_of_ble_eq_true rfl) dX8_often_25 ⟨Nat.le_refl _, Nat.le_refl _⟩ (fun H locs J => ?_)
      refine lv_istore (lv' := [(5, .int v5), (4, .ref (e_ad G a3)), (0, .ref (e_ad G l0)), (1, .int l1), (2, .int l2), (3, .int l3)]) hx hb dX8_often_28 hl (by decide) rfl (fun ls hl => ?_)
      refine lv_iload hx hb dX8_often_30 (lv_at hl 0 rfl) ?_
      obtain ⟨v6, hv, hM⟩ := e_bs hM
      refine e_callS (As := [.int v5]) (rest := []) (n := 1) E J (mX3_branches (l := l) (G := G) v5 hr2 _ hv) q_2_209 q_2_210 q_1_5 q_2_211 (by decide +kernel) rfl ⟨Nat.le_of_ble_eq_true rfl, Nat.le_of_ble_eq_true rfl⟩ (st0 := [.int v5]) (st1 := [.int (e_b v6)]) rfl rfl hl.1 (Nat.le_of_ble_eq_true rfl) dX8_often_32 ⟨Nat.le_refl _, Nat.le_refl _⟩ (fun H locs J => ?_)
      refine lv_if_eq (tgt := 53) hx hb dX8_often_35 (by decide) (fun hc => ?_) (fun hc => ?_)
      · have hM := e_ip hc hM
        refine lv_ldc (v := -1000000002) hx hb hown (hts _ q_2_230) dX8_often_53 ?_
        obtain rfl := e_so hM
        exact e_iret E J dX8_often_55
      · have hM := e_in hc hM
        refine lv_aload_n hx hb dX8_often_38 rfl (lv_at hl 2 rfl) ?_
        obtain ⟨v7, hv, hM⟩ := e_bs hM
        refine e_getR (C := RX8) (T := TX8) (N := 10) E J hv rfl inX8 (by decide) q_1_201 dX8_often_39 ?_
        rcases v7 with _ | a8
        · have hM := e_on0 hM
          refine W.eq (g2 := F0 m 42 ls [.null]) rfl ?_
          refine lv_aload hx hb dX8_often_42 (lv_at hl 1 rfl) ?_
          refine lv_iload hx hb dX8_often_44 (lv_at hl 0 rfl) ?_
          refine lv_iload_n hx hb dX8_often_46 rfl (lv_at hl 5 rfl) ?_
          exact e_no hM
        · have hM := e_on1 hM
          refine W.eq (g2 := F0 m 42 ls [.ref (e_ad G a8)]) rfl ?_
          refine lv_aload hx hb dX8_often_42 (lv_at hl 1 rfl) ?_
          refine lv_iload hx hb dX8_often_44 (lv_at hl 0 rfl) ?_
          refine lv_iload_n hx hb dX8_often_46 rfl (lv_at hl 5 rfl) ?_
          obtain ⟨p9, hv, hM⟩ := e_bs hM
          obtain ⟨fs_, hk, -⟩ := e_bs hv
          refine e_callV (ci := 6) (As := [.ref (e_ad G a3), .int v5, .int l3]) (rest := []) (n := 3) E J hk rfl (mX6_oftenOf (l := l) (G := G) a8 a3 v5 l3 hr2 _ hv) q_2_238 q_2_239 q_3_0 q_1_4 q_3_1 (by decide +kernel) rfl ⟨Nat.le_of_ble_eq_true rfl, Nat.le_of_ble_eq_true rfl⟩ (st0 := [.int l3, .int v5, .ref (e_ad G a3), .ref (e_ad G a8)]) (st1 := [.int p9.1]) rfl rfl hl.1 (Nat.le_of_ble_eq_true rfl) dX8_often_47 ⟨Nat.le_refl _, Nat.le_refl _⟩ (fun H locs J => ?_)
          refine lv_goto (tgt := 55) hx hb dX8_often_50 (by decide) ?_
          obtain rfl := e_so hM
          exact e_iret E J dX8_often_55
    · have hM := e_ip hc hM
      refine lv_ldc (v := -1000000001) hx hb hown (hts _ q_1_237) dX8_often_20 ?_
      obtain rfl := e_so hM
      exact e_iret E J dX8_often_22
set_option maxRecDepth 100000 in
set_option maxHeartbeats 4000000 in
theorem mX3_blowInto_b17 {p : Program} {l : Launch} {e : Env} {s : State} {m : MethodId} {args : Array Value} {below : List Frame} {meth : Method} {c : Code} {G : e_G} {res : e_H} {k7 : Nat → Nat → Int32 → Int32 → Int32 → e_H → Option e_H} {k17 : Nat → Nat → Int32 → Int32 → Int32 → Int32 → e_H → Option e_H} (E : e_M G p s args m meth c cX3_blowInto 6 none RX3) (K7 : ∀ (l0 : Nat) (l1 : Nat) (l2 : Int32) (l3 : Int32) (l4 : Int32) (h : e_H), k7 l0 l1 l2 l3 l4 h = some res → ∀ (H : Heap) (locs : List Loc), e_J G s h H locs → ∀ (ls : Array Slot), lv_has ls 6 [(0, .ref (e_ad G l0)), (1, .ref (e_ad G l1)), (2, .int l2), (3, .int l3), (4, .int l4)] → W p l e (e_rm 2 50) s m args below meth c H locs 0 0 (MQ below (e_Q G res (none)) args s 0 0 (e_A G)) (F0 m 7 ls [])) (K17 : ∀ (l0 : Nat) (l1 : Nat) (l2 : Int32) (l3 : Int32) (l4 : Int32) (l5 : Int32) (h : e_H), k17 l0 l1 l2 l3 l4 l5 h = some res → ∀ (H : Heap) (locs : List Loc), e_J G s h H locs → ∀ (ls : Array Slot), lv_has ls 6 [(0, .ref (e_ad G l0)), (1, .ref (e_ad G l1)), (2, .int l2), (3, .int l3), (4, .int l4), (5, .int l5)] → W p l e (e_rm 2 50) s m args below meth c H locs 0 0 (MQ below (e_Q G res (none)) args s 0 0 (e_A G)) (F0 m 17 ls [])) (l0 : Nat) (l1 : Nat) (l2 : Int32) (l3 : Int32) (l4 : Int32) (l5 : Int32) (h : e_H) (hM : fX3_blowInto_b17 k7 k17 l0 l1 l2 l3 l4 l5 h = some res) {H : Heap} {locs : List Loc} (J : e_J G s h H locs) {ls : Array Slot} (hl : lv_has ls 6 [(0, .ref (e_ad G l0)), (1, .ref (e_ad G l1)), (2, .int l2), (3, .int l3), (4, .int l4), (5, .int l5)]) : W p l e (e_rm 2 50) s m args below meth c H locs 0 0 (MQ below (e_Q G res (none)) args s 0 0 (e_A G)) (F0 m 17 ls []) := by
  obtain ⟨hx, hb, hr, hml, hown, hts, hlocks, hES, hbs⟩ := id E
  unfold fX3_blowInto_b17 at hM
  refine lv_iload hx hb dX3_blowInto_17 (lv_at hl 5 rfl) ?_
  refine lv_iconst (v := nI 4) hx hb dX3_blowInto_19 (by decide) ?_
  refine lv_icmp_gt (tgt := 50) hx hb dX3_blowInto_20 (by decide) (fun hc => ?_) (fun hc => ?_)
  · have hM := e_ip hc hM
    refine lv_iinc (v := (l4 + (nI 1))) (lv' := [(4, .int (l4 + (nI 1))), (0, .ref (e_ad G l0)), (1, .ref (e_ad G l1)), (2, .int l2), (3, .int l3), (5, .int l5)]) hx hb dX3_blowInto_50 hl (k := 4) rfl rfl (by decide) rfl (fun ls hl => ?_)
    refine lv_goto (tgt := 7) hx hb dX3_blowInto_53 (by decide) ?_
    exact K7 l0 l1 l2 l3 (l4 + (nI 1)) h hM _ _ J _ (lv_sub hl [1, 2, 3, 4, 0] rfl)
  · have hM := e_in hc hM
    refine lv_aload_n hx hb dX3_blowInto_23 rfl (lv_at hl 1 rfl) ?_
    refine lv_iload hx hb dX3_blowInto_24 (lv_at hl 4 rfl) ?_
    refine lv_iload hx hb dX3_blowInto_26 (lv_at hl 5 rfl) ?_
    refine lv_iadd hx hb dX3_blowInto_28 ?_
    refine lv_iload_n hx hb dX3_blowInto_29 rfl (lv_at hl 3 rfl) ?_
    refine lv_isub hx hb dX3_blowInto_30 ?_
    refine lv_iload hx hb dX3_blowInto_31 (lv_at hl 5 rfl) ?_
    refine lv_aload_n hx hb dX3_blowInto_33 rfl (lv_at hl 0 rfl) ?_
    refine lv_iload hx hb dX3_blowInto_34 (lv_at hl 4 rfl) ?_
    refine lv_iload hx hb dX3_blowInto_36 (lv_at hl 5 rfl) ?_
    obtain ⟨v1, hv, hM⟩ := e_bs hM
    obtain ⟨fs_, hk, -⟩ := e_bs hv
    refine e_callV (ci := 3) (As := [.int l4, .int l5]) (rest := [.int l5, .int ((l4 + l5) - l3), .ref (e_ad G l1)]) (n := 2) E J hk rfl (mX3_number (l := l) (G := G) l0 l4 l5 h _ hv) q_2_184 q_2_185 q_2_186 q_1_5 q_2_187 (by decide +kernel) rfl ⟨Nat.le_of_ble_eq_true rfl, Nat.le_of_ble_eq_true rfl⟩ (st0 := [.int l5, .int l4, .ref (e_ad G l0), .int l5, .int ((l4 + l5) - l3), .ref (e_ad G l1)]) (st1 := [.long v1, .int l5, .int ((l4 + l5) - l3), .ref (e_ad G l1)]) rfl rfl hl.1 (Nat.le_of_ble_eq_true rfl) dX3_blowInto_38 ⟨Nat.le_refl _, Nat.le_refl _⟩ (fun H locs J => ?_)
    obtain ⟨h2, hv, hM⟩ := e_bs hM
    obtain ⟨fs_, hk, -⟩ := e_bs hv
    refine e_callV (ci := 3) (As := [.int ((l4 + l5) - l3), .int l5, .long v1]) (rest := []) (n := 3) E J hk rfl (mX3_add (l := l) (G := G) l1 ((l4 + l5) - l3) l5 v1 h _ hv) q_2_188 q_2_177 q_2_178 q_1_5 q_2_179 (by decide +kernel) rfl ⟨Nat.le_of_ble_eq_true rfl, Nat.le_of_ble_eq_true rfl⟩ (st0 := [.long v1, .int l5, .int ((l4 + l5) - l3), .ref (e_ad G l1)]) (st1 := []) rfl rfl hl.1 (Nat.le_of_ble_eq_true rfl) dX3_blowInto_41 ⟨Nat.le_refl _, Nat.le_refl _⟩ (fun H locs J => ?_)
    refine lv_iinc (v := (l5 + (nI 1))) (lv' := [(5, .int (l5 + (nI 1))), (0, .ref (e_ad G l0)), (1, .ref (e_ad G l1)), (2, .int l2), (3, .int l3), (4, .int l4)]) hx hb dX3_blowInto_44 hl (k := 5) rfl rfl (by decide) rfl (fun ls hl => ?_)
    refine lv_goto (tgt := 17) hx hb dX3_blowInto_47 (by decide) ?_
    exact K17 l0 l1 l2 l3 l4 (l5 + (nI 1)) h2 hM _ _ J _ (lv_sub hl [1, 2, 3, 4, 5, 0] rfl)
set_option maxRecDepth 100000 in
set_option maxHeartbeats 4000000 in
theorem mX3_LlowInto_L17 {p : Program} {l : Launch} {e : Env} {s : State} {m : MethodId} {args : Array Value} {below : List Frame} {meth : Method} {c : Code} {G : e_G} {res : e_H} {k7 : Nat → Nat → Int32 → Int32 → Int32 → e_H → Option e_H} (E : e_M G p s args m meth c cX3_blowInto 6 none RX3) (K7 : ∀ (l0 : Nat) (l1 : Nat) (l2 : Int32) (l3 : Int32) (l4 : Int32) (h : e_H), k7 l0 l1 l2 l3 l4 h = some res → ∀ (H : Heap) (locs : List Loc), e_J G s h H locs → ∀ (ls : Array Slot), lv_has ls 6 [(0, .ref (e_ad G l0)), (1, .ref (e_ad G l1)), (2, .int l2), (3, .int l3), (4, .int l4)] → W p l e (e_rm 2 50) s m args below meth c H locs 0 0 (MQ below (e_Q G res (none)) args s 0 0 (e_A G)) (F0 m 7 ls [])) (n : Nat) (l0 : Nat) (l1 : Nat) (l2 : Int32) (l3 : Int32) (l4 : Int32) (l5 : Int32) (h : e_H) (hM : fX3_LlowInto_L17 k7 n l0 l1 l2 l3 l4 l5 h = some res) {H : Heap} {locs : List Loc} (J : e_J G s h H locs) {ls : Array Slot} (hl : lv_has ls 6 [(0, .ref (e_ad G l0)), (1, .ref (e_ad G l1)), (2, .int l2), (3, .int l3), (4, .int l4), (5, .int l5)]) : W p l e (e_rm 2 50) s m args below meth c H locs 0 0 (MQ below (e_Q G res (none)) args s 0 0 (e_A G)) (F0 m 17 ls []) := by
  induction n generalizing l0 l1 l2 l3 l4 l5 h H locs ls with
  | zero => exact e_no hM
  | succ n ih => exact mX3_blowInto_b17 (k17 := (fX3_LlowInto_L17 k7 n)) E  K7 (fun l0 l1 l2 l3 l4 l5 h hM H locs J ls hl => ih l0 l1 l2 l3 l4 l5 h hM J hl) l0 l1 l2 l3 l4 l5 h hM J hl
set_option maxRecDepth 100000 in
set_option maxHeartbeats 4000000 in
theorem mX3_blowInto_b7 {p : Program} {l : Launch} {e : Env} {s : State} {m : MethodId} {args : Array Value} {below : List Frame} {meth : Method} {c : Code} {G : e_G} {res : e_H} {k7 : Nat → Nat → Int32 → Int32 → Int32 → e_H → Option e_H} (E : e_M G p s args m meth c cX3_blowInto 6 none RX3) (K7 : ∀ (l0 : Nat) (l1 : Nat) (l2 : Int32) (l3 : Int32) (l4 : Int32) (h : e_H), k7 l0 l1 l2 l3 l4 h = some res → ∀ (H : Heap) (locs : List Loc), e_J G s h H locs → ∀ (ls : Array Slot), lv_has ls 6 [(0, .ref (e_ad G l0)), (1, .ref (e_ad G l1)), (2, .int l2), (3, .int l3), (4, .int l4)] → W p l e (e_rm 2 50) s m args below meth c H locs 0 0 (MQ below (e_Q G res (none)) args s 0 0 (e_A G)) (F0 m 7 ls [])) (l0 : Nat) (l1 : Nat) (l2 : Int32) (l3 : Int32) (l4 : Int32) (h : e_H) (hM : fX3_blowInto_b7 k7 l0 l1 l2 l3 l4 h = some res) {H : Heap} {locs : List Loc} (J : e_J G s h H locs) {ls : Array Slot} (hl : lv_has ls 6 [(0, .ref (e_ad G l0)), (1, .ref (e_ad G l1)), (2, .int l2), (3, .int l3), (4, .int l4)]) : W p l e (e_rm 2 50) s m args below meth c H locs 0 0 (MQ below (e_Q G res (none)) args s 0 0 (e_A G)) (F0 m 7 ls []) := by
  obtain ⟨hx, hb, hr, hml, hown, hts, hlocks, hES, hbs⟩ := id E
  unfold fX3_blowInto_b7 at hM
  refine lv_iload hx hb dX3_blowInto_7 (lv_at hl 4 rfl) ?_
  refine lv_bipush (v := nI 16) hx hb dX3_blowInto_9 (by decide) ?_
  refine lv_icmp_gt (tgt := 56) hx hb dX3_blowInto_11 (by decide) (fun hc => ?_) (fun hc => ?_)
  · have hM := e_ip hc hM
    refine lv_aload_n hx hb dX3_blowInto_56 rfl (lv_at hl 1 rfl) ?_
    refine lv_iload_n hx hb dX3_blowInto_57 rfl (lv_at hl 2 rfl) ?_
    refine lv_bipush (v := nI 16) hx hb dX3_blowInto_58 (by decide) ?_
    obtain ⟨h1, hv, hM⟩ := e_bs hM
    obtain ⟨fs_, hk, -⟩ := e_bs hv
    refine e_callV (ci := 3) (As := [.int l2, .int (nI 16)]) (rest := []) (n := 2) E J hk rfl (mX3_moveY (l := l) (G := G) l1 l2 (nI 16) h _ hv) q_3_22 q_2_190 q_2_191 q_1_5 q_2_192 (by decide +kernel) rfl ⟨Nat.le_of_ble_eq_true rfl, Nat.le_of_ble_eq_true rfl⟩ (st0 := [.int (nI 16), .int l2, .ref (e_ad G l1)]) (st1 := []) rfl rfl hl.1 (Nat.le_of_ble_eq_true rfl) dX3_blowInto_60 ⟨Nat.le_refl _, Nat.le_refl _⟩ (fun H locs J => ?_)
    obtain rfl := e_so hM
    exact e_vret E J dX3_blowInto_63
  · have hM := e_in hc hM
    refine lv_iconst (v := nI 0) hx hb dX3_blowInto_14 (by decide) ?_
    refine lv_istore (lv' := [(5, .int (nI 0)), (0, .ref (e_ad G l0)), (1, .ref (e_ad G l1)), (2, .int l2), (3, .int l3), (4, .int l4)]) hx hb dX3_blowInto_15 hl (by decide) rfl (fun ls hl => ?_)
    exact mX3_LlowInto_L17 E K7 200 l0 l1 l2 l3 l4 (nI 0) h hM J (lv_sub hl [1, 2, 3, 4, 5, 0] rfl)
set_option maxRecDepth 100000 in
set_option maxHeartbeats 4000000 in
theorem mX3_LlowInto_L7 {p : Program} {l : Launch} {e : Env} {s : State} {m : MethodId} {args : Array Value} {below : List Frame} {meth : Method} {c : Code} {G : e_G} {res : e_H} (E : e_M G p s args m meth c cX3_blowInto 6 none RX3) (n : Nat) (l0 : Nat) (l1 : Nat) (l2 : Int32) (l3 : Int32) (l4 : Int32) (h : e_H) (hM : fX3_LlowInto_L7 n l0 l1 l2 l3 l4 h = some res) {H : Heap} {locs : List Loc} (J : e_J G s h H locs) {ls : Array Slot} (hl : lv_has ls 6 [(0, .ref (e_ad G l0)), (1, .ref (e_ad G l1)), (2, .int l2), (3, .int l3), (4, .int l4)]) : W p l e (e_rm 2 50) s m args below meth c H locs 0 0 (MQ below (e_Q G res (none)) args s 0 0 (e_A G)) (F0 m 7 ls []) := by
  induction n generalizing l0 l1 l2 l3 l4 h H locs ls with
  | zero => exact e_no hM
  | succ n ih => exact mX3_blowInto_b7 (k7 := (fX3_LlowInto_L7 n)) E   (fun l0 l1 l2 l3 l4 h hM H locs J ls hl => ih l0 l1 l2 l3 l4 h hM J hl) l0 l1 l2 l3 l4 h hM J hl
set_option maxRecDepth 100000 in
set_option maxHeartbeats 4000000 in
theorem mX3_blowInto {l : Launch} {G : e_G} (l0 : Nat) (l1 : Nat) (l2 : Int32) (l3 : Int32) (h : e_H) (res : e_H) (hM : fX3_blowInto l0 l1 l2 l3 h = some res) : Met l yX3_blowInto (e_W yX3_blowInto cX3_blowInto 6 none) (e_rm 2 50) (e_Pc G h [.ref (e_ad G l0), .ref (e_ad G l1), .int l2, .int l3]) (e_Q G res (none)) 0 0 (e_A G) := by
  refine Met.ofW (cc := cX3_blowInto) (maxL := 6) (ret := none) (by decide) rfl ?_
  intro p e s m args below meth c s₁ B hml hv
  obtain ⟨rfl, hS, hP⟩ := hv
  have E := e_enter (own := RX3) (ret := none) B hml rfl hS hP
  have J : e_J G s h s.heap [] := ⟨hP, va_S.rf⟩
  have hl := lv_entry ([.ref (e_ad G l0), .ref (e_ad G l1), .int l2, .int l3]) (n := 6) (Nat.le_of_ble_eq_true rfl)
  rw [lg_entry_eq]
  generalize (lg_sl ([.ref (e_ad G l0), .ref (e_ad G l1), .int l2, .int l3]) ++ List.replicate (6 - (lg_sl ([.ref (e_ad G l0), .ref (e_ad G l1), .int l2, .int l3])).length) Slot.unset).toArray = ls at hl ⊢
  have hl : lv_has ls 6 [(0, .ref (e_ad G l0)), (1, .ref (e_ad G l1)), (2, .int l2), (3, .int l3)] := hl
  obtain ⟨hx, hb, hr, hml, hown, hts, hlocks, hES, hbs⟩ := id E
  unfold fX3_blowInto at hM
  obtain ⟨fs_, hk_, hM⟩ := e_bs hM
  refine lv_aload_n hx hb dX3_blowInto_0 rfl (lv_at hl 1 rfl) ?_
  obtain ⟨h1, hv, hM⟩ := e_bs hM
  obtain ⟨fs_, hk, -⟩ := e_bs hv
  refine e_callV (ci := 3) (As := []) (rest := []) (n := 0) E J hk rfl (mX3_clear (l := l) (G := G) l1 h _ hv) q_3_21 q_2_170 q_2_171 q_1_5 q_2_172 (by decide +kernel) rfl ⟨Nat.le_of_ble_eq_true rfl, Nat.le_of_ble_eq_true rfl⟩ (st0 := [.ref (e_ad G l1)]) (st1 := []) rfl rfl hl.1 (Nat.le_of_ble_eq_true rfl) dX3_blowInto_1 ⟨Nat.le_refl _, Nat.le_refl _⟩ (fun H locs J => ?_)
  refine lv_iconst (v := nI 0) hx hb dX3_blowInto_4 (by decide) ?_
  refine lv_istore (lv' := [(4, .int (nI 0)), (0, .ref (e_ad G l0)), (1, .ref (e_ad G l1)), (2, .int l2), (3, .int l3)]) hx hb dX3_blowInto_5 hl (by decide) rfl (fun ls hl => ?_)
  exact mX3_LlowInto_L7 E 200 l0 l1 l2 l3 (nI 0) h1 hM J (lv_sub hl [1, 2, 3, 4, 0] rfl)
set_option maxRecDepth 100000 in
set_option maxHeartbeats 4000000 in
theorem mX6_blow {l : Launch} {G : e_G} (l0 : Nat) (l1 : Int32) (l2 : Int32) (h : e_H) (res : (Option Nat × e_H)) (hM : fX6_blow l0 l1 l2 h = some res) : Met l yX6_blow (e_W yX6_blow cX6_blow 5 (some (FieldType.object "BentBranches$Shape"))) (e_rm 3 75) (e_Pc G h [.ref (e_ad G l0), .int l1, .int l2]) (e_Q G res.2 (some (e_r G res.1))) 0 0 (e_A G) := by
  refine Met.ofW (cc := cX6_blow) (maxL := 5) (ret := (some (FieldType.object "BentBranches$Shape"))) (by decide) rfl ?_
  intro p e s m args below meth c s₁ B hml hv
  obtain ⟨rfl, hS, hP⟩ := hv
  have E := e_enter (own := RX6) (ret := (some (FieldType.object "BentBranches$Shape"))) B hml rfl hS hP
  have J : e_J G s h s.heap [] := ⟨hP, va_S.rf⟩
  have hl := lv_entry ([.ref (e_ad G l0), .int l1, .int l2]) (n := 5) (Nat.le_of_ble_eq_true rfl)
  rw [lg_entry_eq]
  generalize (lg_sl ([.ref (e_ad G l0), .int l1, .int l2]) ++ List.replicate (5 - (lg_sl ([.ref (e_ad G l0), .int l1, .int l2])).length) Slot.unset).toArray = ls at hl ⊢
  have hl : lv_has ls 5 [(0, .ref (e_ad G l0)), (1, .int l1), (2, .int l2)] := hl
  obtain ⟨hx, hb, hr, hml, hown, hts, hlocks, hES, hbs⟩ := id E
  unfold fX6_blow at hM
  obtain ⟨fs_, hk_, hM⟩ := e_bs hM
  refine lv_iload_n hx hb dX6_blow_0 rfl (lv_at hl 1 rfl) ?_
  refine lv_iconst (v := nI 1) hx hb dX6_blow_1 (by decide) ?_
  refine lv_icmp_lt (tgt := 14) hx hb dX6_blow_2 (by decide) (fun hc => ?_) (fun hc => ?_)
  · have hM := e_ip hc hM
    refine lv_null hx hb dX6_blow_14 ?_
    obtain rfl := e_so hM
    exact e_aretN E J (Or.inl ⟨_, rfl⟩) dX6_blow_15
  · have hM := e_in hc hM
    refine lv_iload_n hx hb dX6_blow_5 rfl (lv_at hl 1 rfl) ?_
    refine lv_aload_n hx hb dX6_blow_6 rfl (lv_at hl 0 rfl) ?_
    obtain ⟨v1, hv, hM⟩ := e_bs hM
    refine e_getR (C := RX6) (T := TX6) (N := 9) E J hv rfl inX6 (by decide) q_1_101 dX6_blow_7 ?_
    rcases v1 with _ | a2
    · have hM := e_on0 hM
      refine W.eq (g2 := F0 m 10 ls [.null, .int l1]) rfl ?_
      exact e_no hM
    · have hM := e_on1 hM
      refine W.eq (g2 := F0 m 10 ls [.ref (e_ad G a2), .int l1]) rfl ?_
      obtain ⟨v3, hv, hM⟩ := e_bs hM
      refine e_alen E J hv rfl rfl dX6_blow_10 ?_
      refine lv_icmp_lt (tgt := 16) hx hb dX6_blow_11 (by decide) (fun hc => ?_) (fun hc => ?_)
      · have hM := e_ip hc hM
        refine lv_aload_n hx hb dX6_blow_16 rfl (lv_at hl 0 rfl) ?_
        obtain ⟨v4, hv, hM⟩ := e_bs hM
        refine e_getR (C := RX6) (T := TX6) (N := 9) E J hv rfl inX6 (by decide) q_1_101 dX6_blow_17 ?_
        rcases v4 with _ | a5
        · have hM := e_on0 hM
          refine W.eq (g2 := F0 m 20 ls [.null]) rfl ?_
          refine lv_iload_n hx hb dX6_blow_20 rfl (lv_at hl 1 rfl) ?_
          refine lv_iconst (v := nI 1) hx hb dX6_blow_21 (by decide) ?_
          refine lv_isub hx hb dX6_blow_22 ?_
          exact e_no hM
        · have hM := e_on1 hM
          refine W.eq (g2 := F0 m 20 ls [.ref (e_ad G a5)]) rfl ?_
          refine lv_iload_n hx hb dX6_blow_20 rfl (lv_at hl 1 rfl) ?_
          refine lv_iconst (v := nI 1) hx hb dX6_blow_21 (by decide) ?_
          refine lv_isub hx hb dX6_blow_22 ?_
          obtain ⟨v7, hv, hM⟩ := e_bs hM
          refine e_aald E J hv rfl dX6_blow_23 ?_
          rcases v7 with _ | a8
          · have hM := e_on0 hM
            refine W.eq (g2 := F0 m 24 ls [.null]) rfl ?_
            refine lv_astore_nN (lv' := [(3, .null), (0, .ref (e_ad G l0)), (1, .int l1), (2, .int l2)]) hx hb dX6_blow_24 rfl hl (by decide) rfl (fun ls hl => ?_)
            refine lv_aload_nN hx hb dX6_blow_25 rfl (lv_at hl 0 rfl) ?_
            exact e_no hM
          · have hM := e_on1 hM
            refine W.eq (g2 := F0 m 24 ls [.ref (e_ad G a8)]) rfl ?_
            refine lv_astore_n (lv' := [(3, .ref (e_ad G a8)), (0, .ref (e_ad G l0)), (1, .int l1), (2, .int l2)]) hx hb dX6_blow_24 rfl hl (by decide) rfl (fun ls hl => ?_)
            refine lv_aload_n hx hb dX6_blow_25 rfl (lv_at hl 0 rfl) ?_
            obtain ⟨v9, hv, hM⟩ := e_bs hM
            obtain ⟨fs_, hk, -⟩ := e_bs hv
            refine e_callV (ci := 3) (As := []) (rest := []) (n := 0) E J hk rfl (mX3_least (l := l) (G := G) a8 h _ hv) q_3_15 q_2_194 q_2_195 q_1_5 q_2_196 (by decide +kernel) rfl ⟨Nat.le_of_ble_eq_true rfl, Nat.le_of_ble_eq_true rfl⟩ (st0 := [.ref (e_ad G a8)]) (st1 := [.int v9]) rfl rfl hl.1 (Nat.le_of_ble_eq_true rfl) dX6_blow_26 ⟨Nat.le_refl _, Nat.le_refl _⟩ (fun H locs J => ?_)
            refine lv_istore (lv' := [(4, .int v9), (3, .ref (e_ad G a8)), (0, .ref (e_ad G l0)), (1, .int l1), (2, .int l2)]) hx hb dX6_blow_29 hl (by decide) rfl (fun ls hl => ?_)
            refine lv_iload hx hb dX6_blow_31 (lv_at hl 0 rfl) ?_
            obtain ⟨v10, hv, hM⟩ := e_bs hM
            refine e_callS (As := [.int v9]) (rest := []) (n := 1) E J (mX3_branches (l := l) (G := G) v9 h _ hv) q_3_16 q_2_210 q_1_5 q_2_211 (by decide +kernel) rfl ⟨Nat.le_of_ble_eq_true rfl, Nat.le_of_ble_eq_true rfl⟩ (st0 := [.int v9]) (st1 := [.int (e_b v10)]) rfl rfl hl.1 (Nat.le_of_ble_eq_true rfl) dX6_blow_33 ⟨Nat.le_refl _, Nat.le_refl _⟩ (fun H locs J => ?_)
            refine lv_if_ne (tgt := 41) hx hb dX6_blow_36 (by decide) (fun hc => ?_) (fun hc => ?_)
            · have hM := e_in hc hM
              refine lv_aload_n hx hb dX6_blow_41 rfl (lv_at hl 1 rfl) ?_
              refine lv_aload_n hx hb dX6_blow_42 rfl (lv_at hl 2 rfl) ?_
              obtain ⟨v11, hv, hM⟩ := e_bs hM
              refine e_getR (C := RX6) (T := TX6) (N := 9) E J hv rfl inX6 (by decide) q_1_101 dX6_blow_43 ?_
              rcases v11 with _ | a12
              · have hM := e_on0 hM
                refine W.eq (g2 := F0 m 46 ls [.null, .ref (e_ad G a8)]) rfl ?_
                refine lv_iload_n hx hb dX6_blow_46 rfl (lv_at hl 3 rfl) ?_
                exact e_no hM
              · have hM := e_on1 hM
                refine W.eq (g2 := F0 m 46 ls [.ref (e_ad G a12), .ref (e_ad G a8)]) rfl ?_
                refine lv_iload_n hx hb dX6_blow_46 rfl (lv_at hl 3 rfl) ?_
                obtain ⟨v14, hv, hM⟩ := e_bs hM
                refine e_aald E J hv rfl dX6_blow_47 ?_
                rcases v14 with _ | a15
                · have hM := e_on0 hM
                  refine W.eq (g2 := F0 m 48 ls [.null, .ref (e_ad G a8)]) rfl ?_
                  refine lv_iload_n hx hb dX6_blow_48 rfl (lv_at hl 4 rfl) ?_
                  refine lv_iload hx hb dX6_blow_49 (lv_at hl 0 rfl) ?_
                  exact e_no hM
                · have hM := e_on1 hM
                  refine W.eq (g2 := F0 m 48 ls [.ref (e_ad G a15), .ref (e_ad G a8)]) rfl ?_
                  refine lv_iload_n hx hb dX6_blow_48 rfl (lv_at hl 4 rfl) ?_
                  refine lv_iload hx hb dX6_blow_49 (lv_at hl 0 rfl) ?_
                  obtain ⟨h16, hv, hM⟩ := e_bs hM
                  obtain ⟨fs_, hk, -⟩ := e_bs hv
                  refine e_callV (ci := 3) (As := [.ref (e_ad G a15), .int l2, .int v9]) (rest := []) (n := 3) E J hk rfl (mX3_blowInto (l := l) (G := G) a8 a15 l2 v9 h _ hv) q_3_17 q_3_18 q_3_19 q_1_5 q_3_20 (by decide +kernel) rfl ⟨Nat.le_of_ble_eq_true rfl, Nat.le_of_ble_eq_true rfl⟩ (st0 := [.int v9, .int l2, .ref (e_ad G a15), .ref (e_ad G a8)]) (st1 := []) rfl rfl hl.1 (Nat.le_of_ble_eq_true rfl) dX6_blow_51 ⟨Nat.le_refl _, Nat.le_refl _⟩ (fun H locs J => ?_)
                  refine lv_aload_n hx hb dX6_blow_54 rfl (lv_at hl 2 rfl) ?_
                  obtain ⟨v17, hv, hM⟩ := e_bs hM
                  refine e_getR (C := RX6) (T := TX6) (N := 9) E J hv rfl inX6 (by decide) q_1_101 dX6_blow_55 ?_
                  rcases v17 with _ | a18
                  · have hM := e_on0 hM
                    refine W.eq (g2 := F0 m 58 ls [.null]) rfl ?_
                    refine lv_iload_n hx hb dX6_blow_58 rfl (lv_at hl 3 rfl) ?_
                    exact e_no hM
                  · have hM := e_on1 hM
                    refine W.eq (g2 := F0 m 58 ls [.ref (e_ad G a18)]) rfl ?_
                    refine lv_iload_n hx hb dX6_blow_58 rfl (lv_at hl 3 rfl) ?_
                    obtain ⟨v20, hv, hM⟩ := e_bs hM
                    refine e_aald E J hv rfl dX6_blow_59 ?_
                    rcases v20 with _ | a21
                    · have hM := e_on0 hM
                      refine W.eq (g2 := F0 m 60 ls [.null]) rfl ?_
                      obtain rfl := e_so hM
                      exact e_aretN E J (Or.inl ⟨_, rfl⟩) dX6_blow_60
                    · have hM := e_on1 hM
                      refine W.eq (g2 := F0 m 60 ls [.ref (e_ad G a21)]) rfl ?_
                      obtain rfl := e_so hM
                      exact e_aretQ E J (Or.inl ⟨_, rfl⟩) dX6_blow_60
            · have hM := e_ip hc hM
              refine lv_null hx hb dX6_blow_39 ?_
              obtain rfl := e_so hM
              exact e_aretN E J (Or.inl ⟨_, rfl⟩) dX6_blow_40
      · have hM := e_in hc hM
        refine lv_null hx hb dX6_blow_14 ?_
        obtain rfl := e_so hM
        exact e_aretN E J (Or.inl ⟨_, rfl⟩) dX6_blow_15
set_option maxRecDepth 100000 in
set_option maxHeartbeats 4000000 in
theorem mX8_blown_b73 {p : Program} {l : Launch} {e : Env} {s : State} {m : MethodId} {args : Array Value} {below : List Frame} {meth : Method} {c : Code} {G : e_G} {res : (Int32 × e_H)} (E : e_M G p s args m meth c cX8_blown 7 (some FieldType.int) RX8) (h : e_H) (hM : fX8_blown_b73 h = some res) {H : Heap} {locs : List Loc} (J : e_J G s h H locs) {ls : Array Slot} (hl : lv_has ls 7 [(6, .null)]) : W p l e (e_rm 6 147) s m args below meth c H locs 0 0 (MQ below (e_Q G res.2 (some (.int res.1))) args s 0 0 (e_A G)) (F0 m 73 ls []) := by
  obtain ⟨hx, hb, hr, hml, hown, hts, hlocks, hES, hbs⟩ := id E
  unfold fX8_blown_b73 at hM
  refine lv_aloadN hx hb dX8_blown_73 (lv_at hl 0 rfl) ?_
  refine lv_ifnonnullN hx hb dX8_blown_75 ?_
  refine lv_ldc (v := -1000000002) hx hb hown (hts _ q_2_230) dX8_blown_78 ?_
  refine lv_goto (tgt := 88) hx hb dX8_blown_80 (by decide) ?_
  obtain rfl := e_so hM
  exact e_iret E J dX8_blown_88
set_option maxRecDepth 100000 in
set_option maxHeartbeats 4000000 in
theorem mX8_blown_b73x1 {p : Program} {l : Launch} {e : Env} {s : State} {m : MethodId} {args : Array Value} {below : List Frame} {meth : Method} {c : Code} {G : e_G} {res : (Int32 × e_H)} (E : e_M G p s args m meth c cX8_blown 7 (some FieldType.int) RX8) (l6 : Nat) (h : e_H) (hM : fX8_blown_b73x1 l6 h = some res) {H : Heap} {locs : List Loc} (J : e_J G s h H locs) {ls : Array Slot} (hl : lv_has ls 7 [(6, .ref (e_ad G l6))]) : W p l e (e_rm 6 147) s m args below meth c H locs 0 0 (MQ below (e_Q G res.2 (some (.int res.1))) args s 0 0 (e_A G)) (F0 m 73 ls []) := by
  obtain ⟨hx, hb, hr, hml, hown, hts, hlocks, hES, hbs⟩ := id E
  unfold fX8_blown_b73x1 at hM
  refine lv_aload hx hb dX8_blown_73 (lv_at hl 0 rfl) ?_
  refine lv_ifnonnull (tgt := 83) hx hb dX8_blown_75 (by decide) ?_
  refine lv_aload hx hb dX8_blown_83 (lv_at hl 0 rfl) ?_
  obtain ⟨v1, hv, hM⟩ := e_bs hM
  obtain ⟨fs_, hk, -⟩ := e_bs hv
  refine e_callV (ci := 3) (As := []) (rest := []) (n := 0) E J hk rfl (mX3_least (l := l) (G := G) l6 h _ hv) q_2_193 q_2_194 q_2_195 q_1_5 q_2_196 (by decide +kernel) rfl ⟨Nat.le_of_ble_eq_true rfl, Nat.le_of_ble_eq_true rfl⟩ (st0 := [.ref (e_ad G l6)]) (st1 := [.int v1]) rfl rfl hl.1 (Nat.le_of_ble_eq_true rfl) dX8_blown_85 ⟨Nat.le_refl _, Nat.le_refl _⟩ (fun H locs J => ?_)
  obtain rfl := e_so hM
  exact e_iret E J dX8_blown_88
set_option maxRecDepth 100000 in
set_option maxHeartbeats 4000000 in
theorem mX8_blown_b38 {p : Program} {l : Launch} {e : Env} {s : State} {m : MethodId} {args : Array Value} {below : List Frame} {meth : Method} {c : Code} {G : e_G} {res : (Int32 × e_H)} (E : e_M G p s args m meth c cX8_blown 7 (some FieldType.int) RX8) (l0 : Nat) (l3 : Int32) (l4 : Int32) (h : e_H) (hM : fX8_blown_b38 l0 l3 l4 h = some res) {H : Heap} {locs : List Loc} (J : e_J G s h H locs) {ls : Array Slot} (hl : lv_has ls 7 [(0, .ref (e_ad G l0)), (3, .int l3), (4, .int l4)]) : W p l e (e_rm 6 147) s m args below meth c H locs 0 0 (MQ below (e_Q G res.2 (some (.int res.1))) args s 0 0 (e_A G)) (F0 m 38 ls []) := by
  obtain ⟨hx, hb, hr, hml, hown, hts, hlocks, hES, hbs⟩ := id E
  unfold fX8_blown_b38 at hM
  refine lv_aload_n hx hb dX8_blown_38 rfl (lv_at hl 0 rfl) ?_
  obtain ⟨v1, hv, hM⟩ := e_bs hM
  refine e_getR (C := RX8) (T := TX8) (N := 10) E J hv rfl inX8 (by decide) q_1_201 dX8_blown_39 ?_
  rcases v1 with _ | a2
  · have hM := e_on0 hM
    refine W.eq (g2 := F0 m 42 ls [.null]) rfl ?_
    refine lv_iconst (v := nI 1) hx hb dX8_blown_42 (by decide) ?_
    refine lv_iload_n hx hb dX8_blown_43 rfl (lv_at hl 1 rfl) ?_
    exact e_no hM
  · have hM := e_on1 hM
    refine W.eq (g2 := F0 m 42 ls [.ref (e_ad G a2)]) rfl ?_
    refine lv_iconst (v := nI 1) hx hb dX8_blown_42 (by decide) ?_
    refine lv_iload_n hx hb dX8_blown_43 rfl (lv_at hl 1 rfl) ?_
    obtain ⟨p3, hv, hM⟩ := e_bs hM
    obtain ⟨fs_, hk, -⟩ := e_bs hv
    refine e_callV (ci := 6) (As := [.int (nI 1), .int l3]) (rest := []) (n := 2) E J hk rfl (mX6_blow (l := l) (G := G) a2 (nI 1) l3 h _ hv) q_3_11 q_3_12 q_3_13 q_1_4 q_3_14 (by decide +kernel) rfl ⟨Nat.le_of_ble_eq_true rfl, Nat.le_of_ble_eq_true rfl⟩ (st0 := [.int l3, .int (nI 1), .ref (e_ad G a2)]) (st1 := [e_r G p3.1]) rfl rfl hl.1 (Nat.le_of_ble_eq_true rfl) dX8_blown_44 ⟨Nat.le_refl _, Nat.le_refl _⟩ (fun H locs J => ?_)
    obtain ⟨r4, hr4⟩ := p3
    rcases r4 with _ | a5
    · have hM := e_on0 hM
      refine W.eq (g2 := F0 m 47 ls [.null]) rfl ?_
      refine lv_astoreN (lv' := [(6, .null), (0, .ref (e_ad G l0)), (3, .int l3), (4, .int l4)]) hx hb dX8_blown_47 hl (by decide) rfl (fun ls hl => ?_)
      refine lv_aloadN hx hb dX8_blown_49 (lv_at hl 0 rfl) ?_
      refine lv_ifnullN (tgt := 73) hx hb dX8_blown_51 (by decide) ?_
      exact mX8_blown_b73 E hr4 hM J (lv_sub hl [0] rfl)
    · have hM := e_on1 hM
      refine W.eq (g2 := F0 m 47 ls [.ref (e_ad G a5)]) rfl ?_
      refine lv_astore (lv' := [(6, .ref (e_ad G a5)), (0, .ref (e_ad G l0)), (3, .int l3), (4, .int l4)]) hx hb dX8_blown_47 hl (by decide) rfl (fun ls hl => ?_)
      refine lv_aload hx hb dX8_blown_49 (lv_at hl 0 rfl) ?_
      refine lv_ifnull hx hb dX8_blown_51 ?_
      refine lv_iload hx hb dX8_blown_54 (lv_at hl 3 rfl) ?_
      refine lv_bipush (v := nI 6) hx hb dX8_blown_56 (by decide) ?_
      refine lv_icmp_eq (tgt := 73) hx hb dX8_blown_58 (by decide) (fun hc => ?_) (fun hc => ?_)
      · have hM := e_ip hc hM
        exact mX8_blown_b73x1 E a5 hr4 hM J (lv_sub hl [0] rfl)
      · have hM := e_in hc hM
        refine lv_aload_n hx hb dX8_blown_61 rfl (lv_at hl 1 rfl) ?_
        obtain ⟨v6, hv, hM⟩ := e_bs hM
        refine e_getR (C := RX8) (T := TX8) (N := 10) E J hv rfl inX8 (by decide) q_1_201 dX8_blown_62 ?_
        rcases v6 with _ | a7
        · have hM := e_on0 hM
          refine W.eq (g2 := F0 m 65 ls [.null]) rfl ?_
          refine lv_iconst (v := nI 2) hx hb dX8_blown_65 (by decide) ?_
          refine lv_iload hx hb dX8_blown_66 (lv_at hl 3 rfl) ?_
          exact e_no hM
        · have hM := e_on1 hM
          refine W.eq (g2 := F0 m 65 ls [.ref (e_ad G a7)]) rfl ?_
          refine lv_iconst (v := nI 2) hx hb dX8_blown_65 (by decide) ?_
          refine lv_iload hx hb dX8_blown_66 (lv_at hl 3 rfl) ?_
          obtain ⟨p8, hv, hM⟩ := e_bs hM
          obtain ⟨fs_, hk, -⟩ := e_bs hv
          refine e_callV (ci := 6) (As := [.int (nI 2), .int l4]) (rest := []) (n := 2) E J hk rfl (mX6_blow (l := l) (G := G) a7 (nI 2) l4 hr4 _ hv) q_3_11 q_3_12 q_3_13 q_1_4 q_3_14 (by decide +kernel) rfl ⟨Nat.le_of_ble_eq_true rfl, Nat.le_of_ble_eq_true rfl⟩ (st0 := [.int l4, .int (nI 2), .ref (e_ad G a7)]) (st1 := [e_r G p8.1]) rfl rfl hl.1 (Nat.le_of_ble_eq_true rfl) dX8_blown_68 ⟨Nat.le_refl _, Nat.le_refl _⟩ (fun H locs J => ?_)
          obtain ⟨r9, hr9⟩ := p8
          rcases r9 with _ | a10
          · have hM := e_on0 hM
            refine W.eq (g2 := F0 m 71 ls [.null]) rfl ?_
            refine lv_astoreN (lv' := [(6, .null), (0, .ref (e_ad G l0)), (3, .int l3), (4, .int l4)]) hx hb dX8_blown_71 hl (by decide) rfl (fun ls hl => ?_)
            exact mX8_blown_b73 E hr9 hM J (lv_sub hl [0] rfl)
          · have hM := e_on1 hM
            refine W.eq (g2 := F0 m 71 ls [.ref (e_ad G a10)]) rfl ?_
            refine lv_astore (lv' := [(6, .ref (e_ad G a10)), (0, .ref (e_ad G l0)), (3, .int l3), (4, .int l4)]) hx hb dX8_blown_71 hl (by decide) rfl (fun ls hl => ?_)
            exact mX8_blown_b73x1 E a10 hr9 hM J (lv_sub hl [0] rfl)
set_option maxRecDepth 100000 in
set_option maxHeartbeats 4000000 in
theorem mX8_blown {l : Launch} {G : e_G} (l0 : Nat) (l1 : Int32) (l2 : Int32) (l3 : Int32) (l4 : Int32) (h : e_H) (res : (Int32 × e_H)) (hM : fX8_blown l0 l1 l2 l3 l4 h = some res) : Met l yX8_blown (e_W yX8_blown cX8_blown 7 (some FieldType.int)) (e_rm 6 147) (e_Pc G h [.ref (e_ad G l0), .int l1, .int l2, .int l3, .int l4]) (e_Q G res.2 (some (.int res.1))) 0 0 (e_A G) := by
  refine Met.ofW (cc := cX8_blown) (maxL := 7) (ret := (some FieldType.int)) (by decide) rfl ?_
  intro p e s m args below meth c s₁ B hml hv
  obtain ⟨rfl, hS, hP⟩ := hv
  have E := e_enter (own := RX8) (ret := (some FieldType.int)) B hml rfl hS hP
  have J : e_J G s h s.heap [] := ⟨hP, va_S.rf⟩
  have hl := lv_entry ([.ref (e_ad G l0), .int l1, .int l2, .int l3, .int l4]) (n := 7) (Nat.le_of_ble_eq_true rfl)
  rw [lg_entry_eq]
  generalize (lg_sl ([.ref (e_ad G l0), .int l1, .int l2, .int l3, .int l4]) ++ List.replicate (7 - (lg_sl ([.ref (e_ad G l0), .int l1, .int l2, .int l3, .int l4])).length) Slot.unset).toArray = ls at hl ⊢
  have hl : lv_has ls 7 [(0, .ref (e_ad G l0)), (1, .int l1), (2, .int l2), (3, .int l3), (4, .int l4)] := hl
  obtain ⟨hx, hb, hr, hml, hown, hts, hlocks, hES, hbs⟩ := id E
  unfold fX8_blown at hM
  obtain ⟨fs_, hk_, hM⟩ := e_bs hM
  refine lv_aload_n hx hb dX8_blown_0 rfl (lv_at hl 0 rfl) ?_
  refine lv_iload_n hx hb dX8_blown_1 rfl (lv_at hl 1 rfl) ?_
  refine lv_iload_n hx hb dX8_blown_2 rfl (lv_at hl 2 rfl) ?_
  obtain ⟨p1, hv, hM⟩ := e_bs hM
  obtain ⟨fs_, hk, -⟩ := e_bs hv
  refine e_callV (ci := 8) (As := [.int l1, .int l2]) (rest := []) (n := 2) E J hk rfl (mX8_shapeAt (l := l) (G := G) l0 l1 l2 h _ hv) q_2_161 q_2_163 q_p_2 q_1_1 q_2_164 (by decide +kernel) rfl ⟨Nat.le_of_ble_eq_true rfl, Nat.le_of_ble_eq_true rfl⟩ (st0 := [.int l2, .int l1, .ref (e_ad G l0)]) (st1 := [e_r G p1.1]) rfl rfl hl.1 (Nat.le_of_ble_eq_true rfl) dX8_blown_3 ⟨Nat.le_refl _, Nat.le_refl _⟩ (fun H locs J => ?_)
  obtain ⟨r2, hr2⟩ := p1
  rcases r2 with _ | a3
  · have hM := e_on0 hM
    refine W.eq (g2 := F0 m 6 ls [.null]) rfl ?_
    refine lv_astoreN (lv' := [(5, .null), (0, .ref (e_ad G l0)), (1, .int l1), (2, .int l2), (3, .int l3), (4, .int l4)]) hx hb dX8_blown_6 hl (by decide) rfl (fun ls hl => ?_)
    refine lv_aloadN hx hb dX8_blown_8 (lv_at hl 0 rfl) ?_
    refine lv_ifnullN (tgt := 35) hx hb dX8_blown_10 (by decide) ?_
    refine lv_ldc (v := -1000000001) hx hb hown (hts _ q_1_237) dX8_blown_35 ?_
    obtain rfl := e_so hM
    exact e_iret E J dX8_blown_37
  · have hM := e_on1 hM
    refine W.eq (g2 := F0 m 6 ls [.ref (e_ad G a3)]) rfl ?_
    refine lv_astore (lv' := [(5, .ref (e_ad G a3)), (0, .ref (e_ad G l0)), (1, .int l1), (2, .int l2), (3, .int l3), (4, .int l4)]) hx hb dX8_blown_6 hl (by decide) rfl (fun ls hl => ?_)
    refine lv_aload hx hb dX8_blown_8 (lv_at hl 0 rfl) ?_
    refine lv_ifnull hx hb dX8_blown_10 ?_
    refine lv_iload_n hx hb dX8_blown_13 rfl (lv_at hl 4 rfl) ?_
    obtain ⟨v4, hv, hM⟩ := e_bs hM
    refine e_callS (As := [.int l3]) (rest := []) (n := 1) E J (mX8_isSlope (l := l) (G := G) l3 hr2 _ hv) q_2_235 q_2_236 q_1_1 q_2_237 (by decide +kernel) rfl ⟨Nat.le_of_ble_eq_true rfl, Nat.le_of_ble_eq_true rfl⟩ (st0 := [.int l3]) (st1 := [.int (e_b v4)]) rfl rfl hl.1 (Nat.le_of_ble_eq_true rfl) dX8_blown_14 ⟨Nat.le_refl _, Nat.le_refl _⟩ (fun H locs J => ?_)
    refine lv_if_eq (tgt := 35) hx hb dX8_blown_17 (by decide) (fun hc => ?_) (fun hc => ?_)
    · have hM := e_ip hc hM
      refine lv_ldc (v := -1000000001) hx hb hown (hts _ q_1_237) dX8_blown_35 ?_
      obtain rfl := e_so hM
      exact e_iret E J dX8_blown_37
    · have hM := e_in hc hM
      refine lv_iload hx hb dX8_blown_20 (lv_at hl 5 rfl) ?_
      refine lv_bipush (v := nI 6) hx hb dX8_blown_22 (by decide) ?_
      refine lv_icmp_eq (tgt := 38) hx hb dX8_blown_24 (by decide) (fun hc => ?_) (fun hc => ?_)
      · have hM := e_ip hc hM
        exact mX8_blown_b38 E l0 l3 l4 hr2 hM J (lv_sub hl [1, 4, 5] rfl)
      · have hM := e_in hc hM
        refine lv_iload hx hb dX8_blown_27 (lv_at hl 5 rfl) ?_
        obtain ⟨v5, hv, hM⟩ := e_bs hM
        refine e_callS (As := [.int l4]) (rest := []) (n := 1) E J (mX8_isSlope (l := l) (G := G) l4 hr2 _ hv) q_2_235 q_2_236 q_1_1 q_2_237 (by decide +kernel) rfl ⟨Nat.le_of_ble_eq_true rfl, Nat.le_of_ble_eq_true rfl⟩ (st0 := [.int l4]) (st1 := [.int (e_b v5)]) rfl rfl hl.1 (Nat.le_of_ble_eq_true rfl) dX8_blown_29 ⟨Nat.le_refl _, Nat.le_refl _⟩ (fun H locs J => ?_)
        refine lv_if_ne (tgt := 38) hx hb dX8_blown_32 (by decide) (fun hc => ?_) (fun hc => ?_)
        · have hM := e_in hc hM
          exact mX8_blown_b38 E l0 l3 l4 hr2 hM J (lv_sub hl [1, 4, 5] rfl)
        · have hM := e_ip hc hM
          refine lv_ldc (v := -1000000001) hx hb hown (hts _ q_1_237) dX8_blown_35 ?_
          obtain rfl := e_so hM
          exact e_iret E J dX8_blown_37
set_option maxRecDepth 100000 in
set_option maxHeartbeats 4000000 in
theorem mX6_clearTree {l : Launch} {G : e_G} (l0 : Nat) (h : e_H) (res : e_H) (hM : fX6_clearTree l0 h = some res) : Met l yX6_clearTree (e_W yX6_clearTree cX6_clearTree 1 none) (e_rm 0 0) (e_Pc G h [.ref (e_ad G l0)]) (e_Q G res (none)) 0 0 (e_A G) := by
  refine Met.ofW (cc := cX6_clearTree) (maxL := 1) (ret := none) (by decide) rfl ?_
  intro p e s m args below meth c s₁ B hml hv
  obtain ⟨rfl, hS, hP⟩ := hv
  have E := e_enter (own := RX6) (ret := none) B hml rfl hS hP
  have J : e_J G s h s.heap [] := ⟨hP, va_S.rf⟩
  have hl := lv_entry ([.ref (e_ad G l0)]) (n := 1) (Nat.le_of_ble_eq_true rfl)
  rw [lg_entry_eq]
  generalize (lg_sl ([.ref (e_ad G l0)]) ++ List.replicate (1 - (lg_sl ([.ref (e_ad G l0)])).length) Slot.unset).toArray = ls at hl ⊢
  have hl : lv_has ls 1 [(0, .ref (e_ad G l0))] := hl
  obtain ⟨hx, hb, hr, hml, hown, hts, hlocks, hES, hbs⟩ := id E
  unfold fX6_clearTree at hM
  obtain ⟨fs_, hk_, hM⟩ := e_bs hM
  refine lv_aload_n hx hb dX6_clearTree_0 rfl (lv_at hl 0 rfl) ?_
  refine lv_iconst (v := nI 0) hx hb dX6_clearTree_1 (by decide) ?_
  obtain ⟨h1, hv, hM⟩ := e_bs hM
  refine e_putv (C := RX6) (T := TX6) (N := 9) E J hv rfl rfl inX6 tyX6 tyX6_ok nmX6 (by decide) q_1_91 rfl rfl rfl rfl dX6_clearTree_2 (fun H locs J => ?_)
  refine lv_aload_n hx hb dX6_clearTree_5 rfl (lv_at hl 0 rfl) ?_
  refine lv_iconst (v := nI 0) hx hb dX6_clearTree_6 (by decide) ?_
  obtain ⟨h2, hv, hM⟩ := e_bs hM
  refine e_putv (C := RX6) (T := TX6) (N := 9) E J hv rfl rfl inX6 tyX6 tyX6_ok nmX6 (by decide) q_1_93 rfl rfl rfl rfl dX6_clearTree_7 (fun H locs J => ?_)
  refine lv_aload_n hx hb dX6_clearTree_10 rfl (lv_at hl 0 rfl) ?_
  refine lv_iconst (v := nI 0) hx hb dX6_clearTree_11 (by decide) ?_
  obtain ⟨h3, hv, hM⟩ := e_bs hM
  refine e_putv (C := RX6) (T := TX6) (N := 9) E J hv rfl rfl inX6 tyX6 tyX6_ok nmX6 (by decide) q_1_95 rfl rfl rfl rfl dX6_clearTree_12 (fun H locs J => ?_)
  obtain rfl := e_so hM
  exact e_vret E J dX6_clearTree_15
set_option maxRecDepth 100000 in
set_option maxHeartbeats 4000000 in
theorem mX6_grow_b95 {p : Program} {l : Launch} {e : Env} {s : State} {m : MethodId} {args : Array Value} {below : List Frame} {meth : Method} {c : Code} {G : e_G} {rec : Nat → Int32 → Int32 → e_H → Option (Bool × e_H)} {fr nr : Nat} {res : (Bool × e_H)} (E : e_M G p s args m meth c cX6_grow 8 (some FieldType.boolean) RX6) (Hrec : ∀ (a0 : Nat) (a1 : Int32) (a2 : Int32) (h : e_H) (res : (Bool × e_H)), rec a0 a1 a2 h = some res → Met l yX6_grow (e_W yX6_grow cX6_grow 8 (some FieldType.boolean)) (e_rm fr nr) (e_Pc G h [.ref (e_ad G a0), .int a1, .int a2]) (e_Q G res.2 (some (.int (e_b res.1)))) 0 0 (e_A G)) (hcf : 4 ≤ fr) (hcn : 99 ≤ nr) (t0 : Int32) (t1 : Int32) (t2 : Nat) (h : e_H) (hM : fX6_grow_b95 rec t0 t1 t2 h = some res) {H : Heap} {locs : List Loc} (J : e_J G s h H locs) {ls : Array Slot} (hl : lv_has ls 8 []) : W p l e (e_rm (fr + 1) (nr + 40)) s m args below meth c H locs 0 0 (MQ below (e_Q G res.2 (some (.int (e_b res.1)))) args s 0 0 (e_A G)) (F0 m 95 ls [.int t0, .int t1, .ref (e_ad G t2)]) := by
  obtain ⟨hx, hb, hr, hml, hown, hts, hlocks, hES, hbs⟩ := id E
  unfold fX6_grow_b95 at hM
  refine lv_iadd hx hb dX6_grow_95 ?_
  obtain ⟨h1, hv, hM⟩ := e_bs hM
  refine e_putv (C := RX6) (T := TX6) (N := 9) E J hv rfl rfl inX6 tyX6 tyX6_ok nmX6 (by decide) q_1_95 rfl rfl rfl rfl dX6_grow_96 (fun H locs J => ?_)
  refine lv_iconst (v := nI 1) hx hb dX6_grow_99 (by decide) ?_
  obtain rfl := e_so hM
  exact e_zret E J (true) rfl dX6_grow_100
set_option maxRecDepth 100000 in
set_option maxHeartbeats 4000000 in
theorem mX6_grow_b181 {p : Program} {l : Launch} {e : Env} {s : State} {m : MethodId} {args : Array Value} {below : List Frame} {meth : Method} {c : Code} {G : e_G} {rec : Nat → Int32 → Int32 → e_H → Option (Bool × e_H)} {fr nr : Nat} {res : (Bool × e_H)} (E : e_M G p s args m meth c cX6_grow 8 (some FieldType.boolean) RX6) (Hrec : ∀ (a0 : Nat) (a1 : Int32) (a2 : Int32) (h : e_H) (res : (Bool × e_H)), rec a0 a1 a2 h = some res → Met l yX6_grow (e_W yX6_grow cX6_grow 8 (some FieldType.boolean)) (e_rm fr nr) (e_Pc G h [.ref (e_ad G a0), .int a1, .int a2]) (e_Q G res.2 (some (.int (e_b res.1)))) 0 0 (e_A G)) (hcf : 4 ≤ fr) (hcn : 99 ≤ nr) (t0 : Int32) (t1 : Int32) (t2 : Nat) (h : e_H) (hM : fX6_grow_b181 rec t0 t1 t2 h = some res) {H : Heap} {locs : List Loc} (J : e_J G s h H locs) {ls : Array Slot} (hl : lv_has ls 8 []) : W p l e (e_rm (fr + 1) (nr + 40)) s m args below meth c H locs 0 0 (MQ below (e_Q G res.2 (some (.int (e_b res.1)))) args s 0 0 (e_A G)) (F0 m 181 ls [.int t0, .int t1, .ref (e_ad G t2)]) := by
  obtain ⟨hx, hb, hr, hml, hown, hts, hlocks, hES, hbs⟩ := id E
  unfold fX6_grow_b181 at hM
  refine lv_iadd hx hb dX6_grow_181 ?_
  obtain ⟨h1, hv, hM⟩ := e_bs hM
  refine e_putv (C := RX6) (T := TX6) (N := 9) E J hv rfl rfl inX6 tyX6 tyX6_ok nmX6 (by decide) q_1_95 rfl rfl rfl rfl dX6_grow_182 (fun H locs J => ?_)
  refine lv_iconst (v := nI 1) hx hb dX6_grow_185 (by decide) ?_
  obtain rfl := e_so hM
  exact e_zret E J (true) rfl dX6_grow_186
set_option maxRecDepth 100000 in
set_option maxHeartbeats 4000000 in
theorem mX6_grow_b160 {p : Program} {l : Launch} {e : Env} {s : State} {m : MethodId} {args : Array Value} {below : List Frame} {meth : Method} {c : Code} {G : e_G} {rec : Nat → Int32 → Int32 → e_H → Option (Bool × e_H)} {fr nr : Nat} {res : (Bool × e_H)} {k117 : Nat → Int32 → Int32 → Int32 → Int32 → Int32 → e_H → Option (Bool × e_H)} (E : e_M G p s args m meth c cX6_grow 8 (some FieldType.boolean) RX6) (Hrec : ∀ (a0 : Nat) (a1 : Int32) (a2 : Int32) (h : e_H) (res : (Bool × e_H)), rec a0 a1 a2 h = some res → Met l yX6_grow (e_W yX6_grow cX6_grow 8 (some FieldType.boolean)) (e_rm fr nr) (e_Pc G h [.ref (e_ad G a0), .int a1, .int a2]) (e_Q G res.2 (some (.int (e_b res.1)))) 0 0 (e_A G)) (hcf : 4 ≤ fr) (hcn : 99 ≤ nr) (K117 : ∀ (l0 : Nat) (l1 : Int32) (l2 : Int32) (l5 : Int32) (l6 : Int32) (l7 : Int32) (h : e_H), k117 l0 l1 l2 l5 l6 l7 h = some res → ∀ (H : Heap) (locs : List Loc), e_J G s h H locs → ∀ (ls : Array Slot), lv_has ls 8 [(0, .ref (e_ad G l0)), (1, .int l1), (2, .int l2), (5, .int l5), (6, .int l6), (7, .int l7)] → W p l e (e_rm (fr + 1) (nr + 40)) s m args below meth c H locs 0 0 (MQ below (e_Q G res.2 (some (.int (e_b res.1)))) args s 0 0 (e_A G)) (F0 m 117 ls [])) (l0 : Nat) (l1 : Int32) (l2 : Int32) (l5 : Int32) (l6 : Int32) (l7 : Int32) (h : e_H) (hM : fX6_grow_b160 rec k117 l0 l1 l2 l5 l6 l7 h = some res) {H : Heap} {locs : List Loc} (J : e_J G s h H locs) {ls : Array Slot} (hl : lv_has ls 8 [(0, .ref (e_ad G l0)), (1, .int l1), (2, .int l2), (5, .int l5), (6, .int l6), (7, .int l7)]) : W p l e (e_rm (fr + 1) (nr + 40)) s m args below meth c H locs 0 0 (MQ below (e_Q G res.2 (some (.int (e_b res.1)))) args s 0 0 (e_A G)) (F0 m 160 ls []) := by
  obtain ⟨hx, hb, hr, hml, hown, hts, hlocks, hES, hbs⟩ := id E
  unfold fX6_grow_b160 at hM
  refine lv_iinc (v := (l7 + (nI 1))) (lv' := [(7, .int (l7 + (nI 1))), (0, .ref (e_ad G l0)), (1, .int l1), (2, .int l2), (5, .int l5), (6, .int l6)]) hx hb dX6_grow_160 hl (k := 5) rfl rfl (by decide) rfl (fun ls hl => ?_)
  refine lv_goto (tgt := 117) hx hb dX6_grow_163 (by decide) ?_
  exact K117 l0 l1 l2 l5 l6 (l7 + (nI 1)) h hM _ _ J _ (lv_sub hl [1, 2, 3, 4, 5, 0] rfl)
set_option maxRecDepth 100000 in
set_option maxHeartbeats 4000000 in
theorem mX6_grow_b117 {p : Program} {l : Launch} {e : Env} {s : State} {m : MethodId} {args : Array Value} {below : List Frame} {meth : Method} {c : Code} {G : e_G} {rec : Nat → Int32 → Int32 → e_H → Option (Bool × e_H)} {fr nr : Nat} {res : (Bool × e_H)} {k117 : Nat → Int32 → Int32 → Int32 → Int32 → Int32 → e_H → Option (Bool × e_H)} (E : e_M G p s args m meth c cX6_grow 8 (some FieldType.boolean) RX6) (Hrec : ∀ (a0 : Nat) (a1 : Int32) (a2 : Int32) (h : e_H) (res : (Bool × e_H)), rec a0 a1 a2 h = some res → Met l yX6_grow (e_W yX6_grow cX6_grow 8 (some FieldType.boolean)) (e_rm fr nr) (e_Pc G h [.ref (e_ad G a0), .int a1, .int a2]) (e_Q G res.2 (some (.int (e_b res.1)))) 0 0 (e_A G)) (hcf : 4 ≤ fr) (hcn : 99 ≤ nr) (K117 : ∀ (l0 : Nat) (l1 : Int32) (l2 : Int32) (l5 : Int32) (l6 : Int32) (l7 : Int32) (h : e_H), k117 l0 l1 l2 l5 l6 l7 h = some res → ∀ (H : Heap) (locs : List Loc), e_J G s h H locs → ∀ (ls : Array Slot), lv_has ls 8 [(0, .ref (e_ad G l0)), (1, .int l1), (2, .int l2), (5, .int l5), (6, .int l6), (7, .int l7)] → W p l e (e_rm (fr + 1) (nr + 40)) s m args below meth c H locs 0 0 (MQ below (e_Q G res.2 (some (.int (e_b res.1)))) args s 0 0 (e_A G)) (F0 m 117 ls [])) (l0 : Nat) (l1 : Int32) (l2 : Int32) (l5 : Int32) (l6 : Int32) (l7 : Int32) (h : e_H) (hM : fX6_grow_b117 rec k117 l0 l1 l2 l5 l6 l7 h = some res) {H : Heap} {locs : List Loc} (J : e_J G s h H locs) {ls : Array Slot} (hl : lv_has ls 8 [(0, .ref (e_ad G l0)), (1, .int l1), (2, .int l2), (5, .int l5), (6, .int l6), (7, .int l7)]) : W p l e (e_rm (fr + 1) (nr + 40)) s m args below meth c H locs 0 0 (MQ below (e_Q G res.2 (some (.int (e_b res.1)))) args s 0 0 (e_A G)) (F0 m 117 ls []) := by
  obtain ⟨hx, hb, hr, hml, hown, hts, hlocks, hES, hbs⟩ := id E
  unfold fX6_grow_b117 at hM
  refine lv_iload hx hb dX6_grow_117 (lv_at hl 5 rfl) ?_
  refine lv_iconst (v := nI 5) hx hb dX6_grow_119 (by decide) ?_
  refine lv_icmp_gt (tgt := 166) hx hb dX6_grow_120 (by decide) (fun hc => ?_) (fun hc => ?_)
  · have hM := e_ip hc hM
    refine lv_aload_n hx hb dX6_grow_166 rfl (lv_at hl 0 rfl) ?_
    refine lv_dup hx hb dX6_grow_167 rfl ?_
    obtain ⟨v1, hv, hM⟩ := e_bs hM
    refine e_getI (C := RX6) (T := TX6) (N := 9) E J hv rfl inX6 (by decide) q_1_95 dX6_grow_168 ?_
    refine lv_iload hx hb dX6_grow_171 (lv_at hl 3 rfl) ?_
    refine lv_if_ne (tgt := 180) hx hb dX6_grow_173 (by decide) (fun hc => ?_) (fun hc => ?_)
    · have hM := e_in hc hM
      refine lv_iconst (v := nI 0) hx hb dX6_grow_180 (by decide) ?_
      exact mX6_grow_b181 E Hrec hcf hcn (nI 0) v1 l0 h hM J (lv_sub hl [] rfl)
    · have hM := e_ip hc hM
      refine lv_iconst (v := nI 1) hx hb dX6_grow_176 (by decide) ?_
      refine lv_goto (tgt := 181) hx hb dX6_grow_177 (by decide) ?_
      exact mX6_grow_b181 E Hrec hcf hcn (nI 1) v1 l0 h hM J (lv_sub hl [] rfl)
  · have hM := e_in hc hM
    refine lv_iload hx hb dX6_grow_123 (lv_at hl 4 rfl) ?_
    refine lv_iload hx hb dX6_grow_125 (lv_at hl 5 rfl) ?_
    refine lv_iconst (v := nI 5) hx hb dX6_grow_127 (by decide) ?_
    refine lv_iadd hx hb dX6_grow_128 ?_
    refine lv_ishr hx hb dX6_grow_129 ?_
    refine lv_iconst (v := nI 1) hx hb dX6_grow_130 (by decide) ?_
    refine lv_iand hx hb dX6_grow_131 ?_
    refine lv_iconst (v := nI 1) hx hb dX6_grow_132 (by decide) ?_
    refine lv_icmp_ne (tgt := 160) hx hb dX6_grow_133 (by decide) (fun hc => ?_) (fun hc => ?_)
    · have hM := e_in hc hM
      exact mX6_grow_b160 E Hrec hcf hcn K117 l0 l1 l2 l5 l6 l7 h hM J (lv_sub hl [0, 1, 2, 3, 4, 5] rfl)
    · have hM := e_ip hc hM
      refine lv_aload_n hx hb dX6_grow_136 rfl (lv_at hl 0 rfl) ?_
      refine lv_iload_n hx hb dX6_grow_137 rfl (lv_at hl 1 rfl) ?_
      refine lv_iload hx hb dX6_grow_138 (lv_at hl 5 rfl) ?_
      obtain ⟨p2, hv, hM⟩ := e_bs hM
      obtain ⟨fs_, hk, -⟩ := e_bs hv
      refine e_callV (ci := 6) (As := [.int l1, .int l7]) (rest := []) (n := 2) E J hk rfl (mX6_blow (l := l) (G := G) l0 l1 l7 h _ hv) q_3_39 q_3_12 q_3_13 q_1_4 q_3_14 (by decide +kernel) rfl ⟨e_rf (by omega), e_rl (by omega)⟩ (st0 := [.int l7, .int l1, .ref (e_ad G l0)]) (st1 := [e_r G p2.1]) rfl rfl hl.1 (Nat.le_of_ble_eq_true rfl) dX6_grow_140 ⟨Nat.le_refl _, Nat.le_refl _⟩ (fun H locs J => ?_)
      obtain ⟨r3, hr3⟩ := p2
      rcases r3 with _ | a4
      · have hM := e_on0 hM
        refine W.eq (g2 := F0 m 143 ls [.null]) rfl ?_
        refine lv_ifnullN (tgt := 160) hx hb dX6_grow_143 (by decide) ?_
        exact mX6_grow_b160 E Hrec hcf hcn K117 l0 l1 l2 l5 l6 l7 hr3 hM J (lv_sub hl [0, 1, 2, 3, 4, 5] rfl)
      · have hM := e_on1 hM
        refine W.eq (g2 := F0 m 143 ls [.ref (e_ad G a4)]) rfl ?_
        refine lv_ifnull hx hb dX6_grow_143 ?_
        refine lv_aload_n hx hb dX6_grow_146 rfl (lv_at hl 0 rfl) ?_
        refine lv_iload_n hx hb dX6_grow_147 rfl (lv_at hl 1 rfl) ?_
        refine lv_iconst (v := nI 1) hx hb dX6_grow_148 (by decide) ?_
        refine lv_iadd hx hb dX6_grow_149 ?_
        refine lv_iload_n hx hb dX6_grow_150 rfl (lv_at hl 2 rfl) ?_
        obtain ⟨p5, hv, hM⟩ := e_bs hM
        refine e_callS (As := [.ref (e_ad G l0), .int (l1 + (nI 1)), .int l2]) (rest := []) (n := 3) E J (Hrec l0 (l1 + (nI 1)) l2 hr3 _ hv) q_3_35 q_3_36 q_1_4 q_3_37 (by decide +kernel) rfl ⟨e_rf (by omega), e_rl (by omega)⟩ (st0 := [.int l2, .int (l1 + (nI 1)), .ref (e_ad G l0)]) (st1 := [.int (e_b p5.1)]) rfl rfl hl.1 (Nat.le_of_ble_eq_true rfl) dX6_grow_151 ⟨Nat.le_refl _, Nat.le_refl _⟩ (fun H locs J => ?_)
        refine lv_if_eq (tgt := 160) hx hb dX6_grow_154 (by decide) (fun hc => ?_) (fun hc => ?_)
        · have hM := e_ip hc hM
          exact mX6_grow_b160 E Hrec hcf hcn K117 l0 l1 l2 l5 l6 l7 p5.2 hM J (lv_sub hl [0, 1, 2, 3, 4, 5] rfl)
        · have hM := e_in hc hM
          refine lv_iinc (v := (l5 + (nI 1))) (lv' := [(5, .int (l5 + (nI 1))), (0, .ref (e_ad G l0)), (1, .int l1), (2, .int l2), (6, .int l6), (7, .int l7)]) hx hb dX6_grow_157 hl (k := 3) rfl rfl (by decide) rfl (fun ls hl => ?_)
          exact mX6_grow_b160 E Hrec hcf hcn K117 l0 l1 l2 (l5 + (nI 1)) l6 l7 p5.2 hM J (lv_sub hl [1, 2, 3, 0, 4, 5] rfl)
set_option maxRecDepth 100000 in
set_option maxHeartbeats 4000000 in
theorem mX6_grow_L117 {p : Program} {l : Launch} {e : Env} {s : State} {m : MethodId} {args : Array Value} {below : List Frame} {meth : Method} {c : Code} {G : e_G} {rec : Nat → Int32 → Int32 → e_H → Option (Bool × e_H)} {fr nr : Nat} {res : (Bool × e_H)} (E : e_M G p s args m meth c cX6_grow 8 (some FieldType.boolean) RX6) (Hrec : ∀ (a0 : Nat) (a1 : Int32) (a2 : Int32) (h : e_H) (res : (Bool × e_H)), rec a0 a1 a2 h = some res → Met l yX6_grow (e_W yX6_grow cX6_grow 8 (some FieldType.boolean)) (e_rm fr nr) (e_Pc G h [.ref (e_ad G a0), .int a1, .int a2]) (e_Q G res.2 (some (.int (e_b res.1)))) 0 0 (e_A G)) (hcf : 4 ≤ fr) (hcn : 99 ≤ nr) (n : Nat) (l0 : Nat) (l1 : Int32) (l2 : Int32) (l5 : Int32) (l6 : Int32) (l7 : Int32) (h : e_H) (hM : fX6_grow_L117 rec n l0 l1 l2 l5 l6 l7 h = some res) {H : Heap} {locs : List Loc} (J : e_J G s h H locs) {ls : Array Slot} (hl : lv_has ls 8 [(0, .ref (e_ad G l0)), (1, .int l1), (2, .int l2), (5, .int l5), (6, .int l6), (7, .int l7)]) : W p l e (e_rm (fr + 1) (nr + 40)) s m args below meth c H locs 0 0 (MQ below (e_Q G res.2 (some (.int (e_b res.1)))) args s 0 0 (e_A G)) (F0 m 117 ls []) := by
  induction n generalizing l0 l1 l2 l5 l6 l7 h H locs ls with
  | zero => exact e_no hM
  | succ n ih => exact mX6_grow_b117 (k117 := (fX6_grow_L117 rec n)) E Hrec hcf hcn   (fun l0 l1 l2 l5 l6 l7 h hM H locs J ls hl => ih l0 l1 l2 l5 l6 l7 h hM J hl) l0 l1 l2 l5 l6 l7 h hM J hl
set_option maxRecDepth 100000 in
set_option maxHeartbeats 4000000 in
theorem mX6_grow_r {l : Launch} {G : e_G} {rec : Nat → Int32 → Int32 → e_H → Option (Bool × e_H)} {fr nr : Nat} (Hrec : ∀ (a0 : Nat) (a1 : Int32) (a2 : Int32) (h : e_H) (res : (Bool × e_H)), rec a0 a1 a2 h = some res → Met l yX6_grow (e_W yX6_grow cX6_grow 8 (some FieldType.boolean)) (e_rm fr nr) (e_Pc G h [.ref (e_ad G a0), .int a1, .int a2]) (e_Q G res.2 (some (.int (e_b res.1)))) 0 0 (e_A G)) (hcf : 4 ≤ fr) (hcn : 99 ≤ nr) (l0 : Nat) (l1 : Int32) (l2 : Int32) (h : e_H) (res : (Bool × e_H)) (hM : fX6_grow_r rec l0 l1 l2 h = some res) : Met l yX6_grow (e_W yX6_grow cX6_grow 8 (some FieldType.boolean)) (e_rm (fr + 1) (nr + 40)) (e_Pc G h [.ref (e_ad G l0), .int l1, .int l2]) (e_Q G res.2 (some (.int (e_b res.1)))) 0 0 (e_A G) := by
  refine Met.ofW (cc := cX6_grow) (maxL := 8) (ret := (some FieldType.boolean)) (by decide) rfl ?_
  intro p e s m args below meth c s₁ B hml hv
  obtain ⟨rfl, hS, hP⟩ := hv
  have E := e_enter (own := RX6) (ret := (some FieldType.boolean)) B hml rfl hS hP
  have J : e_J G s h s.heap [] := ⟨hP, va_S.rf⟩
  have hl := lv_entry ([.ref (e_ad G l0), .int l1, .int l2]) (n := 8) (Nat.le_of_ble_eq_true rfl)
  rw [lg_entry_eq]
  generalize (lg_sl ([.ref (e_ad G l0), .int l1, .int l2]) ++ List.replicate (8 - (lg_sl ([.ref (e_ad G l0), .int l1, .int l2])).length) Slot.unset).toArray = ls at hl ⊢
  have hl : lv_has ls 8 [(0, .ref (e_ad G l0)), (1, .int l1), (2, .int l2)] := hl
  obtain ⟨hx, hb, hr, hml, hown, hts, hlocks, hES, hbs⟩ := id E
  unfold fX6_grow_r at hM
  refine lv_iload_n hx hb dX6_grow_0 rfl (lv_at hl 1 rfl) ?_
  refine lv_iconst (v := nI 1) hx hb dX6_grow_1 (by decide) ?_
  refine lv_icmp_lt (tgt := 19) hx hb dX6_grow_2 (by decide) (fun hc => ?_) (fun hc => ?_)
  · have hM := e_ip hc hM
    refine lv_iconst (v := nI 0) hx hb dX6_grow_19 (by decide) ?_
    obtain rfl := e_so hM
    exact e_zret E J (false) rfl dX6_grow_20
  · have hM := e_in hc hM
    refine lv_iload_n hx hb dX6_grow_5 rfl (lv_at hl 1 rfl) ?_
    refine lv_iload_n hx hb dX6_grow_6 rfl (lv_at hl 2 rfl) ?_
    refine lv_icmp_gt (tgt := 19) hx hb dX6_grow_7 (by decide) (fun hc => ?_) (fun hc => ?_)
    · have hM := e_ip hc hM
      refine lv_iconst (v := nI 0) hx hb dX6_grow_19 (by decide) ?_
      obtain rfl := e_so hM
      exact e_zret E J (false) rfl dX6_grow_20
    · have hM := e_in hc hM
      refine lv_iload_n hx hb dX6_grow_10 rfl (lv_at hl 1 rfl) ?_
      refine lv_aload_n hx hb dX6_grow_11 rfl (lv_at hl 0 rfl) ?_
      obtain ⟨v1, hv, hM⟩ := e_bs hM
      refine e_getR (C := RX6) (T := TX6) (N := 9) E J hv rfl inX6 (by decide) q_1_101 dX6_grow_12 ?_
      rcases v1 with _ | a2
      · have hM := e_on0 hM
        refine W.eq (g2 := F0 m 15 ls [.null, .int l1]) rfl ?_
        exact e_no hM
      · have hM := e_on1 hM
        refine W.eq (g2 := F0 m 15 ls [.ref (e_ad G a2), .int l1]) rfl ?_
        obtain ⟨v3, hv, hM⟩ := e_bs hM
        refine e_alen E J hv rfl rfl dX6_grow_15 ?_
        refine lv_icmp_le (tgt := 21) hx hb dX6_grow_16 (by decide) (fun hc => ?_) (fun hc => ?_)
        · have hM := e_ip hc hM
          refine lv_aload_n hx hb dX6_grow_21 rfl (lv_at hl 0 rfl) ?_
          obtain ⟨v4, hv, hM⟩ := e_bs hM
          refine e_getR (C := RX6) (T := TX6) (N := 9) E J hv rfl inX6 (by decide) q_1_101 dX6_grow_22 ?_
          rcases v4 with _ | a5
          · have hM := e_on0 hM
            refine W.eq (g2 := F0 m 25 ls [.null]) rfl ?_
            refine lv_iload_n hx hb dX6_grow_25 rfl (lv_at hl 1 rfl) ?_
            refine lv_iconst (v := nI 1) hx hb dX6_grow_26 (by decide) ?_
            refine lv_isub hx hb dX6_grow_27 ?_
            exact e_no hM
          · have hM := e_on1 hM
            refine W.eq (g2 := F0 m 25 ls [.ref (e_ad G a5)]) rfl ?_
            refine lv_iload_n hx hb dX6_grow_25 rfl (lv_at hl 1 rfl) ?_
            refine lv_iconst (v := nI 1) hx hb dX6_grow_26 (by decide) ?_
            refine lv_isub hx hb dX6_grow_27 ?_
            obtain ⟨v7, hv, hM⟩ := e_bs hM
            refine e_aald E J hv rfl dX6_grow_28 ?_
            rcases v7 with _ | a8
            · have hM := e_on0 hM
              refine W.eq (g2 := F0 m 29 ls [.null]) rfl ?_
              refine lv_astore_nN (lv' := [(3, .null), (0, .ref (e_ad G l0)), (1, .int l1), (2, .int l2)]) hx hb dX6_grow_29 rfl hl (by decide) rfl (fun ls hl => ?_)
              refine lv_aload_nN hx hb dX6_grow_30 rfl (lv_at hl 0 rfl) ?_
              exact e_no hM
            · have hM := e_on1 hM
              refine W.eq (g2 := F0 m 29 ls [.ref (e_ad G a8)]) rfl ?_
              refine lv_astore_n (lv' := [(3, .ref (e_ad G a8)), (0, .ref (e_ad G l0)), (1, .int l1), (2, .int l2)]) hx hb dX6_grow_29 rfl hl (by decide) rfl (fun ls hl => ?_)
              refine lv_aload_n hx hb dX6_grow_30 rfl (lv_at hl 0 rfl) ?_
              obtain ⟨v9, hv, hM⟩ := e_bs hM
              obtain ⟨fs_, hk, -⟩ := e_bs hv
              refine e_callV (ci := 3) (As := []) (rest := []) (n := 0) E J hk rfl (mX3_least (l := l) (G := G) a8 h _ hv) q_3_15 q_2_194 q_2_195 q_1_5 q_2_196 (by decide +kernel) rfl ⟨e_rf (by omega), e_rl (by omega)⟩ (st0 := [.ref (e_ad G a8)]) (st1 := [.int v9]) rfl rfl hl.1 (Nat.le_of_ble_eq_true rfl) dX6_grow_31 ⟨Nat.le_refl _, Nat.le_refl _⟩ (fun H locs J => ?_)
              refine lv_istore (lv' := [(4, .int v9), (3, .ref (e_ad G a8)), (0, .ref (e_ad G l0)), (1, .int l1), (2, .int l2)]) hx hb dX6_grow_34 hl (by decide) rfl (fun ls hl => ?_)
              refine lv_iload hx hb dX6_grow_36 (lv_at hl 0 rfl) ?_
              obtain ⟨v10, hv, hM⟩ := e_bs hM
              refine e_callS (As := [.int v9]) (rest := []) (n := 1) E J (mX3_branches (l := l) (G := G) v9 h _ hv) q_3_16 q_2_210 q_1_5 q_2_211 (by decide +kernel) rfl ⟨e_rf (by omega), e_rl (by omega)⟩ (st0 := [.int v9]) (st1 := [.int (e_b v10)]) rfl rfl hl.1 (Nat.le_of_ble_eq_true rfl) dX6_grow_38 ⟨Nat.le_refl _, Nat.le_refl _⟩ (fun H locs J => ?_)
              refine lv_if_ne (tgt := 46) hx hb dX6_grow_41 (by decide) (fun hc => ?_) (fun hc => ?_)
              · have hM := e_in hc hM
                refine lv_aload_n hx hb dX6_grow_46 rfl (lv_at hl 2 rfl) ?_
                refine lv_dup hx hb dX6_grow_47 rfl ?_
                obtain ⟨v11, hv, hM⟩ := e_bs hM
                refine e_getI (C := RX6) (T := TX6) (N := 9) E J hv rfl inX6 (by decide) q_1_91 dX6_grow_48 ?_
                refine lv_iconst (v := nI 1) hx hb dX6_grow_51 (by decide) ?_
                refine lv_iadd hx hb dX6_grow_52 ?_
                obtain ⟨h12, hv, hM⟩ := e_bs hM
                refine e_putv (C := RX6) (T := TX6) (N := 9) E J hv rfl rfl inX6 tyX6 tyX6_ok nmX6 (by decide) q_1_91 rfl rfl rfl rfl dX6_grow_53 (fun H locs J => ?_)
                refine lv_aload_n hx hb dX6_grow_56 rfl (lv_at hl 2 rfl) ?_
                refine lv_dup hx hb dX6_grow_57 rfl ?_
                obtain ⟨v13, hv, hM⟩ := e_bs hM
                refine e_getI (C := RX6) (T := TX6) (N := 9) E J hv rfl inX6 (by decide) q_1_93 dX6_grow_58 ?_
                refine lv_iload hx hb dX6_grow_61 (lv_at hl 0 rfl) ?_
                refine lv_iload hx hb dX6_grow_63 (lv_at hl 0 rfl) ?_
                refine lv_iconst (v := nI 1) hx hb dX6_grow_65 (by decide) ?_
                refine lv_isub hx hb dX6_grow_66 ?_
                refine lv_imul hx hb dX6_grow_67 ?_
                refine lv_iconst (v := nI 2) hx hb dX6_grow_68 (by decide) ?_
                refine lv_idiv hx hb dX6_grow_69 (by decide) ?_
                refine lv_iadd hx hb dX6_grow_70 ?_
                obtain ⟨h14, hv, hM⟩ := e_bs hM
                refine e_putv (C := RX6) (T := TX6) (N := 9) E J hv rfl rfl inX6 tyX6 tyX6_ok nmX6 (by decide) q_1_93 rfl rfl rfl rfl dX6_grow_71 (fun H locs J => ?_)
                refine lv_iload_n hx hb dX6_grow_74 rfl (lv_at hl 3 rfl) ?_
                refine lv_iload_n hx hb dX6_grow_75 rfl (lv_at hl 4 rfl) ?_
                refine lv_icmp_ne (tgt := 101) hx hb dX6_grow_76 (by decide) (fun hc => ?_) (fun hc => ?_)
                · have hM := e_in hc hM
                  refine lv_iconst (v := nI 0) hx hb dX6_grow_101 (by decide) ?_
                  refine lv_istore (lv' := [(5, .int (nI 0)), (4, .int v9), (3, .ref (e_ad G a8)), (0, .ref (e_ad G l0)), (1, .int l1), (2, .int l2)]) hx hb dX6_grow_102 hl (by decide) rfl (fun ls hl => ?_)
                  refine lv_aload_n hx hb dX6_grow_104 rfl (lv_at hl 3 rfl) ?_
                  refine lv_aload_n hx hb dX6_grow_105 rfl (lv_at hl 2 rfl) ?_
                  refine lv_iload hx hb dX6_grow_106 (lv_at hl 1 rfl) ?_
                  obtain ⟨p16, hv, hM⟩ := e_bs hM
                  obtain ⟨fs_, hk, -⟩ := e_bs hv
                  refine e_callV (ci := 6) (As := [.ref (e_ad G a8), .int v9]) (rest := []) (n := 2) E J hk rfl (mX6_slopeBits (l := l) (G := G) l0 a8 v9 h14 _ hv) q_3_38 q_2_222 q_2_223 q_1_4 q_2_224 (by decide +kernel) rfl ⟨e_rf (by omega), e_rl (by omega)⟩ (st0 := [.int v9, .ref (e_ad G a8), .ref (e_ad G l0)]) (st1 := [.int p16.1]) rfl rfl hl.1 (Nat.le_of_ble_eq_true rfl) dX6_grow_108 ⟨Nat.le_refl _, Nat.le_refl _⟩ (fun H locs J => ?_)
                  refine lv_istore (lv' := [(6, .int p16.1), (5, .int (nI 0)), (4, .int v9), (3, .ref (e_ad G a8)), (0, .ref (e_ad G l0)), (1, .int l1), (2, .int l2)]) hx hb dX6_grow_111 hl (by decide) rfl (fun ls hl => ?_)
                  refine lv_bipush (v := -5) hx hb dX6_grow_113 (by decide) ?_
                  refine lv_istore (lv' := [(7, .int (-5 : Int32)), (6, .int p16.1), (5, .int (nI 0)), (4, .int v9), (3, .ref (e_ad G a8)), (0, .ref (e_ad G l0)), (1, .int l1), (2, .int l2)]) hx hb dX6_grow_115 hl (by decide) rfl (fun ls hl => ?_)
                  exact mX6_grow_L117 E Hrec hcf hcn 200 l0 l1 l2 (nI 0) p16.1 (-5 : Int32) p16.2 hM J (lv_sub hl [5, 6, 7, 2, 1, 0] rfl)
                · have hM := e_ip hc hM
                  refine lv_aload_n hx hb dX6_grow_79 rfl (lv_at hl 2 rfl) ?_
                  refine lv_dup hx hb dX6_grow_80 rfl ?_
                  obtain ⟨v15, hv, hM⟩ := e_bs hM
                  refine e_getI (C := RX6) (T := TX6) (N := 9) E J hv rfl inX6 (by decide) q_1_95 dX6_grow_81 ?_
                  refine lv_iload hx hb dX6_grow_84 (lv_at hl 0 rfl) ?_
                  refine lv_iconst (v := nI 1) hx hb dX6_grow_86 (by decide) ?_
                  refine lv_icmp_ne (tgt := 94) hx hb dX6_grow_87 (by decide) (fun hc => ?_) (fun hc => ?_)
                  · have hM := e_in hc hM
                    refine lv_iconst (v := nI 0) hx hb dX6_grow_94 (by decide) ?_
                    exact mX6_grow_b95 E Hrec hcf hcn (nI 0) v15 l0 h14 hM J (lv_sub hl [] rfl)
                  · have hM := e_ip hc hM
                    refine lv_iconst (v := nI 1) hx hb dX6_grow_90 (by decide) ?_
                    refine lv_goto (tgt := 95) hx hb dX6_grow_91 (by decide) ?_
                    exact mX6_grow_b95 E Hrec hcf hcn (nI 1) v15 l0 h14 hM J (lv_sub hl [] rfl)
              · have hM := e_ip hc hM
                refine lv_iconst (v := nI 0) hx hb dX6_grow_44 (by decide) ?_
                obtain rfl := e_so hM
                exact e_zret E J (false) rfl dX6_grow_45
        · have hM := e_in hc hM
          refine lv_iconst (v := nI 0) hx hb dX6_grow_19 (by decide) ?_
          obtain rfl := e_so hM
          exact e_zret E J (false) rfl dX6_grow_20
set_option maxRecDepth 100000 in
set_option maxHeartbeats 4000000 in
theorem mX6_grow_R {l : Launch} {G : e_G} : ∀ (n : Nat) (l0 : Nat) (l1 : Int32) (l2 : Int32) (h : e_H) (res : (Bool × e_H)), fX6_grow_R n l0 l1 l2 h = some res → Met l yX6_grow (e_W yX6_grow cX6_grow 8 (some FieldType.boolean)) (e_rm (e_F 4 1 n) (e_F 99 40 n)) (e_Pc G h [.ref (e_ad G l0), .int l1, .int l2]) (e_Q G (res.2) (some (.int (e_b res.1)))) 0 0 (e_A G)
  | 0, _, _, _, _, _, hM => e_no hM
  | n + 1, l0, l1, l2, h, res, hM => mX6_grow_r (rec := fX6_grow_R n) (mX6_grow_R n) (e_Fle _ _ n) (e_Fle _ _ n) l0 l1 l2 h res hM
set_option maxRecDepth 100000 in
set_option maxHeartbeats 4000000 in
theorem mX6_grow {l : Launch} {G : e_G} (l0 : Nat) (l1 : Int32) (l2 : Int32) (h : e_H) (res : (Bool × e_H)) (hM : fX6_grow l0 l1 l2 h = some res) : Met l yX6_grow (e_W yX6_grow cX6_grow 8 (some FieldType.boolean)) (e_rm 104 4099) (e_Pc G h [.ref (e_ad G l0), .int l1, .int l2]) (e_Q G (res.2) (some (.int (e_b res.1)))) 0 0 (e_A G) := mX6_grow_R 100 l0 l1 l2 h res hM
set_option maxRecDepth 100000 in
set_option maxHeartbeats 4000000 in
theorem mX6_growTree {l : Launch} {G : e_G} (l0 : Nat) (l1 : Int32) (h : e_H) (res : e_H) (hM : fX6_growTree l0 l1 h = some res) : Met l yX6_growTree (e_W yX6_growTree cX6_growTree 2 none) (e_rm 105 4126) (e_Pc G h [.ref (e_ad G l0), .int l1]) (e_Q G res (none)) 0 0 (e_A G) := by
  refine Met.ofW (cc := cX6_growTree) (maxL := 2) (ret := none) (by decide) rfl ?_
  intro p e s m args below meth c s₁ B hml hv
  obtain ⟨rfl, hS, hP⟩ := hv
  have E := e_enter (own := RX6) (ret := none) B hml rfl hS hP
  have J : e_J G s h s.heap [] := ⟨hP, va_S.rf⟩
  have hl := lv_entry ([.ref (e_ad G l0), .int l1]) (n := 2) (Nat.le_of_ble_eq_true rfl)
  rw [lg_entry_eq]
  generalize (lg_sl ([.ref (e_ad G l0), .int l1]) ++ List.replicate (2 - (lg_sl ([.ref (e_ad G l0), .int l1])).length) Slot.unset).toArray = ls at hl ⊢
  have hl : lv_has ls 2 [(0, .ref (e_ad G l0)), (1, .int l1)] := hl
  obtain ⟨hx, hb, hr, hml, hown, hts, hlocks, hES, hbs⟩ := id E
  unfold fX6_growTree at hM
  obtain ⟨fs_, hk_, hM⟩ := e_bs hM
  refine lv_aload_n hx hb dX6_growTree_0 rfl (lv_at hl 0 rfl) ?_
  obtain ⟨h1, hv, hM⟩ := e_bs hM
  obtain ⟨fs_, hk, -⟩ := e_bs hv
  refine e_callV (ci := 6) (As := []) (rest := []) (n := 0) E J hk rfl (mX6_clearTree (l := l) (G := G) l0 h _ hv) q_3_31 q_3_33 q_p_4 q_1_4 q_3_34 (by decide +kernel) rfl ⟨Nat.le_of_ble_eq_true rfl, Nat.le_of_ble_eq_true rfl⟩ (st0 := [.ref (e_ad G l0)]) (st1 := []) rfl rfl hl.1 (Nat.le_of_ble_eq_true rfl) dX6_growTree_1 ⟨Nat.le_refl _, Nat.le_refl _⟩ (fun H locs J => ?_)
  refine lv_aload_n hx hb dX6_growTree_4 rfl (lv_at hl 0 rfl) ?_
  refine lv_iconst (v := nI 1) hx hb dX6_growTree_5 (by decide) ?_
  refine lv_iload_n hx hb dX6_growTree_6 rfl (lv_at hl 1 rfl) ?_
  obtain ⟨p2, hv, hM⟩ := e_bs hM
  refine e_callS (As := [.ref (e_ad G l0), .int (nI 1), .int l1]) (rest := []) (n := 3) E J (mX6_grow (l := l) (G := G) l0 (nI 1) l1 h1 _ hv) q_3_35 q_3_36 q_1_4 q_3_37 (by decide +kernel) rfl ⟨Nat.le_of_ble_eq_true rfl, Nat.le_of_ble_eq_true rfl⟩ (st0 := [.int l1, .int (nI 1), .ref (e_ad G l0)]) (st1 := [.int (e_b p2.1)]) rfl rfl hl.1 (Nat.le_of_ble_eq_true rfl) dX6_growTree_7 ⟨Nat.le_refl _, Nat.le_refl _⟩ (fun H locs J => ?_)
  refine lv_pop hx hb dX6_growTree_10 rfl ?_
  obtain rfl := e_so hM
  exact e_vret E J dX6_growTree_11
set_option maxRecDepth 100000 in
set_option maxHeartbeats 4000000 in
theorem mX8_tree {l : Launch} {G : e_G} (l0 : Nat) (l1 : Int32) (l2 : Int32) (l3 : Int32) (l4 : Int32) (h : e_H) (res : (Int32 × e_H)) (hM : fX8_tree l0 l1 l2 l3 l4 h = some res) : Met l yX8_tree (e_W yX8_tree cX8_tree 6 (some FieldType.int)) (e_rm 106 4147) (e_Pc G h [.ref (e_ad G l0), .int l1, .int l2, .int l3, .int l4]) (e_Q G res.2 (some (.int res.1))) 0 0 (e_A G) := by
  refine Met.ofW (cc := cX8_tree) (maxL := 6) (ret := (some FieldType.int)) (by decide) rfl ?_
  intro p e s m args below meth c s₁ B hml hv
  obtain ⟨rfl, hS, hP⟩ := hv
  have E := e_enter (own := RX8) (ret := (some FieldType.int)) B hml rfl hS hP
  have J : e_J G s h s.heap [] := ⟨hP, va_S.rf⟩
  have hl := lv_entry ([.ref (e_ad G l0), .int l1, .int l2, .int l3, .int l4]) (n := 6) (Nat.le_of_ble_eq_true rfl)
  rw [lg_entry_eq]
  generalize (lg_sl ([.ref (e_ad G l0), .int l1, .int l2, .int l3, .int l4]) ++ List.replicate (6 - (lg_sl ([.ref (e_ad G l0), .int l1, .int l2, .int l3, .int l4])).length) Slot.unset).toArray = ls at hl ⊢
  have hl : lv_has ls 6 [(0, .ref (e_ad G l0)), (1, .int l1), (2, .int l2), (3, .int l3), (4, .int l4)] := hl
  obtain ⟨hx, hb, hr, hml, hown, hts, hlocks, hES, hbs⟩ := id E
  unfold fX8_tree at hM
  obtain ⟨fs_, hk_, hM⟩ := e_bs hM
  refine lv_aload_n hx hb dX8_tree_0 rfl (lv_at hl 0 rfl) ?_
  refine lv_iload_n hx hb dX8_tree_1 rfl (lv_at hl 1 rfl) ?_
  refine lv_iload_n hx hb dX8_tree_2 rfl (lv_at hl 2 rfl) ?_
  obtain ⟨p1, hv, hM⟩ := e_bs hM
  obtain ⟨fs_, hk, -⟩ := e_bs hv
  refine e_callV (ci := 8) (As := [.int l1, .int l2]) (rest := []) (n := 2) E J hk rfl (mX8_shapeAt (l := l) (G := G) l0 l1 l2 h _ hv) q_2_161 q_2_163 q_p_2 q_1_1 q_2_164 (by decide +kernel) rfl ⟨Nat.le_of_ble_eq_true rfl, Nat.le_of_ble_eq_true rfl⟩ (st0 := [.int l2, .int l1, .ref (e_ad G l0)]) (st1 := [e_r G p1.1]) rfl rfl hl.1 (Nat.le_of_ble_eq_true rfl) dX8_tree_3 ⟨Nat.le_refl _, Nat.le_refl _⟩ (fun H locs J => ?_)
  obtain ⟨r2, hr2⟩ := p1
  rcases r2 with _ | a3
  · have hM := e_on0 hM
    refine W.eq (g2 := F0 m 6 ls [.null]) rfl ?_
    refine lv_astoreN (lv' := [(5, .null), (0, .ref (e_ad G l0)), (1, .int l1), (2, .int l2), (3, .int l3), (4, .int l4)]) hx hb dX8_tree_6 hl (by decide) rfl (fun ls hl => ?_)
    refine lv_aloadN hx hb dX8_tree_8 (lv_at hl 0 rfl) ?_
    refine lv_ifnullN (tgt := 34) hx hb dX8_tree_10 (by decide) ?_
    refine lv_ldc (v := -1000000001) hx hb hown (hts _ q_1_237) dX8_tree_34 ?_
    obtain rfl := e_so hM
    exact e_iret E J dX8_tree_36
  · have hM := e_on1 hM
    refine W.eq (g2 := F0 m 6 ls [.ref (e_ad G a3)]) rfl ?_
    refine lv_astore (lv' := [(5, .ref (e_ad G a3)), (0, .ref (e_ad G l0)), (1, .int l1), (2, .int l2), (3, .int l3), (4, .int l4)]) hx hb dX8_tree_6 hl (by decide) rfl (fun ls hl => ?_)
    refine lv_aload hx hb dX8_tree_8 (lv_at hl 0 rfl) ?_
    refine lv_ifnull hx hb dX8_tree_10 ?_
    refine lv_iload_n hx hb dX8_tree_13 rfl (lv_at hl 4 rfl) ?_
    refine lv_iconst (v := nI 1) hx hb dX8_tree_14 (by decide) ?_
    refine lv_icmp_lt (tgt := 34) hx hb dX8_tree_15 (by decide) (fun hc => ?_) (fun hc => ?_)
    · have hM := e_ip hc hM
      refine lv_ldc (v := -1000000001) hx hb hown (hts _ q_1_237) dX8_tree_34 ?_
      obtain rfl := e_so hM
      exact e_iret E J dX8_tree_36
    · have hM := e_in hc hM
      refine lv_iload_n hx hb dX8_tree_18 rfl (lv_at hl 4 rfl) ?_
      refine lv_iconst (v := nI 3) hx hb dX8_tree_19 (by decide) ?_
      refine lv_icmp_gt (tgt := 34) hx hb dX8_tree_20 (by decide) (fun hc => ?_) (fun hc => ?_)
      · have hM := e_ip hc hM
        refine lv_ldc (v := -1000000001) hx hb hown (hts _ q_1_237) dX8_tree_34 ?_
        obtain rfl := e_so hM
        exact e_iret E J dX8_tree_36
      · have hM := e_in hc hM
        refine lv_iload hx hb dX8_tree_23 (lv_at hl 5 rfl) ?_
        refine lv_if_lt (tgt := 34) hx hb dX8_tree_25 (by decide) (fun hc => ?_) (fun hc => ?_)
        · have hM := e_ip hc hM
          refine lv_ldc (v := -1000000001) hx hb hown (hts _ q_1_237) dX8_tree_34 ?_
          obtain rfl := e_so hM
          exact e_iret E J dX8_tree_36
        · have hM := e_in hc hM
          refine lv_iload hx hb dX8_tree_28 (lv_at hl 5 rfl) ?_
          refine lv_iconst (v := nI 2) hx hb dX8_tree_30 (by decide) ?_
          refine lv_icmp_le (tgt := 37) hx hb dX8_tree_31 (by decide) (fun hc => ?_) (fun hc => ?_)
          · have hM := e_ip hc hM
            refine lv_aload_n hx hb dX8_tree_37 rfl (lv_at hl 1 rfl) ?_
            obtain ⟨v4, hv, hM⟩ := e_bs hM
            refine e_getR (C := RX8) (T := TX8) (N := 10) E J hv rfl inX8 (by decide) q_1_201 dX8_tree_38 ?_
            rcases v4 with _ | a5
            · have hM := e_on0 hM
              refine W.eq (g2 := F0 m 41 ls [.null]) rfl ?_
              refine lv_iload_n hx hb dX8_tree_41 rfl (lv_at hl 4 rfl) ?_
              exact e_no hM
            · have hM := e_on1 hM
              refine W.eq (g2 := F0 m 41 ls [.ref (e_ad G a5)]) rfl ?_
              refine lv_iload_n hx hb dX8_tree_41 rfl (lv_at hl 4 rfl) ?_
              obtain ⟨h6, hv, hM⟩ := e_bs hM
              obtain ⟨fs_, hk, -⟩ := e_bs hv
              refine e_callV (ci := 6) (As := [.int l3]) (rest := []) (n := 1) E J hk rfl (mX6_growTree (l := l) (G := G) a5 l3 hr2 _ hv) q_3_27 q_3_28 q_3_29 q_1_4 q_3_30 (by decide +kernel) rfl ⟨Nat.le_of_ble_eq_true rfl, Nat.le_of_ble_eq_true rfl⟩ (st0 := [.int l3, .ref (e_ad G a5)]) (st1 := []) rfl rfl hl.1 (Nat.le_of_ble_eq_true rfl) dX8_tree_42 ⟨Nat.le_refl _, Nat.le_refl _⟩ (fun H locs J => ?_)
              refine lv_iload hx hb dX8_tree_45 (lv_at hl 5 rfl) ?_
              refine lv_if_ne (tgt := 58) hx hb dX8_tree_47 (by decide) (fun hc => ?_) (fun hc => ?_)
              · have hM := e_in hc hM
                refine lv_iload hx hb dX8_tree_58 (lv_at hl 5 rfl) ?_
                refine lv_iconst (v := nI 1) hx hb dX8_tree_60 (by decide) ?_
                refine lv_icmp_ne (tgt := 74) hx hb dX8_tree_61 (by decide) (fun hc => ?_) (fun hc => ?_)
                · have hM := e_in hc hM
                  refine lv_aload_n hx hb dX8_tree_74 rfl (lv_at hl 1 rfl) ?_
                  obtain ⟨v13, hv, hM⟩ := e_bs hM
                  refine e_getR (C := RX8) (T := TX8) (N := 10) E J hv rfl inX8 (by decide) q_1_201 dX8_tree_75 ?_
                  rcases v13 with _ | a14
                  · have hM := e_on0 hM
                    refine W.eq (g2 := F0 m 78 ls [.null]) rfl ?_
                    exact e_no hM
                  · have hM := e_on1 hM
                    refine W.eq (g2 := F0 m 78 ls [.ref (e_ad G a14)]) rfl ?_
                    obtain ⟨v15, hv, hM⟩ := e_bs hM
                    refine e_getI (C := RX6) (T := TX6) (N := 9) E J hv rfl inX6 (by decide) q_1_96 dX8_tree_78 ?_
                    obtain rfl := e_so hM
                    exact e_iret E J dX8_tree_81
                · have hM := e_ip hc hM
                  refine lv_aload_n hx hb dX8_tree_64 rfl (lv_at hl 1 rfl) ?_
                  obtain ⟨v10, hv, hM⟩ := e_bs hM
                  refine e_getR (C := RX8) (T := TX8) (N := 10) E J hv rfl inX8 (by decide) q_1_201 dX8_tree_65 ?_
                  rcases v10 with _ | a11
                  · have hM := e_on0 hM
                    refine W.eq (g2 := F0 m 68 ls [.null]) rfl ?_
                    exact e_no hM
                  · have hM := e_on1 hM
                    refine W.eq (g2 := F0 m 68 ls [.ref (e_ad G a11)]) rfl ?_
                    obtain ⟨v12, hv, hM⟩ := e_bs hM
                    refine e_getI (C := RX6) (T := TX6) (N := 9) E J hv rfl inX6 (by decide) q_1_94 dX8_tree_68 ?_
                    refine lv_goto (tgt := 81) hx hb dX8_tree_71 (by decide) ?_
                    obtain rfl := e_so hM
                    exact e_iret E J dX8_tree_81
              · have hM := e_ip hc hM
                refine lv_aload_n hx hb dX8_tree_50 rfl (lv_at hl 1 rfl) ?_
                obtain ⟨v7, hv, hM⟩ := e_bs hM
                refine e_getR (C := RX8) (T := TX8) (N := 10) E J hv rfl inX8 (by decide) q_1_201 dX8_tree_51 ?_
                rcases v7 with _ | a8
                · have hM := e_on0 hM
                  refine W.eq (g2 := F0 m 54 ls [.null]) rfl ?_
                  exact e_no hM
                · have hM := e_on1 hM
                  refine W.eq (g2 := F0 m 54 ls [.ref (e_ad G a8)]) rfl ?_
                  obtain ⟨v9, hv, hM⟩ := e_bs hM
                  refine e_getI (C := RX6) (T := TX6) (N := 9) E J hv rfl inX6 (by decide) q_1_92 dX8_tree_54 ?_
                  obtain rfl := e_so hM
                  exact e_iret E J dX8_tree_57
          · have hM := e_in hc hM
            refine lv_ldc (v := -1000000001) hx hb hown (hts _ q_1_237) dX8_tree_34 ?_
            obtain rfl := e_so hM
            exact e_iret E J dX8_tree_36
set_option maxRecDepth 100000 in
set_option maxHeartbeats 4000000 in
theorem mX3_leastX_b2 {p : Program} {l : Launch} {e : Env} {s : State} {m : MethodId} {args : Array Value} {below : List Frame} {meth : Method} {c : Code} {G : e_G} {res : Int32} {k2 : Nat → Int32 → Int32 → Option Int32} (E : e_M G p s args m meth c cX3_leastX 3 (some FieldType.int) RX3) (h : e_H) (K2 : ∀ (l0 : Nat) (l1 : Int32) (l2 : Int32), k2 l0 l1 l2 = some res → ∀ (H : Heap) (locs : List Loc), e_J G s h H locs → ∀ (ls : Array Slot), lv_has ls 3 [(0, .ref (e_ad G l0)), (1, .int l1), (2, .int l2)] → W p l e (e_rm 1 23) s m args below meth c H locs 0 0 (MQ below (e_Q G h (some (.int res))) args s 0 0 (e_A G)) (F0 m 2 ls [])) (l0 : Nat) (l1 : Int32) (l2 : Int32) (hM : fX3_leastX_b2 h k2 l0 l1 l2 = some res) {H : Heap} {locs : List Loc} (J : e_J G s h H locs) {ls : Array Slot} (hl : lv_has ls 3 [(0, .ref (e_ad G l0)), (1, .int l1), (2, .int l2)]) : W p l e (e_rm 1 23) s m args below meth c H locs 0 0 (MQ below (e_Q G h (some (.int res))) args s 0 0 (e_A G)) (F0 m 2 ls []) := by
  obtain ⟨hx, hb, hr, hml, hown, hts, hlocks, hES, hbs⟩ := id E
  unfold fX3_leastX_b2 at hM
  refine lv_iload_n hx hb dX3_leastX_2 rfl (lv_at hl 2 rfl) ?_
  refine lv_bipush (v := nI 16) hx hb dX3_leastX_3 (by decide) ?_
  refine lv_icmp_gt (tgt := 27) hx hb dX3_leastX_5 (by decide) (fun hc => ?_) (fun hc => ?_)
  · have hM := e_ip hc hM
    refine lv_bipush (v := nI 17) hx hb dX3_leastX_27 (by decide) ?_
    obtain rfl := e_so hM
    exact e_iret E J dX3_leastX_29
  · have hM := e_in hc hM
    refine lv_aload_n hx hb dX3_leastX_8 rfl (lv_at hl 0 rfl) ?_
    refine lv_iload_n hx hb dX3_leastX_9 rfl (lv_at hl 2 rfl) ?_
    refine lv_iload_n hx hb dX3_leastX_10 rfl (lv_at hl 1 rfl) ?_
    obtain ⟨v1, hv, hM⟩ := e_bs hM
    obtain ⟨fs_, hk, -⟩ := e_bs hv
    refine e_callV (ci := 3) (As := [.int l2, .int l1]) (rest := []) (n := 2) E J hk rfl (mX3_number (l := l) (G := G) l0 l2 l1 h _ hv) q_2_184 q_2_185 q_2_186 q_1_5 q_2_187 (by decide +kernel) rfl ⟨Nat.le_of_ble_eq_true rfl, Nat.le_of_ble_eq_true rfl⟩ (st0 := [.int l1, .int l2, .ref (e_ad G l0)]) (st1 := [.long v1]) rfl rfl hl.1 (Nat.le_of_ble_eq_true rfl) dX3_leastX_11 ⟨Nat.le_refl _, Nat.le_refl _⟩ (fun H locs J => ?_)
    refine lv_lconst (v := 0) hx hb dX3_leastX_14 (by decide) ?_
    refine W.lcmp hx hb dX3_leastX_15 ?_
    refine lv_if_eq (tgt := 21) hx hb dX3_leastX_16 (by decide) (fun hc => ?_) (fun hc => ?_)
    · have hM := e_ip hc hM
      refine lv_iinc (v := (l2 + (nI 1))) (lv' := [(2, .int (l2 + (nI 1))), (0, .ref (e_ad G l0)), (1, .int l1)]) hx hb dX3_leastX_21 hl (k := 2) rfl rfl (by decide) rfl (fun ls hl => ?_)
      refine lv_goto (tgt := 2) hx hb dX3_leastX_24 (by decide) ?_
      exact K2 l0 l1 (l2 + (nI 1)) hM _ _ J _ (lv_sub hl [1, 2, 0] rfl)
    · have hM := e_in hc hM
      refine lv_iload_n hx hb dX3_leastX_19 rfl (lv_at hl 2 rfl) ?_
      obtain rfl := e_so hM
      exact e_iret E J dX3_leastX_20
set_option maxRecDepth 100000 in
set_option maxHeartbeats 4000000 in
theorem mX3_leastX_L2 {p : Program} {l : Launch} {e : Env} {s : State} {m : MethodId} {args : Array Value} {below : List Frame} {meth : Method} {c : Code} {G : e_G} {res : Int32} (E : e_M G p s args m meth c cX3_leastX 3 (some FieldType.int) RX3) (h : e_H) (n : Nat) (l0 : Nat) (l1 : Int32) (l2 : Int32) (hM : fX3_leastX_L2 h n l0 l1 l2 = some res) {H : Heap} {locs : List Loc} (J : e_J G s h H locs) {ls : Array Slot} (hl : lv_has ls 3 [(0, .ref (e_ad G l0)), (1, .int l1), (2, .int l2)]) : W p l e (e_rm 1 23) s m args below meth c H locs 0 0 (MQ below (e_Q G h (some (.int res))) args s 0 0 (e_A G)) (F0 m 2 ls []) := by
  induction n generalizing l0 l1 l2 H locs ls with
  | zero => exact e_no hM
  | succ n ih => exact mX3_leastX_b2 (k2 := (fX3_leastX_L2 h n)) E h  (fun l0 l1 l2 hM H locs J ls hl => ih l0 l1 l2 hM J hl) l0 l1 l2 hM J hl
set_option maxRecDepth 100000 in
set_option maxHeartbeats 4000000 in
theorem mX3_leastX {l : Launch} {G : e_G} (l0 : Nat) (l1 : Int32) (h : e_H) (res : Int32) (hM : fX3_leastX l0 l1 h = some res) : Met l yX3_leastX (e_W yX3_leastX cX3_leastX 3 (some FieldType.int)) (e_rm 1 23) (e_Pc G h [.ref (e_ad G l0), .int l1]) (e_Q G h (some (.int res))) 0 0 (e_A G) := by
  refine Met.ofW (cc := cX3_leastX) (maxL := 3) (ret := (some FieldType.int)) (by decide) rfl ?_
  intro p e s m args below meth c s₁ B hml hv
  obtain ⟨rfl, hS, hP⟩ := hv
  have E := e_enter (own := RX3) (ret := (some FieldType.int)) B hml rfl hS hP
  have J : e_J G s h s.heap [] := ⟨hP, va_S.rf⟩
  have hl := lv_entry ([.ref (e_ad G l0), .int l1]) (n := 3) (Nat.le_of_ble_eq_true rfl)
  rw [lg_entry_eq]
  generalize (lg_sl ([.ref (e_ad G l0), .int l1]) ++ List.replicate (3 - (lg_sl ([.ref (e_ad G l0), .int l1])).length) Slot.unset).toArray = ls at hl ⊢
  have hl : lv_has ls 3 [(0, .ref (e_ad G l0)), (1, .int l1)] := hl
  obtain ⟨hx, hb, hr, hml, hown, hts, hlocks, hES, hbs⟩ := id E
  unfold fX3_leastX at hM
  obtain ⟨fs_, hk_, hM⟩ := e_bs hM
  refine lv_iconst (v := nI 0) hx hb dX3_leastX_0 (by decide) ?_
  refine lv_istore_n (lv' := [(2, .int (nI 0)), (0, .ref (e_ad G l0)), (1, .int l1)]) hx hb dX3_leastX_1 rfl hl (by decide) rfl (fun ls hl => ?_)
  exact mX3_leastX_L2 E h 200 l0 l1 (nI 0) hM J (lv_sub hl [1, 2, 0] rfl)
set_option maxRecDepth 100000 in
set_option maxHeartbeats 4000000 in
theorem mX8_corner {l : Launch} {G : e_G} (l0 : Nat) (l1 : Int32) (l2 : Int32) (l3 : Int32) (h : e_H) (res : (Int32 × e_H)) (hM : fX8_corner l0 l1 l2 l3 h = some res) : Met l yX8_corner (e_W yX8_corner cX8_corner 6 (some FieldType.int)) (e_rm 6 147) (e_Pc G h [.ref (e_ad G l0), .int l1, .int l2, .int l3]) (e_Q G res.2 (some (.int res.1))) 0 0 (e_A G) := by
  refine Met.ofW (cc := cX8_corner) (maxL := 6) (ret := (some FieldType.int)) (by decide) rfl ?_
  intro p e s m args below meth c s₁ B hml hv
  obtain ⟨rfl, hS, hP⟩ := hv
  have E := e_enter (own := RX8) (ret := (some FieldType.int)) B hml rfl hS hP
  have J : e_J G s h s.heap [] := ⟨hP, va_S.rf⟩
  have hl := lv_entry ([.ref (e_ad G l0), .int l1, .int l2, .int l3]) (n := 6) (Nat.le_of_ble_eq_true rfl)
  rw [lg_entry_eq]
  generalize (lg_sl ([.ref (e_ad G l0), .int l1, .int l2, .int l3]) ++ List.replicate (6 - (lg_sl ([.ref (e_ad G l0), .int l1, .int l2, .int l3])).length) Slot.unset).toArray = ls at hl ⊢
  have hl : lv_has ls 6 [(0, .ref (e_ad G l0)), (1, .int l1), (2, .int l2), (3, .int l3)] := hl
  obtain ⟨hx, hb, hr, hml, hown, hts, hlocks, hES, hbs⟩ := id E
  unfold fX8_corner at hM
  obtain ⟨fs_, hk_, hM⟩ := e_bs hM
  refine lv_aload_n hx hb dX8_corner_0 rfl (lv_at hl 0 rfl) ?_
  refine lv_iload_n hx hb dX8_corner_1 rfl (lv_at hl 1 rfl) ?_
  refine lv_iload_n hx hb dX8_corner_2 rfl (lv_at hl 2 rfl) ?_
  obtain ⟨p1, hv, hM⟩ := e_bs hM
  obtain ⟨fs_, hk, -⟩ := e_bs hv
  refine e_callV (ci := 8) (As := [.int l1, .int l2]) (rest := []) (n := 2) E J hk rfl (mX8_shapeAt (l := l) (G := G) l0 l1 l2 h _ hv) q_2_161 q_2_163 q_p_2 q_1_1 q_2_164 (by decide +kernel) rfl ⟨Nat.le_of_ble_eq_true rfl, Nat.le_of_ble_eq_true rfl⟩ (st0 := [.int l2, .int l1, .ref (e_ad G l0)]) (st1 := [e_r G p1.1]) rfl rfl hl.1 (Nat.le_of_ble_eq_true rfl) dX8_corner_3 ⟨Nat.le_refl _, Nat.le_refl _⟩ (fun H locs J => ?_)
  obtain ⟨r2, hr2⟩ := p1
  rcases r2 with _ | a3
  · have hM := e_on0 hM
    refine W.eq (g2 := F0 m 6 ls [.null]) rfl ?_
    refine lv_astoreN (lv' := [(4, .null), (0, .ref (e_ad G l0)), (1, .int l1), (2, .int l2), (3, .int l3)]) hx hb dX8_corner_6 hl (by decide) rfl (fun ls hl => ?_)
    refine lv_aloadN hx hb dX8_corner_8 (lv_at hl 0 rfl) ?_
    refine lv_ifnullN (tgt := 22) hx hb dX8_corner_10 (by decide) ?_
    refine lv_ldc (v := -1000000001) hx hb hown (hts _ q_1_237) dX8_corner_22 ?_
    obtain rfl := e_so hM
    exact e_iret E J dX8_corner_24
  · have hM := e_on1 hM
    refine W.eq (g2 := F0 m 6 ls [.ref (e_ad G a3)]) rfl ?_
    refine lv_astore (lv' := [(4, .ref (e_ad G a3)), (0, .ref (e_ad G l0)), (1, .int l1), (2, .int l2), (3, .int l3)]) hx hb dX8_corner_6 hl (by decide) rfl (fun ls hl => ?_)
    refine lv_aload hx hb dX8_corner_8 (lv_at hl 0 rfl) ?_
    refine lv_ifnull hx hb dX8_corner_10 ?_
    refine lv_iload_n hx hb dX8_corner_13 rfl (lv_at hl 4 rfl) ?_
    refine lv_if_lt (tgt := 22) hx hb dX8_corner_14 (by decide) (fun hc => ?_) (fun hc => ?_)
    · have hM := e_ip hc hM
      refine lv_ldc (v := -1000000001) hx hb hown (hts _ q_1_237) dX8_corner_22 ?_
      obtain rfl := e_so hM
      exact e_iret E J dX8_corner_24
    · have hM := e_in hc hM
      refine lv_iload_n hx hb dX8_corner_17 rfl (lv_at hl 4 rfl) ?_
      refine lv_iconst (v := nI 4) hx hb dX8_corner_18 (by decide) ?_
      refine lv_icmp_le (tgt := 25) hx hb dX8_corner_19 (by decide) (fun hc => ?_) (fun hc => ?_)
      · have hM := e_ip hc hM
        refine lv_aload hx hb dX8_corner_25 (lv_at hl 0 rfl) ?_
        refine lv_iload_n hx hb dX8_corner_27 rfl (lv_at hl 4 rfl) ?_
        obtain ⟨v4, hv, hM⟩ := e_bs hM
        obtain ⟨fs_, hk, -⟩ := e_bs hv
        refine e_callV (ci := 3) (As := [.int l3]) (rest := []) (n := 1) E J hk rfl (mX3_leastX (l := l) (G := G) a3 l3 hr2 _ hv) q_3_44 q_3_45 q_3_46 q_1_5 q_3_47 (by decide +kernel) rfl ⟨Nat.le_of_ble_eq_true rfl, Nat.le_of_ble_eq_true rfl⟩ (st0 := [.int l3, .ref (e_ad G a3)]) (st1 := [.int v4]) rfl rfl hl.1 (Nat.le_of_ble_eq_true rfl) dX8_corner_28 ⟨Nat.le_refl _, Nat.le_refl _⟩ (fun H locs J => ?_)
        refine lv_istore (lv' := [(5, .int v4), (4, .ref (e_ad G a3)), (0, .ref (e_ad G l0)), (1, .int l1), (2, .int l2), (3, .int l3)]) hx hb dX8_corner_31 hl (by decide) rfl (fun ls hl => ?_)
        refine lv_iload hx hb dX8_corner_33 (lv_at hl 0 rfl) ?_
        refine lv_bipush (v := nI 17) hx hb dX8_corner_35 (by decide) ?_
        refine lv_icmp_ne (tgt := 45) hx hb dX8_corner_37 (by decide) (fun hc => ?_) (fun hc => ?_)
        · have hM := e_in hc hM
          refine lv_iload hx hb dX8_corner_45 (lv_at hl 0 rfl) ?_
          obtain rfl := e_so hM
          exact e_iret E J dX8_corner_47
        · have hM := e_ip hc hM
          refine lv_ldc (v := -1000000005) hx hb hown (hts _ q_3_48) dX8_corner_40 ?_
          refine lv_goto (tgt := 47) hx hb dX8_corner_42 (by decide) ?_
          obtain rfl := e_so hM
          exact e_iret E J dX8_corner_47
      · have hM := e_in hc hM
        refine lv_ldc (v := -1000000001) hx hb hown (hts _ q_1_237) dX8_corner_22 ?_
        obtain rfl := e_so hM
        exact e_iret E J dX8_corner_24
set_option maxRecDepth 100000 in
set_option maxHeartbeats 4000000 in
theorem mX3_firstCorner_b2 {p : Program} {l : Launch} {e : Env} {s : State} {m : MethodId} {args : Array Value} {below : List Frame} {meth : Method} {c : Code} {G : e_G} {res : Int32} {k2 : Nat → Int32 → Option Int32} (E : e_M G p s args m meth c cX3_firstCorner 2 (some FieldType.int) RX3) (h : e_H) (K2 : ∀ (l0 : Nat) (l1 : Int32), k2 l0 l1 = some res → ∀ (H : Heap) (locs : List Loc), e_J G s h H locs → ∀ (ls : Array Slot), lv_has ls 2 [(0, .ref (e_ad G l0)), (1, .int l1)] → W p l e (e_rm 2 45) s m args below meth c H locs 0 0 (MQ below (e_Q G h (some (.int res))) args s 0 0 (e_A G)) (F0 m 2 ls [])) (l0 : Nat) (l1 : Int32) (hM : fX3_firstCorner_b2 h k2 l0 l1 = some res) {H : Heap} {locs : List Loc} (J : e_J G s h H locs) {ls : Array Slot} (hl : lv_has ls 2 [(0, .ref (e_ad G l0)), (1, .int l1)]) : W p l e (e_rm 2 45) s m args below meth c H locs 0 0 (MQ below (e_Q G h (some (.int res))) args s 0 0 (e_A G)) (F0 m 2 ls []) := by
  obtain ⟨hx, hb, hr, hml, hown, hts, hlocks, hES, hbs⟩ := id E
  unfold fX3_firstCorner_b2 at hM
  refine lv_iload_n hx hb dX3_firstCorner_2 rfl (lv_at hl 1 rfl) ?_
  refine lv_iconst (v := nI 4) hx hb dX3_firstCorner_3 (by decide) ?_
  refine lv_icmp_gt (tgt := 25) hx hb dX3_firstCorner_4 (by decide) (fun hc => ?_) (fun hc => ?_)
  · have hM := e_ip hc hM
    refine lv_iconst (v := -1) hx hb dX3_firstCorner_25 (by decide) ?_
    obtain rfl := e_so hM
    exact e_iret E J dX3_firstCorner_26
  · have hM := e_in hc hM
    refine lv_aload_n hx hb dX3_firstCorner_7 rfl (lv_at hl 0 rfl) ?_
    refine lv_iload_n hx hb dX3_firstCorner_8 rfl (lv_at hl 1 rfl) ?_
    obtain ⟨v1, hv, hM⟩ := e_bs hM
    obtain ⟨fs_, hk, -⟩ := e_bs hv
    refine e_callV (ci := 3) (As := [.int l1]) (rest := []) (n := 1) E J hk rfl (mX3_leastX (l := l) (G := G) l0 l1 h _ hv) q_3_57 q_3_45 q_3_46 q_1_5 q_3_47 (by decide +kernel) rfl ⟨Nat.le_of_ble_eq_true rfl, Nat.le_of_ble_eq_true rfl⟩ (st0 := [.int l1, .ref (e_ad G l0)]) (st1 := [.int v1]) rfl rfl hl.1 (Nat.le_of_ble_eq_true rfl) dX3_firstCorner_9 ⟨Nat.le_refl _, Nat.le_refl _⟩ (fun H locs J => ?_)
    refine lv_bipush (v := nI 17) hx hb dX3_firstCorner_12 (by decide) ?_
    refine lv_icmp_eq (tgt := 19) hx hb dX3_firstCorner_14 (by decide) (fun hc => ?_) (fun hc => ?_)
    · have hM := e_ip hc hM
      refine lv_iinc (v := (l1 + (nI 1))) (lv' := [(1, .int (l1 + (nI 1))), (0, .ref (e_ad G l0))]) hx hb dX3_firstCorner_19 hl (k := 1) rfl rfl (by decide) rfl (fun ls hl => ?_)
      refine lv_goto (tgt := 2) hx hb dX3_firstCorner_22 (by decide) ?_
      exact K2 l0 (l1 + (nI 1)) hM _ _ J _ (lv_sub hl [1, 0] rfl)
    · have hM := e_in hc hM
      refine lv_iload_n hx hb dX3_firstCorner_17 rfl (lv_at hl 1 rfl) ?_
      obtain rfl := e_so hM
      exact e_iret E J dX3_firstCorner_18
set_option maxRecDepth 100000 in
set_option maxHeartbeats 4000000 in
theorem mX3_firstCorner_L2 {p : Program} {l : Launch} {e : Env} {s : State} {m : MethodId} {args : Array Value} {below : List Frame} {meth : Method} {c : Code} {G : e_G} {res : Int32} (E : e_M G p s args m meth c cX3_firstCorner 2 (some FieldType.int) RX3) (h : e_H) (n : Nat) (l0 : Nat) (l1 : Int32) (hM : fX3_firstCorner_L2 h n l0 l1 = some res) {H : Heap} {locs : List Loc} (J : e_J G s h H locs) {ls : Array Slot} (hl : lv_has ls 2 [(0, .ref (e_ad G l0)), (1, .int l1)]) : W p l e (e_rm 2 45) s m args below meth c H locs 0 0 (MQ below (e_Q G h (some (.int res))) args s 0 0 (e_A G)) (F0 m 2 ls []) := by
  induction n generalizing l0 l1 H locs ls with
  | zero => exact e_no hM
  | succ n ih => exact mX3_firstCorner_b2 (k2 := (fX3_firstCorner_L2 h n)) E h  (fun l0 l1 hM H locs J ls hl => ih l0 l1 hM J hl) l0 l1 hM J hl
set_option maxRecDepth 100000 in
set_option maxHeartbeats 4000000 in
theorem mX3_firstCorner {l : Launch} {G : e_G} (l0 : Nat) (h : e_H) (res : Int32) (hM : fX3_firstCorner l0 h = some res) : Met l yX3_firstCorner (e_W yX3_firstCorner cX3_firstCorner 2 (some FieldType.int)) (e_rm 2 45) (e_Pc G h [.ref (e_ad G l0)]) (e_Q G h (some (.int res))) 0 0 (e_A G) := by
  refine Met.ofW (cc := cX3_firstCorner) (maxL := 2) (ret := (some FieldType.int)) (by decide) rfl ?_
  intro p e s m args below meth c s₁ B hml hv
  obtain ⟨rfl, hS, hP⟩ := hv
  have E := e_enter (own := RX3) (ret := (some FieldType.int)) B hml rfl hS hP
  have J : e_J G s h s.heap [] := ⟨hP, va_S.rf⟩
  have hl := lv_entry ([.ref (e_ad G l0)]) (n := 2) (Nat.le_of_ble_eq_true rfl)
  rw [lg_entry_eq]
  generalize (lg_sl ([.ref (e_ad G l0)]) ++ List.replicate (2 - (lg_sl ([.ref (e_ad G l0)])).length) Slot.unset).toArray = ls at hl ⊢
  have hl : lv_has ls 2 [(0, .ref (e_ad G l0))] := hl
  obtain ⟨hx, hb, hr, hml, hown, hts, hlocks, hES, hbs⟩ := id E
  unfold fX3_firstCorner at hM
  obtain ⟨fs_, hk_, hM⟩ := e_bs hM
  refine lv_iconst (v := nI 0) hx hb dX3_firstCorner_0 (by decide) ?_
  refine lv_istore_n (lv' := [(1, .int (nI 0)), (0, .ref (e_ad G l0))]) hx hb dX3_firstCorner_1 rfl hl (by decide) rfl (fun ls hl => ?_)
  exact mX3_firstCorner_L2 E h 200 l0 (nI 0) hM J (lv_sub hl [1, 0] rfl)
set_option maxRecDepth 100000 in
set_option maxHeartbeats 4000000 in
theorem mX3_steepestFrom_b81 {p : Program} {l : Launch} {e : Env} {s : State} {m : MethodId} {args : Array Value} {below : List Frame} {meth : Method} {c : Code} {G : e_G} {res : Int32} {k9 : Nat → Int32 → Int32 → Int32 → Int32 → Option Int32} (E : e_M G p s args m meth c cX3_steepestFrom 7 (some FieldType.int) RX3) (h : e_H) (K9 : ∀ (l0 : Nat) (l1 : Int32) (l2 : Int32) (l3 : Int32) (l4 : Int32), k9 l0 l1 l2 l3 l4 = some res → ∀ (H : Heap) (locs : List Loc), e_J G s h H locs → ∀ (ls : Array Slot), lv_has ls 7 [(0, .ref (e_ad G l0)), (1, .int l1), (2, .int l2), (3, .int l3), (4, .int l4)] → W p l e (e_rm 2 45) s m args below meth c H locs 0 0 (MQ below (e_Q G h (some (.int res))) args s 0 0 (e_A G)) (F0 m 9 ls [])) (l0 : Nat) (l1 : Int32) (l2 : Int32) (l3 : Int32) (l4 : Int32) (hM : fX3_steepestFrom_b81 h k9 l0 l1 l2 l3 l4 = some res) {H : Heap} {locs : List Loc} (J : e_J G s h H locs) {ls : Array Slot} (hl : lv_has ls 7 [(0, .ref (e_ad G l0)), (1, .int l1), (2, .int l2), (3, .int l3), (4, .int l4)]) : W p l e (e_rm 2 45) s m args below meth c H locs 0 0 (MQ below (e_Q G h (some (.int res))) args s 0 0 (e_A G)) (F0 m 81 ls []) := by
  obtain ⟨hx, hb, hr, hml, hown, hts, hlocks, hES, hbs⟩ := id E
  unfold fX3_steepestFrom_b81 at hM
  refine lv_iinc (v := (l4 + (nI 1))) (lv' := [(4, .int (l4 + (nI 1))), (0, .ref (e_ad G l0)), (1, .int l1), (2, .int l2), (3, .int l3)]) hx hb dX3_steepestFrom_81 hl (k := 4) rfl rfl (by decide) rfl (fun ls hl => ?_)
  refine lv_goto (tgt := 9) hx hb dX3_steepestFrom_84 (by decide) ?_
  exact K9 l0 l1 l2 l3 (l4 + (nI 1)) hM _ _ J _ (lv_sub hl [1, 2, 3, 4, 0] rfl)
set_option maxRecDepth 100000 in
set_option maxHeartbeats 4000000 in
theorem mX3_steepestFrom_b75 {p : Program} {l : Launch} {e : Env} {s : State} {m : MethodId} {args : Array Value} {below : List Frame} {meth : Method} {c : Code} {G : e_G} {res : Int32} {k9 : Nat → Int32 → Int32 → Int32 → Int32 → Option Int32} (E : e_M G p s args m meth c cX3_steepestFrom 7 (some FieldType.int) RX3) (h : e_H) (K9 : ∀ (l0 : Nat) (l1 : Int32) (l2 : Int32) (l3 : Int32) (l4 : Int32), k9 l0 l1 l2 l3 l4 = some res → ∀ (H : Heap) (locs : List Loc), e_J G s h H locs → ∀ (ls : Array Slot), lv_has ls 7 [(0, .ref (e_ad G l0)), (1, .int l1), (2, .int l2), (3, .int l3), (4, .int l4)] → W p l e (e_rm 2 45) s m args below meth c H locs 0 0 (MQ below (e_Q G h (some (.int res))) args s 0 0 (e_A G)) (F0 m 9 ls [])) (l0 : Nat) (l1 : Int32) (l4 : Int32) (l5 : Int32) (hM : fX3_steepestFrom_b75 h k9 l0 l1 l4 l5 = some res) {H : Heap} {locs : List Loc} (J : e_J G s h H locs) {ls : Array Slot} (hl : lv_has ls 7 [(0, .ref (e_ad G l0)), (1, .int l1), (4, .int l4), (5, .int l5)]) : W p l e (e_rm 2 45) s m args below meth c H locs 0 0 (MQ below (e_Q G h (some (.int res))) args s 0 0 (e_A G)) (F0 m 75 ls []) := by
  obtain ⟨hx, hb, hr, hml, hown, hts, hlocks, hES, hbs⟩ := id E
  unfold fX3_steepestFrom_b75 at hM
  refine lv_iload hx hb dX3_steepestFrom_75 (lv_at hl 2 rfl) ?_
  refine lv_istore_n (lv' := [(2, .int l4), (0, .ref (e_ad G l0)), (1, .int l1), (4, .int l4), (5, .int l5)]) hx hb dX3_steepestFrom_77 rfl hl (by decide) rfl (fun ls hl => ?_)
  refine lv_iload hx hb dX3_steepestFrom_78 (lv_at hl 4 rfl) ?_
  refine lv_istore_n (lv' := [(3, .int l5), (2, .int l4), (0, .ref (e_ad G l0)), (1, .int l1), (4, .int l4), (5, .int l5)]) hx hb dX3_steepestFrom_80 rfl hl (by decide) rfl (fun ls hl => ?_)
  exact mX3_steepestFrom_b81 E h K9 l0 l1 l4 l5 l4 hM J (lv_sub hl [2, 3, 1, 0, 4] rfl)
set_option maxRecDepth 100000 in
set_option maxHeartbeats 4000000 in
theorem mX3_steepestFrom_b49 {p : Program} {l : Launch} {e : Env} {s : State} {m : MethodId} {args : Array Value} {below : List Frame} {meth : Method} {c : Code} {G : e_G} {res : Int32} {k9 : Nat → Int32 → Int32 → Int32 → Int32 → Option Int32} (E : e_M G p s args m meth c cX3_steepestFrom 7 (some FieldType.int) RX3) (h : e_H) (K9 : ∀ (l0 : Nat) (l1 : Int32) (l2 : Int32) (l3 : Int32) (l4 : Int32), k9 l0 l1 l2 l3 l4 = some res → ∀ (H : Heap) (locs : List Loc), e_J G s h H locs → ∀ (ls : Array Slot), lv_has ls 7 [(0, .ref (e_ad G l0)), (1, .int l1), (2, .int l2), (3, .int l3), (4, .int l4)] → W p l e (e_rm 2 45) s m args below meth c H locs 0 0 (MQ below (e_Q G h (some (.int res))) args s 0 0 (e_A G)) (F0 m 9 ls [])) (l0 : Nat) (l1 : Int32) (l2 : Int32) (l3 : Int32) (l4 : Int32) (l5 : Int32) (t0 : Int32) (hM : fX3_steepestFrom_b49 h k9 l0 l1 l2 l3 l4 l5 t0 = some res) {H : Heap} {locs : List Loc} (J : e_J G s h H locs) {ls : Array Slot} (hl : lv_has ls 7 [(0, .ref (e_ad G l0)), (1, .int l1), (2, .int l2), (3, .int l3), (4, .int l4), (5, .int l5)]) : W p l e (e_rm 2 45) s m args below meth c H locs 0 0 (MQ below (e_Q G h (some (.int res))) args s 0 0 (e_A G)) (F0 m 49 ls [.int t0]) := by
  obtain ⟨hx, hb, hr, hml, hown, hts, hlocks, hES, hbs⟩ := id E
  unfold fX3_steepestFrom_b49 at hM
  refine lv_istore (lv' := [(6, .int t0), (0, .ref (e_ad G l0)), (1, .int l1), (2, .int l2), (3, .int l3), (4, .int l4), (5, .int l5)]) hx hb dX3_steepestFrom_49 hl (by decide) rfl (fun ls hl => ?_)
  refine lv_iload hx hb dX3_steepestFrom_51 (lv_at hl 0 rfl) ?_
  refine lv_if_eq (tgt := 81) hx hb dX3_steepestFrom_53 (by decide) (fun hc => ?_) (fun hc => ?_)
  · have hM := e_ip hc hM
    exact mX3_steepestFrom_b81 E h K9 l0 l1 l2 l3 l4 hM J (lv_sub hl [1, 2, 3, 4, 5] rfl)
  · have hM := e_in hc hM
    refine lv_iload_n hx hb dX3_steepestFrom_56 rfl (lv_at hl 3 rfl) ?_
    refine lv_if_lt (tgt := 75) hx hb dX3_steepestFrom_57 (by decide) (fun hc => ?_) (fun hc => ?_)
    · have hM := e_ip hc hM
      exact mX3_steepestFrom_b75 E h K9 l0 l1 l4 l5 hM J (lv_sub hl [1, 2, 5, 6] rfl)
    · have hM := e_in hc hM
      refine lv_iload hx hb dX3_steepestFrom_60 (lv_at hl 6 rfl) ?_
      refine lv_iload_n hx hb dX3_steepestFrom_62 rfl (lv_at hl 3 rfl) ?_
      refine lv_iload_n hx hb dX3_steepestFrom_63 rfl (lv_at hl 2 rfl) ?_
      refine lv_isub hx hb dX3_steepestFrom_64 ?_
      refine lv_imul hx hb dX3_steepestFrom_65 ?_
      refine lv_iload_n hx hb dX3_steepestFrom_66 rfl (lv_at hl 4 rfl) ?_
      refine lv_iload hx hb dX3_steepestFrom_67 (lv_at hl 5 rfl) ?_
      refine lv_iload_n hx hb dX3_steepestFrom_69 rfl (lv_at hl 2 rfl) ?_
      refine lv_isub hx hb dX3_steepestFrom_70 ?_
      refine lv_imul hx hb dX3_steepestFrom_71 ?_
      refine lv_icmp_lt (tgt := 81) hx hb dX3_steepestFrom_72 (by decide) (fun hc => ?_) (fun hc => ?_)
      · have hM := e_ip hc hM
        exact mX3_steepestFrom_b81 E h K9 l0 l1 l2 l3 l4 hM J (lv_sub hl [1, 2, 3, 4, 5] rfl)
      · have hM := e_in hc hM
        exact mX3_steepestFrom_b75 E h K9 l0 l1 l4 l5 hM J (lv_sub hl [1, 2, 5, 6] rfl)
set_option maxRecDepth 100000 in
set_option maxHeartbeats 4000000 in
theorem mX3_steepestFrom_b9 {p : Program} {l : Launch} {e : Env} {s : State} {m : MethodId} {args : Array Value} {below : List Frame} {meth : Method} {c : Code} {G : e_G} {res : Int32} {k9 : Nat → Int32 → Int32 → Int32 → Int32 → Option Int32} (E : e_M G p s args m meth c cX3_steepestFrom 7 (some FieldType.int) RX3) (h : e_H) (K9 : ∀ (l0 : Nat) (l1 : Int32) (l2 : Int32) (l3 : Int32) (l4 : Int32), k9 l0 l1 l2 l3 l4 = some res → ∀ (H : Heap) (locs : List Loc), e_J G s h H locs → ∀ (ls : Array Slot), lv_has ls 7 [(0, .ref (e_ad G l0)), (1, .int l1), (2, .int l2), (3, .int l3), (4, .int l4)] → W p l e (e_rm 2 45) s m args below meth c H locs 0 0 (MQ below (e_Q G h (some (.int res))) args s 0 0 (e_A G)) (F0 m 9 ls [])) (l0 : Nat) (l1 : Int32) (l2 : Int32) (l3 : Int32) (l4 : Int32) (hM : fX3_steepestFrom_b9 h k9 l0 l1 l2 l3 l4 = some res) {H : Heap} {locs : List Loc} (J : e_J G s h H locs) {ls : Array Slot} (hl : lv_has ls 7 [(0, .ref (e_ad G l0)), (1, .int l1), (2, .int l2), (3, .int l3), (4, .int l4)]) : W p l e (e_rm 2 45) s m args below meth c H locs 0 0 (MQ below (e_Q G h (some (.int res))) args s 0 0 (e_A G)) (F0 m 9 ls []) := by
  obtain ⟨hx, hb, hr, hml, hown, hts, hlocks, hES, hbs⟩ := id E
  unfold fX3_steepestFrom_b9 at hM
  refine lv_iload_n hx hb dX3_steepestFrom_9 rfl (lv_at hl 1 rfl) ?_
  refine lv_if_lt (tgt := 87) hx hb dX3_steepestFrom_10 (by decide) (fun hc => ?_) (fun hc => ?_)
  · have hM := e_ip hc hM
    refine lv_iload_n hx hb dX3_steepestFrom_87 rfl (lv_at hl 2 rfl) ?_
    obtain rfl := e_so hM
    exact e_iret E J dX3_steepestFrom_88
  · have hM := e_in hc hM
    refine lv_iload hx hb dX3_steepestFrom_13 (lv_at hl 4 rfl) ?_
    refine lv_iconst (v := nI 4) hx hb dX3_steepestFrom_15 (by decide) ?_
    refine lv_icmp_gt (tgt := 87) hx hb dX3_steepestFrom_16 (by decide) (fun hc => ?_) (fun hc => ?_)
    · have hM := e_ip hc hM
      refine lv_iload_n hx hb dX3_steepestFrom_87 rfl (lv_at hl 2 rfl) ?_
      obtain rfl := e_so hM
      exact e_iret E J dX3_steepestFrom_88
    · have hM := e_in hc hM
      refine lv_aload_n hx hb dX3_steepestFrom_19 rfl (lv_at hl 0 rfl) ?_
      refine lv_iload_n hx hb dX3_steepestFrom_20 rfl (lv_at hl 1 rfl) ?_
      obtain ⟨v1, hv, hM⟩ := e_bs hM
      obtain ⟨fs_, hk, -⟩ := e_bs hv
      refine e_callV (ci := 3) (As := [.int l1]) (rest := []) (n := 1) E J hk rfl (mX3_leastX (l := l) (G := G) l0 l1 h _ hv) q_3_57 q_3_45 q_3_46 q_1_5 q_3_47 (by decide +kernel) rfl ⟨Nat.le_of_ble_eq_true rfl, Nat.le_of_ble_eq_true rfl⟩ (st0 := [.int l1, .ref (e_ad G l0)]) (st1 := [.int v1]) rfl rfl hl.1 (Nat.le_of_ble_eq_true rfl) dX3_steepestFrom_21 ⟨Nat.le_refl _, Nat.le_refl _⟩ (fun H locs J => ?_)
      refine lv_aload_n hx hb dX3_steepestFrom_24 rfl (lv_at hl 0 rfl) ?_
      refine lv_iload hx hb dX3_steepestFrom_25 (lv_at hl 4 rfl) ?_
      obtain ⟨v2, hv, hM⟩ := e_bs hM
      obtain ⟨fs_, hk, -⟩ := e_bs hv
      refine e_callV (ci := 3) (As := [.int l4]) (rest := [.int v1]) (n := 1) E J hk rfl (mX3_leastX (l := l) (G := G) l0 l4 h _ hv) q_3_57 q_3_45 q_3_46 q_1_5 q_3_47 (by decide +kernel) rfl ⟨Nat.le_of_ble_eq_true rfl, Nat.le_of_ble_eq_true rfl⟩ (st0 := [.int l4, .ref (e_ad G l0), .int v1]) (st1 := [.int v2, .int v1]) rfl rfl hl.1 (Nat.le_of_ble_eq_true rfl) dX3_steepestFrom_27 ⟨Nat.le_refl _, Nat.le_refl _⟩ (fun H locs J => ?_)
      refine lv_isub hx hb dX3_steepestFrom_30 ?_
      refine lv_istore (lv' := [(5, .int (v1 - v2)), (0, .ref (e_ad G l0)), (1, .int l1), (2, .int l2), (3, .int l3), (4, .int l4)]) hx hb dX3_steepestFrom_31 hl (by decide) rfl (fun ls hl => ?_)
      refine lv_aload_n hx hb dX3_steepestFrom_33 rfl (lv_at hl 1 rfl) ?_
      refine lv_iload hx hb dX3_steepestFrom_34 (lv_at hl 5 rfl) ?_
      obtain ⟨v3, hv, hM⟩ := e_bs hM
      obtain ⟨fs_, hk, -⟩ := e_bs hv
      refine e_callV (ci := 3) (As := [.int l4]) (rest := []) (n := 1) E J hk rfl (mX3_leastX (l := l) (G := G) l0 l4 h _ hv) q_3_57 q_3_45 q_3_46 q_1_5 q_3_47 (by decide +kernel) rfl ⟨Nat.le_of_ble_eq_true rfl, Nat.le_of_ble_eq_true rfl⟩ (st0 := [.int l4, .ref (e_ad G l0)]) (st1 := [.int v3]) rfl rfl hl.1 (Nat.le_of_ble_eq_true rfl) dX3_steepestFrom_36 ⟨Nat.le_refl _, Nat.le_refl _⟩ (fun H locs J => ?_)
      refine lv_bipush (v := nI 17) hx hb dX3_steepestFrom_39 (by decide) ?_
      refine lv_icmp_eq (tgt := 48) hx hb dX3_steepestFrom_41 (by decide) (fun hc => ?_) (fun hc => ?_)
      · have hM := e_ip hc hM
        refine lv_iconst (v := nI 0) hx hb dX3_steepestFrom_48 (by decide) ?_
        exact mX3_steepestFrom_b49 E h K9 l0 l1 l2 l3 l4 (v1 - v2) (nI 0) hM J (lv_sub hl [1, 2, 3, 4, 5, 0] rfl)
      · have hM := e_in hc hM
        refine lv_iconst (v := nI 1) hx hb dX3_steepestFrom_44 (by decide) ?_
        refine lv_goto (tgt := 49) hx hb dX3_steepestFrom_45 (by decide) ?_
        exact mX3_steepestFrom_b49 E h K9 l0 l1 l2 l3 l4 (v1 - v2) (nI 1) hM J (lv_sub hl [1, 2, 3, 4, 5, 0] rfl)
set_option maxRecDepth 100000 in
set_option maxHeartbeats 4000000 in
theorem mX3_steepestFrom_L9 {p : Program} {l : Launch} {e : Env} {s : State} {m : MethodId} {args : Array Value} {below : List Frame} {meth : Method} {c : Code} {G : e_G} {res : Int32} (E : e_M G p s args m meth c cX3_steepestFrom 7 (some FieldType.int) RX3) (h : e_H) (n : Nat) (l0 : Nat) (l1 : Int32) (l2 : Int32) (l3 : Int32) (l4 : Int32) (hM : fX3_steepestFrom_L9 h n l0 l1 l2 l3 l4 = some res) {H : Heap} {locs : List Loc} (J : e_J G s h H locs) {ls : Array Slot} (hl : lv_has ls 7 [(0, .ref (e_ad G l0)), (1, .int l1), (2, .int l2), (3, .int l3), (4, .int l4)]) : W p l e (e_rm 2 45) s m args below meth c H locs 0 0 (MQ below (e_Q G h (some (.int res))) args s 0 0 (e_A G)) (F0 m 9 ls []) := by
  induction n generalizing l0 l1 l2 l3 l4 H locs ls with
  | zero => exact e_no hM
  | succ n ih => exact mX3_steepestFrom_b9 (k9 := (fX3_steepestFrom_L9 h n)) E h  (fun l0 l1 l2 l3 l4 hM H locs J ls hl => ih l0 l1 l2 l3 l4 hM J hl) l0 l1 l2 l3 l4 hM J hl
set_option maxRecDepth 100000 in
set_option maxHeartbeats 4000000 in
theorem mX3_steepestFrom {l : Launch} {G : e_G} (l0 : Nat) (l1 : Int32) (h : e_H) (res : Int32) (hM : fX3_steepestFrom l0 l1 h = some res) : Met l yX3_steepestFrom (e_W yX3_steepestFrom cX3_steepestFrom 7 (some FieldType.int)) (e_rm 2 45) (e_Pc G h [.ref (e_ad G l0), .int l1]) (e_Q G h (some (.int res))) 0 0 (e_A G) := by
  refine Met.ofW (cc := cX3_steepestFrom) (maxL := 7) (ret := (some FieldType.int)) (by decide) rfl ?_
  intro p e s m args below meth c s₁ B hml hv
  obtain ⟨rfl, hS, hP⟩ := hv
  have E := e_enter (own := RX3) (ret := (some FieldType.int)) B hml rfl hS hP
  have J : e_J G s h s.heap [] := ⟨hP, va_S.rf⟩
  have hl := lv_entry ([.ref (e_ad G l0), .int l1]) (n := 7) (Nat.le_of_ble_eq_true rfl)
  rw [lg_entry_eq]
  generalize (lg_sl ([.ref (e_ad G l0), .int l1]) ++ List.replicate (7 - (lg_sl ([.ref (e_ad G l0), .int l1])).length) Slot.unset).toArray = ls at hl ⊢
  have hl : lv_has ls 7 [(0, .ref (e_ad G l0)), (1, .int l1)] := hl
  obtain ⟨hx, hb, hr, hml, hown, hts, hlocks, hES, hbs⟩ := id E
  unfold fX3_steepestFrom at hM
  obtain ⟨fs_, hk_, hM⟩ := e_bs hM
  refine lv_iconst (v := -1) hx hb dX3_steepestFrom_0 (by decide) ?_
  refine lv_istore_n (lv' := [(2, .int (-1 : Int32)), (0, .ref (e_ad G l0)), (1, .int l1)]) hx hb dX3_steepestFrom_1 rfl hl (by decide) rfl (fun ls hl => ?_)
  refine lv_iconst (v := nI 0) hx hb dX3_steepestFrom_2 (by decide) ?_
  refine lv_istore_n (lv' := [(3, .int (nI 0)), (2, .int (-1 : Int32)), (0, .ref (e_ad G l0)), (1, .int l1)]) hx hb dX3_steepestFrom_3 rfl hl (by decide) rfl (fun ls hl => ?_)
  refine lv_iload_n hx hb dX3_steepestFrom_4 rfl (lv_at hl 3 rfl) ?_
  refine lv_iconst (v := nI 1) hx hb dX3_steepestFrom_5 (by decide) ?_
  refine lv_iadd hx hb dX3_steepestFrom_6 ?_
  refine lv_istore (lv' := [(4, .int (l1 + (nI 1))), (3, .int (nI 0)), (2, .int (-1 : Int32)), (0, .ref (e_ad G l0)), (1, .int l1)]) hx hb dX3_steepestFrom_7 hl (by decide) rfl (fun ls hl => ?_)
  exact mX3_steepestFrom_L9 E h 200 l0 l1 (-1 : Int32) (nI 0) (l1 + (nI 1)) hM J (lv_sub hl [3, 4, 2, 1, 0] rfl)
set_option maxRecDepth 100000 in
set_option maxHeartbeats 4000000 in
theorem mX8_greatestShared_b7 {p : Program} {l : Launch} {e : Env} {s : State} {m : MethodId} {args : Array Value} {below : List Frame} {meth : Method} {c : Code} {G : e_G} {res : Int32} {k7 : Int32 → Int32 → Int32 → Option Int32} (E : e_M G p s args m meth c cX8_greatestShared 6 (some FieldType.int) RX8) (h : e_H) (K7 : ∀ (l2 : Int32) (l3 : Int32) (l4 : Int32), k7 l2 l3 l4 = some res → ∀ (H : Heap) (locs : List Loc), e_J G s h H locs → ∀ (ls : Array Slot), lv_has ls 6 [(2, .int l2), (3, .int l3), (4, .int l4)] → W p l e (e_rm 0 0) s m args below meth c H locs 0 0 (MQ below (e_Q G h (some (.int res))) args s 0 0 (e_A G)) (F0 m 7 ls [])) (l2 : Int32) (l3 : Int32) (l4 : Int32) (hM : fX8_greatestShared_b7 k7 l2 l3 l4 = some res) {H : Heap} {locs : List Loc} (J : e_J G s h H locs) {ls : Array Slot} (hl : lv_has ls 6 [(2, .int l2), (3, .int l3), (4, .int l4)]) : W p l e (e_rm 0 0) s m args below meth c H locs 0 0 (MQ below (e_Q G h (some (.int res))) args s 0 0 (e_A G)) (F0 m 7 ls []) := by
  obtain ⟨hx, hb, hr, hml, hown, hts, hlocks, hES, hbs⟩ := id E
  unfold fX8_greatestShared_b7 at hM
  refine lv_iload hx hb dX8_greatestShared_7 (lv_at hl 2 rfl) ?_
  refine lv_bipush (v := nI 100) hx hb dX8_greatestShared_9 (by decide) ?_
  refine lv_icmp_ge (tgt := 34) hx hb dX8_greatestShared_11 (by decide) (fun hc => ?_) (fun hc => ?_)
  · have hM := e_ip hc hM
    refine lv_iload_n hx hb dX8_greatestShared_34 rfl (lv_at hl 0 rfl) ?_
    obtain rfl := e_so hM
    exact e_iret E J dX8_greatestShared_35
  · have hM := e_in hc hM
    refine lv_iload_n hx hb dX8_greatestShared_14 rfl (lv_at hl 1 rfl) ?_
    refine lv_if_eq (tgt := 34) hx hb dX8_greatestShared_15 (by decide) (fun hc => ?_) (fun hc => ?_)
    · have hM := e_ip hc hM
      refine lv_iload_n hx hb dX8_greatestShared_34 rfl (lv_at hl 0 rfl) ?_
      obtain rfl := e_so hM
      exact e_iret E J dX8_greatestShared_35
    · have hM := e_in hc hM
      refine lv_iload_n hx hb dX8_greatestShared_18 rfl (lv_at hl 0 rfl) ?_
      refine lv_iload_n hx hb dX8_greatestShared_19 rfl (lv_at hl 1 rfl) ?_
      obtain ⟨hz, hM⟩ := e_if0 hM
      refine lv_irem hx hb dX8_greatestShared_20 hz ?_
      refine lv_istore (lv' := [(5, .int (l2 - l2 / l3 * l3)), (2, .int l2), (3, .int l3), (4, .int l4)]) hx hb dX8_greatestShared_21 hl (by decide) rfl (fun ls hl => ?_)
      refine lv_iload_n hx hb dX8_greatestShared_23 rfl (lv_at hl 2 rfl) ?_
      refine lv_istore_n (lv' := [(2, .int l3), (5, .int (l2 - l2 / l3 * l3)), (3, .int l3), (4, .int l4)]) hx hb dX8_greatestShared_24 rfl hl (by decide) rfl (fun ls hl => ?_)
      refine lv_iload hx hb dX8_greatestShared_25 (lv_at hl 1 rfl) ?_
      refine lv_istore_n (lv' := [(3, .int (l2 - l2 / l3 * l3)), (2, .int l3), (5, .int (l2 - l2 / l3 * l3)), (4, .int l4)]) hx hb dX8_greatestShared_27 rfl hl (by decide) rfl (fun ls hl => ?_)
      refine lv_iinc (v := (l4 + (nI 1))) (lv' := [(4, .int (l4 + (nI 1))), (3, .int (l2 - l2 / l3 * l3)), (2, .int l3), (5, .int (l2 - l2 / l3 * l3))]) hx hb dX8_greatestShared_28 hl (k := 3) rfl rfl (by decide) rfl (fun ls hl => ?_)
      refine lv_goto (tgt := 7) hx hb dX8_greatestShared_31 (by decide) ?_
      exact K7 l3 (l2 - l2 / l3 * l3) (l4 + (nI 1)) hM _ _ J _ (lv_sub hl [2, 1, 0] rfl)
set_option maxRecDepth 100000 in
set_option maxHeartbeats 4000000 in
theorem mX8_greatestShared_L7 {p : Program} {l : Launch} {e : Env} {s : State} {m : MethodId} {args : Array Value} {below : List Frame} {meth : Method} {c : Code} {G : e_G} {res : Int32} (E : e_M G p s args m meth c cX8_greatestShared 6 (some FieldType.int) RX8) (h : e_H) (n : Nat) (l2 : Int32) (l3 : Int32) (l4 : Int32) (hM : fX8_greatestShared_L7 n l2 l3 l4 = some res) {H : Heap} {locs : List Loc} (J : e_J G s h H locs) {ls : Array Slot} (hl : lv_has ls 6 [(2, .int l2), (3, .int l3), (4, .int l4)]) : W p l e (e_rm 0 0) s m args below meth c H locs 0 0 (MQ below (e_Q G h (some (.int res))) args s 0 0 (e_A G)) (F0 m 7 ls []) := by
  induction n generalizing l2 l3 l4 H locs ls with
  | zero => exact e_no hM
  | succ n ih => exact mX8_greatestShared_b7 (k7 := (fX8_greatestShared_L7 n)) E h  (fun l2 l3 l4 hM H locs J ls hl => ih l2 l3 l4 hM J hl) l2 l3 l4 hM J hl
set_option maxRecDepth 100000 in
set_option maxHeartbeats 4000000 in
theorem mX8_greatestShared {l : Launch} {G : e_G} (l0 : Int32) (l1 : Int32) (h : e_H) (res : Int32) (hM : fX8_greatestShared l0 l1 = some res) : Met l yX8_greatestShared (e_W yX8_greatestShared cX8_greatestShared 6 (some FieldType.int)) (e_rm 0 0) (e_Pc G h [.int l0, .int l1]) (e_Q G h (some (.int res))) 0 0 (e_A G) := by
  refine Met.ofW (cc := cX8_greatestShared) (maxL := 6) (ret := (some FieldType.int)) (by decide) rfl ?_
  intro p e s m args below meth c s₁ B hml hv
  obtain ⟨rfl, hS, hP⟩ := hv
  have E := e_enter (own := RX8) (ret := (some FieldType.int)) B hml rfl hS hP
  have J : e_J G s h s.heap [] := ⟨hP, va_S.rf⟩
  have hl := lv_entry ([.int l0, .int l1]) (n := 6) (Nat.le_of_ble_eq_true rfl)
  rw [lg_entry_eq]
  generalize (lg_sl ([.int l0, .int l1]) ++ List.replicate (6 - (lg_sl ([.int l0, .int l1])).length) Slot.unset).toArray = ls at hl ⊢
  have hl : lv_has ls 6 [(0, .int l0), (1, .int l1)] := hl
  obtain ⟨hx, hb, hr, hml, hown, hts, hlocks, hES, hbs⟩ := id E
  unfold fX8_greatestShared at hM
  refine lv_iload_n hx hb dX8_greatestShared_0 rfl (lv_at hl 0 rfl) ?_
  refine lv_istore_n (lv' := [(2, .int l0), (0, .int l0), (1, .int l1)]) hx hb dX8_greatestShared_1 rfl hl (by decide) rfl (fun ls hl => ?_)
  refine lv_iload_n hx hb dX8_greatestShared_2 rfl (lv_at hl 2 rfl) ?_
  refine lv_istore_n (lv' := [(3, .int l1), (2, .int l0), (0, .int l0), (1, .int l1)]) hx hb dX8_greatestShared_3 rfl hl (by decide) rfl (fun ls hl => ?_)
  refine lv_iconst (v := nI 0) hx hb dX8_greatestShared_4 (by decide) ?_
  refine lv_istore (lv' := [(4, .int (nI 0)), (3, .int l1), (2, .int l0), (0, .int l0), (1, .int l1)]) hx hb dX8_greatestShared_5 hl (by decide) rfl (fun ls hl => ?_)
  exact mX8_greatestShared_L7 E h 200 l0 l1 (nI 0) hM J (lv_sub hl [2, 1, 0] rfl)
set_option maxRecDepth 100000 in
set_option maxHeartbeats 4000000 in
theorem mX8_power {l : Launch} {G : e_G} (l0 : Nat) (l1 : Int32) (l2 : Int32) (l3 : Int32) (h : e_H) (res : (Int32 × e_H)) (hM : fX8_power l0 l1 l2 l3 h = some res) : Met l yX8_power (e_W yX8_power cX8_power 10 (some FieldType.int)) (e_rm 6 147) (e_Pc G h [.ref (e_ad G l0), .int l1, .int l2, .int l3]) (e_Q G res.2 (some (.int res.1))) 0 0 (e_A G) := by
  refine Met.ofW (cc := cX8_power) (maxL := 10) (ret := (some FieldType.int)) (by decide) rfl ?_
  intro p e s m args below meth c s₁ B hml hv
  obtain ⟨rfl, hS, hP⟩ := hv
  have E := e_enter (own := RX8) (ret := (some FieldType.int)) B hml rfl hS hP
  have J : e_J G s h s.heap [] := ⟨hP, va_S.rf⟩
  have hl := lv_entry ([.ref (e_ad G l0), .int l1, .int l2, .int l3]) (n := 10) (Nat.le_of_ble_eq_true rfl)
  rw [lg_entry_eq]
  generalize (lg_sl ([.ref (e_ad G l0), .int l1, .int l2, .int l3]) ++ List.replicate (10 - (lg_sl ([.ref (e_ad G l0), .int l1, .int l2, .int l3])).length) Slot.unset).toArray = ls at hl ⊢
  have hl : lv_has ls 10 [(0, .ref (e_ad G l0)), (1, .int l1), (2, .int l2), (3, .int l3)] := hl
  obtain ⟨hx, hb, hr, hml, hown, hts, hlocks, hES, hbs⟩ := id E
  unfold fX8_power at hM
  obtain ⟨fs_, hk_, hM⟩ := e_bs hM
  refine lv_aload_n hx hb dX8_power_0 rfl (lv_at hl 0 rfl) ?_
  refine lv_iload_n hx hb dX8_power_1 rfl (lv_at hl 1 rfl) ?_
  refine lv_iload_n hx hb dX8_power_2 rfl (lv_at hl 2 rfl) ?_
  obtain ⟨p1, hv, hM⟩ := e_bs hM
  obtain ⟨fs_, hk, -⟩ := e_bs hv
  refine e_callV (ci := 8) (As := [.int l1, .int l2]) (rest := []) (n := 2) E J hk rfl (mX8_shapeAt (l := l) (G := G) l0 l1 l2 h _ hv) q_2_161 q_2_163 q_p_2 q_1_1 q_2_164 (by decide +kernel) rfl ⟨Nat.le_of_ble_eq_true rfl, Nat.le_of_ble_eq_true rfl⟩ (st0 := [.int l2, .int l1, .ref (e_ad G l0)]) (st1 := [e_r G p1.1]) rfl rfl hl.1 (Nat.le_of_ble_eq_true rfl) dX8_power_3 ⟨Nat.le_refl _, Nat.le_refl _⟩ (fun H locs J => ?_)
  obtain ⟨r2, hr2⟩ := p1
  rcases r2 with _ | a3
  · have hM := e_on0 hM
    refine W.eq (g2 := F0 m 6 ls [.null]) rfl ?_
    refine lv_astoreN (lv' := [(4, .null), (0, .ref (e_ad G l0)), (1, .int l1), (2, .int l2), (3, .int l3)]) hx hb dX8_power_6 hl (by decide) rfl (fun ls hl => ?_)
    refine lv_aloadN hx hb dX8_power_8 (lv_at hl 0 rfl) ?_
    refine lv_ifnullN (tgt := 22) hx hb dX8_power_10 (by decide) ?_
    refine lv_ldc (v := -1000000001) hx hb hown (hts _ q_1_237) dX8_power_22 ?_
    obtain rfl := e_so hM
    exact e_iret E J dX8_power_24
  · have hM := e_on1 hM
    refine W.eq (g2 := F0 m 6 ls [.ref (e_ad G a3)]) rfl ?_
    refine lv_astore (lv' := [(4, .ref (e_ad G a3)), (0, .ref (e_ad G l0)), (1, .int l1), (2, .int l2), (3, .int l3)]) hx hb dX8_power_6 hl (by decide) rfl (fun ls hl => ?_)
    refine lv_aload hx hb dX8_power_8 (lv_at hl 0 rfl) ?_
    refine lv_ifnull hx hb dX8_power_10 ?_
    refine lv_iload_n hx hb dX8_power_13 rfl (lv_at hl 4 rfl) ?_
    refine lv_if_lt (tgt := 22) hx hb dX8_power_14 (by decide) (fun hc => ?_) (fun hc => ?_)
    · have hM := e_ip hc hM
      refine lv_ldc (v := -1000000001) hx hb hown (hts _ q_1_237) dX8_power_22 ?_
      obtain rfl := e_so hM
      exact e_iret E J dX8_power_24
    · have hM := e_in hc hM
      refine lv_iload_n hx hb dX8_power_17 rfl (lv_at hl 4 rfl) ?_
      refine lv_iconst (v := nI 1) hx hb dX8_power_18 (by decide) ?_
      refine lv_icmp_le (tgt := 25) hx hb dX8_power_19 (by decide) (fun hc => ?_) (fun hc => ?_)
      · have hM := e_ip hc hM
        refine lv_aload hx hb dX8_power_25 (lv_at hl 0 rfl) ?_
        obtain ⟨v4, hv, hM⟩ := e_bs hM
        obtain ⟨fs_, hk, -⟩ := e_bs hv
        refine e_callV (ci := 3) (As := []) (rest := []) (n := 0) E J hk rfl (mX3_firstCorner (l := l) (G := G) a3 hr2 _ hv) q_3_53 q_3_54 q_3_55 q_1_5 q_3_56 (by decide +kernel) rfl ⟨Nat.le_of_ble_eq_true rfl, Nat.le_of_ble_eq_true rfl⟩ (st0 := [.ref (e_ad G a3)]) (st1 := [.int v4]) rfl rfl hl.1 (Nat.le_of_ble_eq_true rfl) dX8_power_27 ⟨Nat.le_refl _, Nat.le_refl _⟩ (fun H locs J => ?_)
        refine lv_istore (lv' := [(5, .int v4), (4, .ref (e_ad G a3)), (0, .ref (e_ad G l0)), (1, .int l1), (2, .int l2), (3, .int l3)]) hx hb dX8_power_30 hl (by decide) rfl (fun ls hl => ?_)
        refine lv_aload hx hb dX8_power_32 (lv_at hl 1 rfl) ?_
        refine lv_iload hx hb dX8_power_34 (lv_at hl 0 rfl) ?_
        obtain ⟨v5, hv, hM⟩ := e_bs hM
        obtain ⟨fs_, hk, -⟩ := e_bs hv
        refine e_callV (ci := 3) (As := [.int v4]) (rest := []) (n := 1) E J hk rfl (mX3_steepestFrom (l := l) (G := G) a3 v4 hr2 _ hv) q_3_58 q_3_59 q_3_60 q_1_5 q_3_61 (by decide +kernel) rfl ⟨Nat.le_of_ble_eq_true rfl, Nat.le_of_ble_eq_true rfl⟩ (st0 := [.int v4, .ref (e_ad G a3)]) (st1 := [.int v5]) rfl rfl hl.1 (Nat.le_of_ble_eq_true rfl) dX8_power_36 ⟨Nat.le_refl _, Nat.le_refl _⟩ (fun H locs J => ?_)
        refine lv_istore (lv' := [(6, .int v5), (5, .int v4), (4, .ref (e_ad G a3)), (0, .ref (e_ad G l0)), (1, .int l1), (2, .int l2), (3, .int l3)]) hx hb dX8_power_39 hl (by decide) rfl (fun ls hl => ?_)
        refine lv_iload hx hb dX8_power_41 (lv_at hl 0 rfl) ?_
        refine lv_if_ge (tgt := 49) hx hb dX8_power_43 (by decide) (fun hc => ?_) (fun hc => ?_)
        · have hM := e_ip hc hM
          refine lv_aload hx hb dX8_power_49 (lv_at hl 2 rfl) ?_
          refine lv_iload hx hb dX8_power_51 (lv_at hl 1 rfl) ?_
          obtain ⟨v6, hv, hM⟩ := e_bs hM
          obtain ⟨fs_, hk, -⟩ := e_bs hv
          refine e_callV (ci := 3) (As := [.int v4]) (rest := []) (n := 1) E J hk rfl (mX3_leastX (l := l) (G := G) a3 v4 hr2 _ hv) q_3_44 q_3_45 q_3_46 q_1_5 q_3_47 (by decide +kernel) rfl ⟨Nat.le_of_ble_eq_true rfl, Nat.le_of_ble_eq_true rfl⟩ (st0 := [.int v4, .ref (e_ad G a3)]) (st1 := [.int v6]) rfl rfl hl.1 (Nat.le_of_ble_eq_true rfl) dX8_power_53 ⟨Nat.le_refl _, Nat.le_refl _⟩ (fun H locs J => ?_)
          refine lv_aload hx hb dX8_power_56 (lv_at hl 2 rfl) ?_
          refine lv_iload hx hb dX8_power_58 (lv_at hl 0 rfl) ?_
          obtain ⟨v7, hv, hM⟩ := e_bs hM
          obtain ⟨fs_, hk, -⟩ := e_bs hv
          refine e_callV (ci := 3) (As := [.int v5]) (rest := [.int v6]) (n := 1) E J hk rfl (mX3_leastX (l := l) (G := G) a3 v5 hr2 _ hv) q_3_44 q_3_45 q_3_46 q_1_5 q_3_47 (by decide +kernel) rfl ⟨Nat.le_of_ble_eq_true rfl, Nat.le_of_ble_eq_true rfl⟩ (st0 := [.int v5, .ref (e_ad G a3), .int v6]) (st1 := [.int v7, .int v6]) rfl rfl hl.1 (Nat.le_of_ble_eq_true rfl) dX8_power_60 ⟨Nat.le_refl _, Nat.le_refl _⟩ (fun H locs J => ?_)
          refine lv_isub hx hb dX8_power_63 ?_
          refine lv_istore (lv' := [(7, .int (v6 - v7)), (6, .int v5), (5, .int v4), (4, .ref (e_ad G a3)), (0, .ref (e_ad G l0)), (1, .int l1), (2, .int l2), (3, .int l3)]) hx hb dX8_power_64 hl (by decide) rfl (fun ls hl => ?_)
          refine lv_iload hx hb dX8_power_66 (lv_at hl 1 rfl) ?_
          refine lv_iload hx hb dX8_power_68 (lv_at hl 2 rfl) ?_
          refine lv_isub hx hb dX8_power_70 ?_
          refine lv_istore (lv' := [(8, .int (v5 - v4)), (7, .int (v6 - v7)), (6, .int v5), (5, .int v4), (4, .ref (e_ad G a3)), (0, .ref (e_ad G l0)), (1, .int l1), (2, .int l2), (3, .int l3)]) hx hb dX8_power_71 hl (by decide) rfl (fun ls hl => ?_)
          refine lv_iload hx hb dX8_power_73 (lv_at hl 1 rfl) ?_
          refine va_mabs hx hb (hml.trans hl.1.symm) hown (hts _ q_3_62) (hts _ q_3_63) (hts _ q_1_12) (hts _ q_3_64) (Nat.le_of_ble_eq_true rfl) (Nat.le_of_ble_eq_true rfl) (Nat.zero_le _) (Nat.zero_le _) dX8_power_75 ?_
          refine lv_iload hx hb dX8_power_78 (lv_at hl 0 rfl) ?_
          obtain ⟨v8, hv, hM⟩ := e_bs hM
          refine e_callS (As := [.int (if 0 ≤ (v6 - v7) then (v6 - v7) else 0 - (v6 - v7)), .int (v5 - v4)]) (rest := []) (n := 2) E J (mX8_greatestShared (l := l) (G := G) (if 0 ≤ (v6 - v7) then (v6 - v7) else 0 - (v6 - v7)) (v5 - v4) hr2 _ hv) q_3_65 q_3_66 q_1_1 q_3_67 (by decide +kernel) rfl ⟨Nat.le_of_ble_eq_true rfl, Nat.le_of_ble_eq_true rfl⟩ (st0 := [.int (v5 - v4), .int (if 0 ≤ (v6 - v7) then (v6 - v7) else 0 - (v6 - v7))]) (st1 := [.int v8]) rfl rfl hl.1 (Nat.le_of_ble_eq_true rfl) dX8_power_80 ⟨Nat.le_refl _, Nat.le_refl _⟩ (fun H locs J => ?_)
          refine lv_istore (lv' := [(9, .int v8), (8, .int (v5 - v4)), (7, .int (v6 - v7)), (6, .int v5), (5, .int v4), (4, .ref (e_ad G a3)), (0, .ref (e_ad G l0)), (1, .int l1), (2, .int l2), (3, .int l3)]) hx hb dX8_power_83 hl (by decide) rfl (fun ls hl => ?_)
          refine lv_iload hx hb dX8_power_85 (lv_at hl 0 rfl) ?_
          refine lv_iconst (v := nI 1) hx hb dX8_power_87 (by decide) ?_
          refine lv_icmp_ge (tgt := 94) hx hb dX8_power_88 (by decide) (fun hc => ?_) (fun hc => ?_)
          · have hM := e_ip hc hM
            refine lv_iload_n hx hb dX8_power_94 rfl (lv_at hl 9 rfl) ?_
            refine lv_if_ne (tgt := 106) hx hb dX8_power_95 (by decide) (fun hc => ?_) (fun hc => ?_)
            · have hM := e_in hc hM
              refine lv_iload hx hb dX8_power_106 (lv_at hl 1 rfl) ?_
              refine lv_iload hx hb dX8_power_108 (lv_at hl 0 rfl) ?_
              obtain ⟨hz, hM⟩ := e_if0 hM
              refine lv_idiv hx hb dX8_power_110 hz ?_
              obtain rfl := e_so hM
              exact e_iret E J dX8_power_111
            · have hM := e_ip hc hM
              refine lv_iload hx hb dX8_power_98 (lv_at hl 2 rfl) ?_
              refine lv_iload hx hb dX8_power_100 (lv_at hl 0 rfl) ?_
              obtain ⟨hz, hM⟩ := e_if0 hM
              refine lv_idiv hx hb dX8_power_102 hz ?_
              refine lv_goto (tgt := 111) hx hb dX8_power_103 (by decide) ?_
              obtain rfl := e_so hM
              exact e_iret E J dX8_power_111
          · have hM := e_in hc hM
            refine lv_ldc (v := -1000000005) hx hb hown (hts _ q_3_48) dX8_power_91 ?_
            obtain rfl := e_so hM
            exact e_iret E J dX8_power_93
        · have hM := e_in hc hM
          refine lv_ldc (v := -1000000005) hx hb hown (hts _ q_3_48) dX8_power_46 ?_
          obtain rfl := e_so hM
          exact e_iret E J dX8_power_48
      · have hM := e_in hc hM
        refine lv_ldc (v := -1000000001) hx hb hown (hts _ q_1_237) dX8_power_22 ?_
        obtain rfl := e_so hM
        exact e_iret E J dX8_power_24
set_option maxRecDepth 100000 in
set_option maxHeartbeats 4000000 in
theorem mX3_holdsToUpright_b2 {p : Program} {l : Launch} {e : Env} {s : State} {m : MethodId} {args : Array Value} {below : List Frame} {meth : Method} {c : Code} {G : e_G} {res : Int32} {k2 : Nat → Int32 → Option Int32} (E : e_M G p s args m meth c cX3_holdsToUpright 2 (some FieldType.int) RX3) (h : e_H) (K2 : ∀ (l0 : Nat) (l1 : Int32), k2 l0 l1 = some res → ∀ (H : Heap) (locs : List Loc), e_J G s h H locs → ∀ (ls : Array Slot), lv_has ls 2 [(0, .ref (e_ad G l0)), (1, .int l1)] → W p l e (e_rm 1 23) s m args below meth c H locs 0 0 (MQ below (e_Q G h (some (.int res))) args s 0 0 (e_A G)) (F0 m 2 ls [])) (l0 : Nat) (l1 : Int32) (hM : fX3_holdsToUpright_b2 h k2 l0 l1 = some res) {H : Heap} {locs : List Loc} (J : e_J G s h H locs) {ls : Array Slot} (hl : lv_has ls 2 [(0, .ref (e_ad G l0)), (1, .int l1)]) : W p l e (e_rm 1 23) s m args below meth c H locs 0 0 (MQ below (e_Q G h (some (.int res))) args s 0 0 (e_A G)) (F0 m 2 ls []) := by
  obtain ⟨hx, hb, hr, hml, hown, hts, hlocks, hES, hbs⟩ := id E
  unfold fX3_holdsToUpright_b2 at hM
  refine lv_iload_n hx hb dX3_holdsToUpright_2 rfl (lv_at hl 1 rfl) ?_
  refine lv_iconst (v := nI 4) hx hb dX3_holdsToUpright_3 (by decide) ?_
  refine lv_icmp_gt (tgt := 26) hx hb dX3_holdsToUpright_4 (by decide) (fun hc => ?_) (fun hc => ?_)
  · have hM := e_ip hc hM
    refine lv_iconst (v := -1) hx hb dX3_holdsToUpright_26 (by decide) ?_
    obtain rfl := e_so hM
    exact e_iret E J dX3_holdsToUpright_27
  · have hM := e_in hc hM
    refine lv_aload_n hx hb dX3_holdsToUpright_7 rfl (lv_at hl 0 rfl) ?_
    refine lv_iconst (v := nI 0) hx hb dX3_holdsToUpright_8 (by decide) ?_
    refine lv_iload_n hx hb dX3_holdsToUpright_9 rfl (lv_at hl 1 rfl) ?_
    obtain ⟨v1, hv, hM⟩ := e_bs hM
    obtain ⟨fs_, hk, -⟩ := e_bs hv
    refine e_callV (ci := 3) (As := [.int (nI 0), .int l1]) (rest := []) (n := 2) E J hk rfl (mX3_number (l := l) (G := G) l0 (nI 0) l1 h _ hv) q_2_184 q_2_185 q_2_186 q_1_5 q_2_187 (by decide +kernel) rfl ⟨Nat.le_of_ble_eq_true rfl, Nat.le_of_ble_eq_true rfl⟩ (st0 := [.int l1, .int (nI 0), .ref (e_ad G l0)]) (st1 := [.long v1]) rfl rfl hl.1 (Nat.le_of_ble_eq_true rfl) dX3_holdsToUpright_10 ⟨Nat.le_refl _, Nat.le_refl _⟩ (fun H locs J => ?_)
    refine lv_lconst (v := 0) hx hb dX3_holdsToUpright_13 (by decide) ?_
    refine W.lcmp hx hb dX3_holdsToUpright_14 ?_
    refine lv_if_eq (tgt := 20) hx hb dX3_holdsToUpright_15 (by decide) (fun hc => ?_) (fun hc => ?_)
    · have hM := e_ip hc hM
      refine lv_iinc (v := (l1 + (nI 1))) (lv' := [(1, .int (l1 + (nI 1))), (0, .ref (e_ad G l0))]) hx hb dX3_holdsToUpright_20 hl (k := 1) rfl rfl (by decide) rfl (fun ls hl => ?_)
      refine lv_goto (tgt := 2) hx hb dX3_holdsToUpright_23 (by decide) ?_
      exact K2 l0 (l1 + (nI 1)) hM _ _ J _ (lv_sub hl [1, 0] rfl)
    · have hM := e_in hc hM
      refine lv_iload_n hx hb dX3_holdsToUpright_18 rfl (lv_at hl 1 rfl) ?_
      obtain rfl := e_so hM
      exact e_iret E J dX3_holdsToUpright_19
set_option maxRecDepth 100000 in
set_option maxHeartbeats 4000000 in
theorem mX3_holdsToUpright_L2 {p : Program} {l : Launch} {e : Env} {s : State} {m : MethodId} {args : Array Value} {below : List Frame} {meth : Method} {c : Code} {G : e_G} {res : Int32} (E : e_M G p s args m meth c cX3_holdsToUpright 2 (some FieldType.int) RX3) (h : e_H) (n : Nat) (l0 : Nat) (l1 : Int32) (hM : fX3_holdsToUpright_L2 h n l0 l1 = some res) {H : Heap} {locs : List Loc} (J : e_J G s h H locs) {ls : Array Slot} (hl : lv_has ls 2 [(0, .ref (e_ad G l0)), (1, .int l1)]) : W p l e (e_rm 1 23) s m args below meth c H locs 0 0 (MQ below (e_Q G h (some (.int res))) args s 0 0 (e_A G)) (F0 m 2 ls []) := by
  induction n generalizing l0 l1 H locs ls with
  | zero => exact e_no hM
  | succ n ih => exact mX3_holdsToUpright_b2 (k2 := (fX3_holdsToUpright_L2 h n)) E h  (fun l0 l1 hM H locs J ls hl => ih l0 l1 hM J hl) l0 l1 hM J hl
set_option maxRecDepth 100000 in
set_option maxHeartbeats 4000000 in
theorem mX3_holdsToUpright {l : Launch} {G : e_G} (l0 : Nat) (h : e_H) (res : Int32) (hM : fX3_holdsToUpright l0 h = some res) : Met l yX3_holdsToUpright (e_W yX3_holdsToUpright cX3_holdsToUpright 2 (some FieldType.int)) (e_rm 1 23) (e_Pc G h [.ref (e_ad G l0)]) (e_Q G h (some (.int res))) 0 0 (e_A G) := by
  refine Met.ofW (cc := cX3_holdsToUpright) (maxL := 2) (ret := (some FieldType.int)) (by decide) rfl ?_
  intro p e s m args below meth c s₁ B hml hv
  obtain ⟨rfl, hS, hP⟩ := hv
  have E := e_enter (own := RX3) (ret := (some FieldType.int)) B hml rfl hS hP
  have J : e_J G s h s.heap [] := ⟨hP, va_S.rf⟩
  have hl := lv_entry ([.ref (e_ad G l0)]) (n := 2) (Nat.le_of_ble_eq_true rfl)
  rw [lg_entry_eq]
  generalize (lg_sl ([.ref (e_ad G l0)]) ++ List.replicate (2 - (lg_sl ([.ref (e_ad G l0)])).length) Slot.unset).toArray = ls at hl ⊢
  have hl : lv_has ls 2 [(0, .ref (e_ad G l0))] := hl
  obtain ⟨hx, hb, hr, hml, hown, hts, hlocks, hES, hbs⟩ := id E
  unfold fX3_holdsToUpright at hM
  obtain ⟨fs_, hk_, hM⟩ := e_bs hM
  refine lv_iconst (v := nI 0) hx hb dX3_holdsToUpright_0 (by decide) ?_
  refine lv_istore_n (lv' := [(1, .int (nI 0)), (0, .ref (e_ad G l0))]) hx hb dX3_holdsToUpright_1 rfl hl (by decide) rfl (fun ls hl => ?_)
  exact mX3_holdsToUpright_L2 E h 200 l0 (nI 0) hM J (lv_sub hl [1, 0] rfl)
set_option maxRecDepth 100000 in
set_option maxHeartbeats 4000000 in
theorem mX3_holdsTo_b2 {p : Program} {l : Launch} {e : Env} {s : State} {m : MethodId} {args : Array Value} {below : List Frame} {meth : Method} {c : Code} {G : e_G} {res : Int32} {k2 : Nat → Int32 → Int32 → Option Int32} (E : e_M G p s args m meth c cX3_holdsTo 3 (some FieldType.int) RX3) (h : e_H) (K2 : ∀ (l0 : Nat) (l1 : Int32) (l2 : Int32), k2 l0 l1 l2 = some res → ∀ (H : Heap) (locs : List Loc), e_J G s h H locs → ∀ (ls : Array Slot), lv_has ls 3 [(0, .ref (e_ad G l0)), (1, .int l1), (2, .int l2)] → W p l e (e_rm 2 48) s m args below meth c H locs 0 0 (MQ below (e_Q G h (some (.int res))) args s 0 0 (e_A G)) (F0 m 2 ls [])) (l0 : Nat) (l1 : Int32) (l2 : Int32) (hM : fX3_holdsTo_b2 h k2 l0 l1 l2 = some res) {H : Heap} {locs : List Loc} (J : e_J G s h H locs) {ls : Array Slot} (hl : lv_has ls 3 [(0, .ref (e_ad G l0)), (1, .int l1), (2, .int l2)]) : W p l e (e_rm 2 48) s m args below meth c H locs 0 0 (MQ below (e_Q G h (some (.int res))) args s 0 0 (e_A G)) (F0 m 2 ls []) := by
  obtain ⟨hx, hb, hr, hml, hown, hts, hlocks, hES, hbs⟩ := id E
  unfold fX3_holdsTo_b2 at hM
  refine lv_iload_n hx hb dX3_holdsTo_2 rfl (lv_at hl 2 rfl) ?_
  refine lv_bipush (v := nI 20) hx hb dX3_holdsTo_3 (by decide) ?_
  refine lv_icmp_gt (tgt := 27) hx hb dX3_holdsTo_5 (by decide) (fun hc => ?_) (fun hc => ?_)
  · have hM := e_ip hc hM
    refine lv_iconst (v := -1) hx hb dX3_holdsTo_27 (by decide) ?_
    obtain rfl := e_so hM
    exact e_iret E J dX3_holdsTo_28
  · have hM := e_in hc hM
    refine lv_aload_n hx hb dX3_holdsTo_8 rfl (lv_at hl 0 rfl) ?_
    refine lv_iload_n hx hb dX3_holdsTo_9 rfl (lv_at hl 2 rfl) ?_
    refine lv_iload_n hx hb dX3_holdsTo_10 rfl (lv_at hl 1 rfl) ?_
    obtain ⟨v1, hv, hM⟩ := e_bs hM
    obtain ⟨fs_, hk, -⟩ := e_bs hv
    refine e_callV (ci := 3) (As := [.int l2, .int l1]) (rest := []) (n := 2) E J hk rfl (mX3_sumOnLine (l := l) (G := G) l0 l2 l1 h _ hv) q_3_80 q_2_226 q_2_227 q_1_5 q_2_228 (by decide +kernel) rfl ⟨Nat.le_of_ble_eq_true rfl, Nat.le_of_ble_eq_true rfl⟩ (st0 := [.int l1, .int l2, .ref (e_ad G l0)]) (st1 := [.long v1]) rfl rfl hl.1 (Nat.le_of_ble_eq_true rfl) dX3_holdsTo_11 ⟨Nat.le_refl _, Nat.le_refl _⟩ (fun H locs J => ?_)
    refine lv_lconst (v := 0) hx hb dX3_holdsTo_14 (by decide) ?_
    refine W.lcmp hx hb dX3_holdsTo_15 ?_
    refine lv_if_eq (tgt := 21) hx hb dX3_holdsTo_16 (by decide) (fun hc => ?_) (fun hc => ?_)
    · have hM := e_ip hc hM
      refine lv_iinc (v := (l2 + (nI 1))) (lv' := [(2, .int (l2 + (nI 1))), (0, .ref (e_ad G l0)), (1, .int l1)]) hx hb dX3_holdsTo_21 hl (k := 2) rfl rfl (by decide) rfl (fun ls hl => ?_)
      refine lv_goto (tgt := 2) hx hb dX3_holdsTo_24 (by decide) ?_
      exact K2 l0 l1 (l2 + (nI 1)) hM _ _ J _ (lv_sub hl [1, 2, 0] rfl)
    · have hM := e_in hc hM
      refine lv_iload_n hx hb dX3_holdsTo_19 rfl (lv_at hl 2 rfl) ?_
      obtain rfl := e_so hM
      exact e_iret E J dX3_holdsTo_20
set_option maxRecDepth 100000 in
set_option maxHeartbeats 4000000 in
theorem mX3_holdsTo_L2 {p : Program} {l : Launch} {e : Env} {s : State} {m : MethodId} {args : Array Value} {below : List Frame} {meth : Method} {c : Code} {G : e_G} {res : Int32} (E : e_M G p s args m meth c cX3_holdsTo 3 (some FieldType.int) RX3) (h : e_H) (n : Nat) (l0 : Nat) (l1 : Int32) (l2 : Int32) (hM : fX3_holdsTo_L2 h n l0 l1 l2 = some res) {H : Heap} {locs : List Loc} (J : e_J G s h H locs) {ls : Array Slot} (hl : lv_has ls 3 [(0, .ref (e_ad G l0)), (1, .int l1), (2, .int l2)]) : W p l e (e_rm 2 48) s m args below meth c H locs 0 0 (MQ below (e_Q G h (some (.int res))) args s 0 0 (e_A G)) (F0 m 2 ls []) := by
  induction n generalizing l0 l1 l2 H locs ls with
  | zero => exact e_no hM
  | succ n ih => exact mX3_holdsTo_b2 (k2 := (fX3_holdsTo_L2 h n)) E h  (fun l0 l1 l2 hM H locs J ls hl => ih l0 l1 l2 hM J hl) l0 l1 l2 hM J hl
set_option maxRecDepth 100000 in
set_option maxHeartbeats 4000000 in
theorem mX3_holdsTo {l : Launch} {G : e_G} (l0 : Nat) (l1 : Int32) (h : e_H) (res : Int32) (hM : fX3_holdsTo l0 l1 h = some res) : Met l yX3_holdsTo (e_W yX3_holdsTo cX3_holdsTo 3 (some FieldType.int)) (e_rm 2 48) (e_Pc G h [.ref (e_ad G l0), .int l1]) (e_Q G h (some (.int res))) 0 0 (e_A G) := by
  refine Met.ofW (cc := cX3_holdsTo) (maxL := 3) (ret := (some FieldType.int)) (by decide) rfl ?_
  intro p e s m args below meth c s₁ B hml hv
  obtain ⟨rfl, hS, hP⟩ := hv
  have E := e_enter (own := RX3) (ret := (some FieldType.int)) B hml rfl hS hP
  have J : e_J G s h s.heap [] := ⟨hP, va_S.rf⟩
  have hl := lv_entry ([.ref (e_ad G l0), .int l1]) (n := 3) (Nat.le_of_ble_eq_true rfl)
  rw [lg_entry_eq]
  generalize (lg_sl ([.ref (e_ad G l0), .int l1]) ++ List.replicate (3 - (lg_sl ([.ref (e_ad G l0), .int l1])).length) Slot.unset).toArray = ls at hl ⊢
  have hl : lv_has ls 3 [(0, .ref (e_ad G l0)), (1, .int l1)] := hl
  obtain ⟨hx, hb, hr, hml, hown, hts, hlocks, hES, hbs⟩ := id E
  unfold fX3_holdsTo at hM
  obtain ⟨fs_, hk_, hM⟩ := e_bs hM
  refine lv_iconst (v := nI 0) hx hb dX3_holdsTo_0 (by decide) ?_
  refine lv_istore_n (lv' := [(2, .int (nI 0)), (0, .ref (e_ad G l0)), (1, .int l1)]) hx hb dX3_holdsTo_1 rfl hl (by decide) rfl (fun ls hl => ?_)
  exact mX3_holdsTo_L2 E h 200 l0 l1 (nI 0) hM J (lv_sub hl [1, 2, 0] rfl)
set_option maxRecDepth 100000 in
set_option maxHeartbeats 4000000 in
theorem mX8_line_b29 {p : Program} {l : Launch} {e : Env} {s : State} {m : MethodId} {args : Array Value} {below : List Frame} {meth : Method} {c : Code} {G : e_G} {res : (Int32 × e_H)} (E : e_M G p s args m meth c cX8_line 5 (some FieldType.int) RX8) (l3 : Int32) (l4 : Nat) (h : e_H) (hM : fX8_line_b29 l3 l4 h = some res) {H : Heap} {locs : List Loc} (J : e_J G s h H locs) {ls : Array Slot} (hl : lv_has ls 5 [(3, .int l3), (4, .ref (e_ad G l4))]) : W p l e (e_rm 6 147) s m args below meth c H locs 0 0 (MQ below (e_Q G res.2 (some (.int res.1))) args s 0 0 (e_A G)) (F0 m 29 ls []) := by
  obtain ⟨hx, hb, hr, hml, hown, hts, hlocks, hES, hbs⟩ := id E
  unfold fX8_line_b29 at hM
  refine lv_iload_n hx hb dX8_line_29 rfl (lv_at hl 0 rfl) ?_
  refine lv_bipush (v := nI 6) hx hb dX8_line_30 (by decide) ?_
  refine lv_icmp_ne (tgt := 43) hx hb dX8_line_32 (by decide) (fun hc => ?_) (fun hc => ?_)
  · have hM := e_in hc hM
    refine lv_aload hx hb dX8_line_43 (lv_at hl 1 rfl) ?_
    refine lv_iload_n hx hb dX8_line_45 rfl (lv_at hl 0 rfl) ?_
    obtain ⟨v2, hv, hM⟩ := e_bs hM
    obtain ⟨fs_, hk, -⟩ := e_bs hv
    refine e_callV (ci := 3) (As := [.int l3]) (rest := []) (n := 1) E J hk rfl (mX3_holdsTo (l := l) (G := G) l4 l3 h _ hv) q_3_76 q_3_77 q_3_78 q_1_5 q_3_79 (by decide +kernel) rfl ⟨Nat.le_of_ble_eq_true rfl, Nat.le_of_ble_eq_true rfl⟩ (st0 := [.int l3, .ref (e_ad G l4)]) (st1 := [.int v2]) rfl rfl hl.1 (Nat.le_of_ble_eq_true rfl) dX8_line_46 ⟨Nat.le_refl _, Nat.le_refl _⟩ (fun H locs J => ?_)
    obtain rfl := e_so hM
    exact e_iret E J dX8_line_49
  · have hM := e_ip hc hM
    refine lv_aload hx hb dX8_line_35 (lv_at hl 1 rfl) ?_
    obtain ⟨v1, hv, hM⟩ := e_bs hM
    obtain ⟨fs_, hk, -⟩ := e_bs hv
    refine e_callV (ci := 3) (As := []) (rest := []) (n := 0) E J hk rfl (mX3_holdsToUpright (l := l) (G := G) l4 h _ hv) q_3_72 q_3_73 q_3_74 q_1_5 q_3_75 (by decide +kernel) rfl ⟨Nat.le_of_ble_eq_true rfl, Nat.le_of_ble_eq_true rfl⟩ (st0 := [.ref (e_ad G l4)]) (st1 := [.int v1]) rfl rfl hl.1 (Nat.le_of_ble_eq_true rfl) dX8_line_37 ⟨Nat.le_refl _, Nat.le_refl _⟩ (fun H locs J => ?_)
    refine lv_goto (tgt := 49) hx hb dX8_line_40 (by decide) ?_
    obtain rfl := e_so hM
    exact e_iret E J dX8_line_49
set_option maxRecDepth 100000 in
set_option maxHeartbeats 4000000 in
theorem mX8_line {l : Launch} {G : e_G} (l0 : Nat) (l1 : Int32) (l2 : Int32) (l3 : Int32) (h : e_H) (res : (Int32 × e_H)) (hM : fX8_line l0 l1 l2 l3 h = some res) : Met l yX8_line (e_W yX8_line cX8_line 5 (some FieldType.int)) (e_rm 6 147) (e_Pc G h [.ref (e_ad G l0), .int l1, .int l2, .int l3]) (e_Q G res.2 (some (.int res.1))) 0 0 (e_A G) := by
  refine Met.ofW (cc := cX8_line) (maxL := 5) (ret := (some FieldType.int)) (by decide) rfl ?_
  intro p e s m args below meth c s₁ B hml hv
  obtain ⟨rfl, hS, hP⟩ := hv
  have E := e_enter (own := RX8) (ret := (some FieldType.int)) B hml rfl hS hP
  have J : e_J G s h s.heap [] := ⟨hP, va_S.rf⟩
  have hl := lv_entry ([.ref (e_ad G l0), .int l1, .int l2, .int l3]) (n := 5) (Nat.le_of_ble_eq_true rfl)
  rw [lg_entry_eq]
  generalize (lg_sl ([.ref (e_ad G l0), .int l1, .int l2, .int l3]) ++ List.replicate (5 - (lg_sl ([.ref (e_ad G l0), .int l1, .int l2, .int l3])).length) Slot.unset).toArray = ls at hl ⊢
  have hl : lv_has ls 5 [(0, .ref (e_ad G l0)), (1, .int l1), (2, .int l2), (3, .int l3)] := hl
  obtain ⟨hx, hb, hr, hml, hown, hts, hlocks, hES, hbs⟩ := id E
  unfold fX8_line at hM
  obtain ⟨fs_, hk_, hM⟩ := e_bs hM
  refine lv_aload_n hx hb dX8_line_0 rfl (lv_at hl 0 rfl) ?_
  refine lv_iload_n hx hb dX8_line_1 rfl (lv_at hl 1 rfl) ?_
  refine lv_iload_n hx hb dX8_line_2 rfl (lv_at hl 2 rfl) ?_
  obtain ⟨p1, hv, hM⟩ := e_bs hM
  obtain ⟨fs_, hk, -⟩ := e_bs hv
  refine e_callV (ci := 8) (As := [.int l1, .int l2]) (rest := []) (n := 2) E J hk rfl (mX8_shapeAt (l := l) (G := G) l0 l1 l2 h _ hv) q_2_161 q_2_163 q_p_2 q_1_1 q_2_164 (by decide +kernel) rfl ⟨Nat.le_of_ble_eq_true rfl, Nat.le_of_ble_eq_true rfl⟩ (st0 := [.int l2, .int l1, .ref (e_ad G l0)]) (st1 := [e_r G p1.1]) rfl rfl hl.1 (Nat.le_of_ble_eq_true rfl) dX8_line_3 ⟨Nat.le_refl _, Nat.le_refl _⟩ (fun H locs J => ?_)
  obtain ⟨r2, hr2⟩ := p1
  rcases r2 with _ | a3
  · have hM := e_on0 hM
    refine W.eq (g2 := F0 m 6 ls [.null]) rfl ?_
    refine lv_astoreN (lv' := [(4, .null), (0, .ref (e_ad G l0)), (1, .int l1), (2, .int l2), (3, .int l3)]) hx hb dX8_line_6 hl (by decide) rfl (fun ls hl => ?_)
    refine lv_aloadN hx hb dX8_line_8 (lv_at hl 0 rfl) ?_
    refine lv_ifnullN (tgt := 26) hx hb dX8_line_10 (by decide) ?_
    refine lv_ldc (v := -1000000001) hx hb hown (hts _ q_1_237) dX8_line_26 ?_
    obtain rfl := e_so hM
    exact e_iret E J dX8_line_28
  · have hM := e_on1 hM
    refine W.eq (g2 := F0 m 6 ls [.ref (e_ad G a3)]) rfl ?_
    refine lv_astore (lv' := [(4, .ref (e_ad G a3)), (0, .ref (e_ad G l0)), (1, .int l1), (2, .int l2), (3, .int l3)]) hx hb dX8_line_6 hl (by decide) rfl (fun ls hl => ?_)
    refine lv_aload hx hb dX8_line_8 (lv_at hl 0 rfl) ?_
    refine lv_ifnull hx hb dX8_line_10 ?_
    refine lv_iload_n hx hb dX8_line_13 rfl (lv_at hl 4 rfl) ?_
    refine lv_bipush (v := nI 6) hx hb dX8_line_14 (by decide) ?_
    refine lv_icmp_eq (tgt := 29) hx hb dX8_line_16 (by decide) (fun hc => ?_) (fun hc => ?_)
    · have hM := e_ip hc hM
      exact mX8_line_b29 E l3 a3 hr2 hM J (lv_sub hl [4, 0] rfl)
    · have hM := e_in hc hM
      refine lv_iload_n hx hb dX8_line_19 rfl (lv_at hl 4 rfl) ?_
      obtain ⟨v4, hv, hM⟩ := e_bs hM
      refine e_callS (As := [.int l3]) (rest := []) (n := 1) E J (mX8_isSlope (l := l) (G := G) l3 hr2 _ hv) q_2_235 q_2_236 q_1_1 q_2_237 (by decide +kernel) rfl ⟨Nat.le_of_ble_eq_true rfl, Nat.le_of_ble_eq_true rfl⟩ (st0 := [.int l3]) (st1 := [.int (e_b v4)]) rfl rfl hl.1 (Nat.le_of_ble_eq_true rfl) dX8_line_20 ⟨Nat.le_refl _, Nat.le_refl _⟩ (fun H locs J => ?_)
      refine lv_if_ne (tgt := 29) hx hb dX8_line_23 (by decide) (fun hc => ?_) (fun hc => ?_)
      · have hM := e_in hc hM
        exact mX8_line_b29 E l3 a3 hr2 hM J (lv_sub hl [4, 0] rfl)
      · have hM := e_ip hc hM
        refine lv_ldc (v := -1000000001) hx hb hown (hts _ q_1_237) dX8_line_26 ?_
        obtain rfl := e_so hM
        exact e_iret E J dX8_line_28
set_option maxRecDepth 100000 in
set_option maxHeartbeats 4000000 in
theorem mX6_walk_b62 {p : Program} {l : Launch} {e : Env} {s : State} {m : MethodId} {args : Array Value} {below : List Frame} {meth : Method} {c : Code} {G : e_G} {res : e_H} {k7 : Nat → Int32 → e_H → Option e_H} (E : e_M G p s args m meth c cX6_walk 5 none RX6) (K7 : ∀ (l0 : Nat) (l2 : Int32) (h : e_H), k7 l0 l2 h = some res → ∀ (H : Heap) (locs : List Loc), e_J G s h H locs → ∀ (ls : Array Slot), lv_has ls 5 [(0, .ref (e_ad G l0)), (2, .int l2)] → W p l e (e_rm 5 124) s m args below meth c H locs 0 0 (MQ below (e_Q G res (none)) args s 0 0 (e_A G)) (F0 m 7 ls [])) (l0 : Nat) (l2 : Int32) (t0 : Int32) (t1 : Int32) (h : e_H) (hM : fX6_walk_b62 k7 l0 l2 t0 t1 h = some res) {H : Heap} {locs : List Loc} (J : e_J G s h H locs) {ls : Array Slot} (hl : lv_has ls 5 [(0, .ref (e_ad G l0)), (2, .int l2)]) : W p l e (e_rm 5 124) s m args below meth c H locs 0 0 (MQ below (e_Q G res (none)) args s 0 0 (e_A G)) (F0 m 62 ls [.int t0, .int t1, .null]) := by
  obtain ⟨hx, hb, hr, hml, hown, hts, hlocks, hES, hbs⟩ := id E
  unfold fX6_walk_b62 at hM
  exact e_no hM
set_option maxRecDepth 100000 in
set_option maxHeartbeats 4000000 in
theorem mX6_walk_b62x1 {p : Program} {l : Launch} {e : Env} {s : State} {m : MethodId} {args : Array Value} {below : List Frame} {meth : Method} {c : Code} {G : e_G} {res : e_H} {k7 : Nat → Int32 → e_H → Option e_H} (E : e_M G p s args m meth c cX6_walk 5 none RX6) (K7 : ∀ (l0 : Nat) (l2 : Int32) (h : e_H), k7 l0 l2 h = some res → ∀ (H : Heap) (locs : List Loc), e_J G s h H locs → ∀ (ls : Array Slot), lv_has ls 5 [(0, .ref (e_ad G l0)), (2, .int l2)] → W p l e (e_rm 5 124) s m args below meth c H locs 0 0 (MQ below (e_Q G res (none)) args s 0 0 (e_A G)) (F0 m 7 ls [])) (l0 : Nat) (l2 : Int32) (t0 : Int32) (t1 : Int32) (t2 : Nat) (h : e_H) (hM : fX6_walk_b62x1 k7 l0 l2 t0 t1 t2 h = some res) {H : Heap} {locs : List Loc} (J : e_J G s h H locs) {ls : Array Slot} (hl : lv_has ls 5 [(0, .ref (e_ad G l0)), (2, .int l2)]) : W p l e (e_rm 5 124) s m args below meth c H locs 0 0 (MQ below (e_Q G res (none)) args s 0 0 (e_A G)) (F0 m 62 ls [.int t0, .int t1, .ref (e_ad G t2)]) := by
  obtain ⟨hx, hb, hr, hml, hown, hts, hlocks, hES, hbs⟩ := id E
  unfold fX6_walk_b62x1 at hM
  obtain ⟨h1, hv, hM⟩ := e_bs hM
  refine e_iast E J hv dX6_walk_62 (fun H locs J => ?_)
  refine lv_iinc (v := (l2 + (nI 1))) (lv' := [(2, .int (l2 + (nI 1))), (0, .ref (e_ad G l0))]) hx hb dX6_walk_63 hl (k := 1) rfl rfl (by decide) rfl (fun ls hl => ?_)
  refine lv_goto (tgt := 7) hx hb dX6_walk_66 (by decide) ?_
  exact K7 l0 (l2 + (nI 1)) h1 hM _ _ J _ (lv_sub hl [1, 0] rfl)
set_option maxRecDepth 100000 in
set_option maxHeartbeats 4000000 in
theorem mX6_walk_b7 {p : Program} {l : Launch} {e : Env} {s : State} {m : MethodId} {args : Array Value} {below : List Frame} {meth : Method} {c : Code} {G : e_G} {res : e_H} {k7 : Nat → Int32 → e_H → Option e_H} (E : e_M G p s args m meth c cX6_walk 5 none RX6) (K7 : ∀ (l0 : Nat) (l2 : Int32) (h : e_H), k7 l0 l2 h = some res → ∀ (H : Heap) (locs : List Loc), e_J G s h H locs → ∀ (ls : Array Slot), lv_has ls 5 [(0, .ref (e_ad G l0)), (2, .int l2)] → W p l e (e_rm 5 124) s m args below meth c H locs 0 0 (MQ below (e_Q G res (none)) args s 0 0 (e_A G)) (F0 m 7 ls [])) (l0 : Nat) (l2 : Int32) (h : e_H) (hM : fX6_walk_b7 k7 l0 l2 h = some res) {H : Heap} {locs : List Loc} (J : e_J G s h H locs) {ls : Array Slot} (hl : lv_has ls 5 [(0, .ref (e_ad G l0)), (2, .int l2)]) : W p l e (e_rm 5 124) s m args below meth c H locs 0 0 (MQ below (e_Q G res (none)) args s 0 0 (e_A G)) (F0 m 7 ls []) := by
  obtain ⟨hx, hb, hr, hml, hown, hts, hlocks, hES, hbs⟩ := id E
  unfold fX6_walk_b7 at hM
  refine lv_iload_n hx hb dX6_walk_7 rfl (lv_at hl 1 rfl) ?_
  refine lv_aload_n hx hb dX6_walk_8 rfl (lv_at hl 0 rfl) ?_
  obtain ⟨v1, hv, hM⟩ := e_bs hM
  refine e_getR (C := RX6) (T := TX6) (N := 9) E J hv rfl inX6 (by decide) q_1_99 dX6_walk_9 ?_
  rcases v1 with _ | a2
  · have hM := e_on0 hM
    refine W.eq (g2 := F0 m 12 ls [.null, .int l2]) rfl ?_
    exact e_no hM
  · have hM := e_on1 hM
    refine W.eq (g2 := F0 m 12 ls [.ref (e_ad G a2), .int l2]) rfl ?_
    obtain ⟨v3, hv, hM⟩ := e_bs hM
    refine e_alen E J hv rfl rfl dX6_walk_12 ?_
    refine lv_icmp_ge (tgt := 69) hx hb dX6_walk_13 (by decide) (fun hc => ?_) (fun hc => ?_)
    · have hM := e_ip hc hM
      obtain rfl := e_so hM
      exact e_vret E J dX6_walk_69
    · have hM := e_in hc hM
      refine lv_iload_n hx hb dX6_walk_16 rfl (lv_at hl 1 rfl) ?_
      refine lv_bipush (v := nI 11) hx hb dX6_walk_17 (by decide) ?_
      refine lv_idiv hx hb dX6_walk_19 (by decide) ?_
      refine lv_iconst (v := nI 5) hx hb dX6_walk_20 (by decide) ?_
      refine lv_isub hx hb dX6_walk_21 ?_
      refine lv_istore_n (lv' := [(3, .int ((l2 / (nI 11)) - (nI 5))), (0, .ref (e_ad G l0)), (2, .int l2)]) hx hb dX6_walk_22 rfl hl (by decide) rfl (fun ls hl => ?_)
      refine lv_iload_n hx hb dX6_walk_23 rfl (lv_at hl 2 rfl) ?_
      refine lv_bipush (v := nI 11) hx hb dX6_walk_24 (by decide) ?_
      refine lv_irem hx hb dX6_walk_26 (by decide) ?_
      refine lv_iconst (v := nI 5) hx hb dX6_walk_27 (by decide) ?_
      refine lv_isub hx hb dX6_walk_28 ?_
      refine lv_istore (lv' := [(4, .int ((l2 - l2 / (nI 11) * (nI 11)) - (nI 5))), (3, .int ((l2 / (nI 11)) - (nI 5))), (0, .ref (e_ad G l0)), (2, .int l2)]) hx hb dX6_walk_29 hl (by decide) rfl (fun ls hl => ?_)
      refine lv_aload_n hx hb dX6_walk_31 rfl (lv_at hl 2 rfl) ?_
      obtain ⟨v4, hv, hM⟩ := e_bs hM
      refine e_getR (C := RX6) (T := TX6) (N := 9) E J hv rfl inX6 (by decide) q_1_99 dX6_walk_32 ?_
      rcases v4 with _ | a5
      · have hM := e_on0 hM
        refine W.eq (g2 := F0 m 35 ls [.null]) rfl ?_
        refine lv_iload_n hx hb dX6_walk_35 rfl (lv_at hl 3 rfl) ?_
        refine lv_aload_n hx hb dX6_walk_36 rfl (lv_at hl 2 rfl) ?_
        refine lv_iload_n hx hb dX6_walk_37 rfl (lv_at hl 1 rfl) ?_
        refine lv_iload hx hb dX6_walk_38 (lv_at hl 0 rfl) ?_
        obtain ⟨v6, hv, hM⟩ := e_bs hM
        obtain ⟨fs_, hk, -⟩ := e_bs hv
        refine e_callV (ci := 6) (As := [.int ((l2 / (nI 11)) - (nI 5)), .int ((l2 - l2 / (nI 11) * (nI 11)) - (nI 5))]) (rest := [.int l2, .null]) (n := 2) E J hk rfl (mX6_valueAt (l := l) (G := G) l0 ((l2 / (nI 11)) - (nI 5)) ((l2 - l2 / (nI 11) * (nI 11)) - (nI 5)) h _ hv) q_3_90 q_2_154 q_2_155 q_1_4 q_2_156 (by decide +kernel) rfl ⟨Nat.le_of_ble_eq_true rfl, Nat.le_of_ble_eq_true rfl⟩ (st0 := [.int ((l2 - l2 / (nI 11) * (nI 11)) - (nI 5)), .int ((l2 / (nI 11)) - (nI 5)), .ref (e_ad G l0), .int l2, .null]) (st1 := [.long v6, .int l2, .null]) rfl rfl hl.1 (Nat.le_of_ble_eq_true rfl) dX6_walk_40 ⟨Nat.le_refl _, Nat.le_refl _⟩ (fun H locs J => ?_)
        refine lv_lconst (v := 0) hx hb dX6_walk_43 (by decide) ?_
        refine W.lcmp hx hb dX6_walk_44 ?_
        refine lv_if_eq (tgt := 52) hx hb dX6_walk_45 (by decide) (fun hc => ?_) (fun hc => ?_)
        · have hM := e_ip hc hM
          refine lv_aload_n hx hb dX6_walk_52 rfl (lv_at hl 2 rfl) ?_
          refine lv_iload_n hx hb dX6_walk_53 rfl (lv_at hl 1 rfl) ?_
          refine lv_iload hx hb dX6_walk_54 (lv_at hl 0 rfl) ?_
          obtain ⟨p7, hv, hM⟩ := e_bs hM
          obtain ⟨fs_, hk, -⟩ := e_bs hv
          refine e_callV (ci := 6) (As := [.int ((l2 / (nI 11)) - (nI 5)), .int ((l2 - l2 / (nI 11) * (nI 11)) - (nI 5))]) (rest := [.int l2, .null]) (n := 2) E J hk rfl (mX6_stand (l := l) (G := G) l0 ((l2 / (nI 11)) - (nI 5)) ((l2 - l2 / (nI 11) * (nI 11)) - (nI 5)) h _ hv) q_3_91 q_2_166 q_2_167 q_1_4 q_2_168 (by decide +kernel) rfl ⟨Nat.le_of_ble_eq_true rfl, Nat.le_of_ble_eq_true rfl⟩ (st0 := [.int ((l2 - l2 / (nI 11) * (nI 11)) - (nI 5)), .int ((l2 / (nI 11)) - (nI 5)), .ref (e_ad G l0), .int l2, .null]) (st1 := [e_r G p7.1, .int l2, .null]) rfl rfl hl.1 (Nat.le_of_ble_eq_true rfl) dX6_walk_56 ⟨Nat.le_refl _, Nat.le_refl _⟩ (fun H locs J => ?_)
          obtain ⟨r8, hr8⟩ := p7
          rcases r8 with _ | a9
          · have hM := e_on0 hM
            refine W.eq (g2 := F0 m 59 ls [.null, .int l2, .null]) rfl ?_
            exact e_no hM
          · have hM := e_on1 hM
            refine W.eq (g2 := F0 m 59 ls [.ref (e_ad G a9), .int l2, .null]) rfl ?_
            obtain ⟨v10, hv, hM⟩ := e_bs hM
            obtain ⟨fs_, hk, -⟩ := e_bs hv
            refine e_callV (ci := 3) (As := []) (rest := [.int l2, .null]) (n := 0) E J hk rfl (mX3_least (l := l) (G := G) a9 hr8 _ hv) q_3_15 q_2_194 q_2_195 q_1_5 q_2_196 (by decide +kernel) rfl ⟨Nat.le_of_ble_eq_true rfl, Nat.le_of_ble_eq_true rfl⟩ (st0 := [.ref (e_ad G a9), .int l2, .null]) (st1 := [.int v10, .int l2, .null]) rfl rfl hl.1 (Nat.le_of_ble_eq_true rfl) dX6_walk_59 ⟨Nat.le_refl _, Nat.le_refl _⟩ (fun H locs J => ?_)
            exact mX6_walk_b62 E K7 l0 l2 v10 l2 hr8 hM J (lv_sub hl [2, 3] rfl)
        · have hM := e_in hc hM
          refine lv_iconst (v := nI 0) hx hb dX6_walk_48 (by decide) ?_
          refine lv_goto (tgt := 62) hx hb dX6_walk_49 (by decide) ?_
          exact mX6_walk_b62 E K7 l0 l2 (nI 0) l2 h hM J (lv_sub hl [2, 3] rfl)
      · have hM := e_on1 hM
        refine W.eq (g2 := F0 m 35 ls [.ref (e_ad G a5)]) rfl ?_
        refine lv_iload_n hx hb dX6_walk_35 rfl (lv_at hl 3 rfl) ?_
        refine lv_aload_n hx hb dX6_walk_36 rfl (lv_at hl 2 rfl) ?_
        refine lv_iload_n hx hb dX6_walk_37 rfl (lv_at hl 1 rfl) ?_
        refine lv_iload hx hb dX6_walk_38 (lv_at hl 0 rfl) ?_
        obtain ⟨v11, hv, hM⟩ := e_bs hM
        obtain ⟨fs_, hk, -⟩ := e_bs hv
        refine e_callV (ci := 6) (As := [.int ((l2 / (nI 11)) - (nI 5)), .int ((l2 - l2 / (nI 11) * (nI 11)) - (nI 5))]) (rest := [.int l2, .ref (e_ad G a5)]) (n := 2) E J hk rfl (mX6_valueAt (l := l) (G := G) l0 ((l2 / (nI 11)) - (nI 5)) ((l2 - l2 / (nI 11) * (nI 11)) - (nI 5)) h _ hv) q_3_90 q_2_154 q_2_155 q_1_4 q_2_156 (by decide +kernel) rfl ⟨Nat.le_of_ble_eq_true rfl, Nat.le_of_ble_eq_true rfl⟩ (st0 := [.int ((l2 - l2 / (nI 11) * (nI 11)) - (nI 5)), .int ((l2 / (nI 11)) - (nI 5)), .ref (e_ad G l0), .int l2, .ref (e_ad G a5)]) (st1 := [.long v11, .int l2, .ref (e_ad G a5)]) rfl rfl hl.1 (Nat.le_of_ble_eq_true rfl) dX6_walk_40 ⟨Nat.le_refl _, Nat.le_refl _⟩ (fun H locs J => ?_)
        refine lv_lconst (v := 0) hx hb dX6_walk_43 (by decide) ?_
        refine W.lcmp hx hb dX6_walk_44 ?_
        refine lv_if_eq (tgt := 52) hx hb dX6_walk_45 (by decide) (fun hc => ?_) (fun hc => ?_)
        · have hM := e_ip hc hM
          refine lv_aload_n hx hb dX6_walk_52 rfl (lv_at hl 2 rfl) ?_
          refine lv_iload_n hx hb dX6_walk_53 rfl (lv_at hl 1 rfl) ?_
          refine lv_iload hx hb dX6_walk_54 (lv_at hl 0 rfl) ?_
          obtain ⟨p12, hv, hM⟩ := e_bs hM
          obtain ⟨fs_, hk, -⟩ := e_bs hv
          refine e_callV (ci := 6) (As := [.int ((l2 / (nI 11)) - (nI 5)), .int ((l2 - l2 / (nI 11) * (nI 11)) - (nI 5))]) (rest := [.int l2, .ref (e_ad G a5)]) (n := 2) E J hk rfl (mX6_stand (l := l) (G := G) l0 ((l2 / (nI 11)) - (nI 5)) ((l2 - l2 / (nI 11) * (nI 11)) - (nI 5)) h _ hv) q_3_91 q_2_166 q_2_167 q_1_4 q_2_168 (by decide +kernel) rfl ⟨Nat.le_of_ble_eq_true rfl, Nat.le_of_ble_eq_true rfl⟩ (st0 := [.int ((l2 - l2 / (nI 11) * (nI 11)) - (nI 5)), .int ((l2 / (nI 11)) - (nI 5)), .ref (e_ad G l0), .int l2, .ref (e_ad G a5)]) (st1 := [e_r G p12.1, .int l2, .ref (e_ad G a5)]) rfl rfl hl.1 (Nat.le_of_ble_eq_true rfl) dX6_walk_56 ⟨Nat.le_refl _, Nat.le_refl _⟩ (fun H locs J => ?_)
          obtain ⟨r13, hr13⟩ := p12
          rcases r13 with _ | a14
          · have hM := e_on0 hM
            refine W.eq (g2 := F0 m 59 ls [.null, .int l2, .ref (e_ad G a5)]) rfl ?_
            exact e_no hM
          · have hM := e_on1 hM
            refine W.eq (g2 := F0 m 59 ls [.ref (e_ad G a14), .int l2, .ref (e_ad G a5)]) rfl ?_
            obtain ⟨v15, hv, hM⟩ := e_bs hM
            obtain ⟨fs_, hk, -⟩ := e_bs hv
            refine e_callV (ci := 3) (As := []) (rest := [.int l2, .ref (e_ad G a5)]) (n := 0) E J hk rfl (mX3_least (l := l) (G := G) a14 hr13 _ hv) q_3_15 q_2_194 q_2_195 q_1_5 q_2_196 (by decide +kernel) rfl ⟨Nat.le_of_ble_eq_true rfl, Nat.le_of_ble_eq_true rfl⟩ (st0 := [.ref (e_ad G a14), .int l2, .ref (e_ad G a5)]) (st1 := [.int v15, .int l2, .ref (e_ad G a5)]) rfl rfl hl.1 (Nat.le_of_ble_eq_true rfl) dX6_walk_59 ⟨Nat.le_refl _, Nat.le_refl _⟩ (fun H locs J => ?_)
            exact mX6_walk_b62x1 E K7 l0 l2 v15 l2 a5 hr13 hM J (lv_sub hl [2, 3] rfl)
        · have hM := e_in hc hM
          refine lv_iconst (v := nI 0) hx hb dX6_walk_48 (by decide) ?_
          refine lv_goto (tgt := 62) hx hb dX6_walk_49 (by decide) ?_
          exact mX6_walk_b62x1 E K7 l0 l2 (nI 0) l2 a5 h hM J (lv_sub hl [2, 3] rfl)
set_option maxRecDepth 100000 in
set_option maxHeartbeats 4000000 in
theorem mX6_walk_L7 {p : Program} {l : Launch} {e : Env} {s : State} {m : MethodId} {args : Array Value} {below : List Frame} {meth : Method} {c : Code} {G : e_G} {res : e_H} (E : e_M G p s args m meth c cX6_walk 5 none RX6) (n : Nat) (l0 : Nat) (l2 : Int32) (h : e_H) (hM : fX6_walk_L7 n l0 l2 h = some res) {H : Heap} {locs : List Loc} (J : e_J G s h H locs) {ls : Array Slot} (hl : lv_has ls 5 [(0, .ref (e_ad G l0)), (2, .int l2)]) : W p l e (e_rm 5 124) s m args below meth c H locs 0 0 (MQ below (e_Q G res (none)) args s 0 0 (e_A G)) (F0 m 7 ls []) := by
  induction n generalizing l0 l2 h H locs ls with
  | zero => exact e_no hM
  | succ n ih => exact mX6_walk_b7 (k7 := (fX6_walk_L7 n)) E   (fun l0 l2 h hM H locs J ls hl => ih l0 l2 h hM J hl) l0 l2 h hM J hl
set_option maxRecDepth 100000 in
set_option maxHeartbeats 4000000 in
theorem mX6_walk {l : Launch} {G : e_G} (l0 : Nat) (l1 : Nat) (h : e_H) (res : e_H) (hM : fX6_walk l0 l1 h = some res) : Met l yX6_walk (e_W yX6_walk cX6_walk 5 none) (e_rm 5 124) (e_Pc G h [.ref (e_ad G l0), .ref (e_ad G l1)]) (e_Q G res (none)) 0 0 (e_A G) := by
  refine Met.ofW (cc := cX6_walk) (maxL := 5) (ret := none) (by decide) rfl ?_
  intro p e s m args below meth c s₁ B hml hv
  obtain ⟨rfl, hS, hP⟩ := hv
  have E := e_enter (own := RX6) (ret := none) B hml rfl hS hP
  have J : e_J G s h s.heap [] := ⟨hP, va_S.rf⟩
  have hl := lv_entry ([.ref (e_ad G l0), .ref (e_ad G l1)]) (n := 5) (Nat.le_of_ble_eq_true rfl)
  rw [lg_entry_eq]
  generalize (lg_sl ([.ref (e_ad G l0), .ref (e_ad G l1)]) ++ List.replicate (5 - (lg_sl ([.ref (e_ad G l0), .ref (e_ad G l1)])).length) Slot.unset).toArray = ls at hl ⊢
  have hl : lv_has ls 5 [(0, .ref (e_ad G l0)), (1, .ref (e_ad G l1))] := hl
  obtain ⟨hx, hb, hr, hml, hown, hts, hlocks, hES, hbs⟩ := id E
  unfold fX6_walk at hM
  obtain ⟨fs_, hk_, hM⟩ := e_bs hM
  refine lv_aload_n hx hb dX6_walk_0 rfl (lv_at hl 0 rfl) ?_
  refine lv_aload_n hx hb dX6_walk_1 rfl (lv_at hl 1 rfl) ?_
  obtain ⟨h1, hv, hM⟩ := e_bs hM
  obtain ⟨fs_, hk, -⟩ := e_bs hv
  refine e_callV (ci := 6) (As := [.ref (e_ad G l1)]) (rest := []) (n := 1) E J hk rfl (mX6_look (l := l) (G := G) l0 l1 h _ hv) q_3_89 q_2_95 q_2_96 q_1_4 q_2_97 (by decide +kernel) rfl ⟨Nat.le_of_ble_eq_true rfl, Nat.le_of_ble_eq_true rfl⟩ (st0 := [.ref (e_ad G l1), .ref (e_ad G l0)]) (st1 := []) rfl rfl hl.1 (Nat.le_of_ble_eq_true rfl) dX6_walk_2 ⟨Nat.le_refl _, Nat.le_refl _⟩ (fun H locs J => ?_)
  refine lv_iconst (v := nI 0) hx hb dX6_walk_5 (by decide) ?_
  refine lv_istore_n (lv' := [(2, .int (nI 0)), (0, .ref (e_ad G l0)), (1, .ref (e_ad G l1))]) hx hb dX6_walk_6 rfl hl (by decide) rfl (fun ls hl => ?_)
  exact mX6_walk_L7 E 200 l0 (nI 0) h1 hM J (lv_sub hl [1, 0] rfl)
set_option maxRecDepth 100000 in
set_option maxHeartbeats 4000000 in
theorem mX6_sumOfMarks_b67 {p : Program} {l : Launch} {e : Env} {s : State} {m : MethodId} {args : Array Value} {below : List Frame} {meth : Method} {c : Code} {G : e_G} {res : (Int32 × e_H)} {k4 : Nat → Int32 → Int32 → e_H → Option (Int32 × e_H)} (E : e_M G p s args m meth c cX6_sumOfMarks 5 (some FieldType.int) RX6) (K4 : ∀ (l0 : Nat) (l1 : Int32) (l2 : Int32) (h : e_H), k4 l0 l1 l2 h = some res → ∀ (H : Heap) (locs : List Loc), e_J G s h H locs → ∀ (ls : Array Slot), lv_has ls 5 [(0, .ref (e_ad G l0)), (1, .int l1), (2, .int l2)] → W p l e (e_rm 3 75) s m args below meth c H locs 0 0 (MQ below (e_Q G res.2 (some (.int res.1))) args s 0 0 (e_A G)) (F0 m 4 ls [])) (l0 : Nat) (l1 : Int32) (l2 : Int32) (h : e_H) (hM : fX6_sumOfMarks_b67 k4 l0 l1 l2 h = some res) {H : Heap} {locs : List Loc} (J : e_J G s h H locs) {ls : Array Slot} (hl : lv_has ls 5 [(0, .ref (e_ad G l0)), (1, .int l1), (2, .int l2)]) : W p l e (e_rm 3 75) s m args below meth c H locs 0 0 (MQ below (e_Q G res.2 (some (.int res.1))) args s 0 0 (e_A G)) (F0 m 67 ls []) := by
  obtain ⟨hx, hb, hr, hml, hown, hts, hlocks, hES, hbs⟩ := id E
  unfold fX6_sumOfMarks_b67 at hM
  refine lv_iinc (v := (l2 + (nI 1))) (lv' := [(2, .int (l2 + (nI 1))), (0, .ref (e_ad G l0)), (1, .int l1)]) hx hb dX6_sumOfMarks_67 hl (k := 2) rfl rfl (by decide) rfl (fun ls hl => ?_)
  refine lv_goto (tgt := 4) hx hb dX6_sumOfMarks_70 (by decide) ?_
  exact K4 l0 l1 (l2 + (nI 1)) h hM _ _ J _ (lv_sub hl [1, 2, 0] rfl)
set_option maxRecDepth 100000 in
set_option maxHeartbeats 4000000 in
theorem mX6_sumOfMarks_b4 {p : Program} {l : Launch} {e : Env} {s : State} {m : MethodId} {args : Array Value} {below : List Frame} {meth : Method} {c : Code} {G : e_G} {res : (Int32 × e_H)} {k4 : Nat → Int32 → Int32 → e_H → Option (Int32 × e_H)} (E : e_M G p s args m meth c cX6_sumOfMarks 5 (some FieldType.int) RX6) (K4 : ∀ (l0 : Nat) (l1 : Int32) (l2 : Int32) (h : e_H), k4 l0 l1 l2 h = some res → ∀ (H : Heap) (locs : List Loc), e_J G s h H locs → ∀ (ls : Array Slot), lv_has ls 5 [(0, .ref (e_ad G l0)), (1, .int l1), (2, .int l2)] → W p l e (e_rm 3 75) s m args below meth c H locs 0 0 (MQ below (e_Q G res.2 (some (.int res.1))) args s 0 0 (e_A G)) (F0 m 4 ls [])) (l0 : Nat) (l1 : Int32) (l2 : Int32) (h : e_H) (hM : fX6_sumOfMarks_b4 k4 l0 l1 l2 h = some res) {H : Heap} {locs : List Loc} (J : e_J G s h H locs) {ls : Array Slot} (hl : lv_has ls 5 [(0, .ref (e_ad G l0)), (1, .int l1), (2, .int l2)]) : W p l e (e_rm 3 75) s m args below meth c H locs 0 0 (MQ below (e_Q G res.2 (some (.int res.1))) args s 0 0 (e_A G)) (F0 m 4 ls []) := by
  obtain ⟨hx, hb, hr, hml, hown, hts, hlocks, hES, hbs⟩ := id E
  unfold fX6_sumOfMarks_b4 at hM
  refine lv_iload_n hx hb dX6_sumOfMarks_4 rfl (lv_at hl 2 rfl) ?_
  refine lv_aload_n hx hb dX6_sumOfMarks_5 rfl (lv_at hl 0 rfl) ?_
  obtain ⟨v1, hv, hM⟩ := e_bs hM
  refine e_getR (C := RX6) (T := TX6) (N := 9) E J hv rfl inX6 (by decide) q_1_99 dX6_sumOfMarks_6 ?_
  rcases v1 with _ | a2
  · have hM := e_on0 hM
    refine W.eq (g2 := F0 m 9 ls [.null, .int l2]) rfl ?_
    exact e_no hM
  · have hM := e_on1 hM
    refine W.eq (g2 := F0 m 9 ls [.ref (e_ad G a2), .int l2]) rfl ?_
    obtain ⟨v3, hv, hM⟩ := e_bs hM
    refine e_alen E J hv rfl rfl dX6_sumOfMarks_9 ?_
    refine lv_icmp_ge (tgt := 73) hx hb dX6_sumOfMarks_10 (by decide) (fun hc => ?_) (fun hc => ?_)
    · have hM := e_ip hc hM
      refine lv_iload_n hx hb dX6_sumOfMarks_73 rfl (lv_at hl 1 rfl) ?_
      obtain rfl := e_so hM
      exact e_iret E J dX6_sumOfMarks_74
    · have hM := e_in hc hM
      refine lv_aload_n hx hb dX6_sumOfMarks_13 rfl (lv_at hl 0 rfl) ?_
      obtain ⟨v4, hv, hM⟩ := e_bs hM
      refine e_getR (C := RX6) (T := TX6) (N := 9) E J hv rfl inX6 (by decide) q_1_99 dX6_sumOfMarks_14 ?_
      rcases v4 with _ | a5
      · have hM := e_on0 hM
        refine W.eq (g2 := F0 m 17 ls [.null]) rfl ?_
        refine lv_iload_n hx hb dX6_sumOfMarks_17 rfl (lv_at hl 2 rfl) ?_
        exact e_no hM
      · have hM := e_on1 hM
        refine W.eq (g2 := F0 m 17 ls [.ref (e_ad G a5)]) rfl ?_
        refine lv_iload_n hx hb dX6_sumOfMarks_17 rfl (lv_at hl 2 rfl) ?_
        obtain ⟨v6, hv, hM⟩ := e_bs hM
        refine e_iald E J hv dX6_sumOfMarks_18 ?_
        refine lv_iconst (v := nI 1) hx hb dX6_sumOfMarks_19 (by decide) ?_
        refine lv_icmp_lt (tgt := 67) hx hb dX6_sumOfMarks_20 (by decide) (fun hc => ?_) (fun hc => ?_)
        · have hM := e_ip hc hM
          exact mX6_sumOfMarks_b67 E K4 l0 l1 l2 h hM J (lv_sub hl [0, 1, 2] rfl)
        · have hM := e_in hc hM
          refine lv_iload_n hx hb dX6_sumOfMarks_23 rfl (lv_at hl 2 rfl) ?_
          refine lv_bipush (v := nI 11) hx hb dX6_sumOfMarks_24 (by decide) ?_
          refine lv_idiv hx hb dX6_sumOfMarks_26 (by decide) ?_
          refine lv_iconst (v := nI 5) hx hb dX6_sumOfMarks_27 (by decide) ?_
          refine lv_isub hx hb dX6_sumOfMarks_28 ?_
          refine lv_istore_n (lv' := [(3, .int ((l2 / (nI 11)) - (nI 5))), (0, .ref (e_ad G l0)), (1, .int l1), (2, .int l2)]) hx hb dX6_sumOfMarks_29 rfl hl (by decide) rfl (fun ls hl => ?_)
          refine lv_iload_n hx hb dX6_sumOfMarks_30 rfl (lv_at hl 3 rfl) ?_
          refine lv_bipush (v := nI 11) hx hb dX6_sumOfMarks_31 (by decide) ?_
          refine lv_irem hx hb dX6_sumOfMarks_33 (by decide) ?_
          refine lv_iconst (v := nI 5) hx hb dX6_sumOfMarks_34 (by decide) ?_
          refine lv_isub hx hb dX6_sumOfMarks_35 ?_
          refine lv_istore (lv' := [(4, .int ((l2 - l2 / (nI 11) * (nI 11)) - (nI 5))), (3, .int ((l2 / (nI 11)) - (nI 5))), (0, .ref (e_ad G l0)), (1, .int l1), (2, .int l2)]) hx hb dX6_sumOfMarks_36 hl (by decide) rfl (fun ls hl => ?_)
          refine lv_iload_n hx hb dX6_sumOfMarks_38 rfl (lv_at hl 3 rfl) ?_
          refine lv_aload_n hx hb dX6_sumOfMarks_39 rfl (lv_at hl 2 rfl) ?_
          obtain ⟨v7, hv, hM⟩ := e_bs hM
          refine e_getR (C := RX6) (T := TX6) (N := 9) E J hv rfl inX6 (by decide) q_1_97 dX6_sumOfMarks_40 ?_
          rcases v7 with _ | a8
          · have hM := e_on0 hM
            refine W.eq (g2 := F0 m 43 ls [.null, .int l1]) rfl ?_
            refine lv_iconst (v := nI 2) hx hb dX6_sumOfMarks_43 (by decide) ?_
            refine lv_iload_n hx hb dX6_sumOfMarks_44 rfl (lv_at hl 1 rfl) ?_
            refine lv_iload hx hb dX6_sumOfMarks_45 (lv_at hl 0 rfl) ?_
            refine lv_aload_n hx hb dX6_sumOfMarks_47 rfl (lv_at hl 2 rfl) ?_
            obtain ⟨v9, hv, hM⟩ := e_bs hM
            refine e_getR (C := RX6) (T := TX6) (N := 9) E J hv rfl inX6 (by decide) q_1_99 dX6_sumOfMarks_48 ?_
            rcases v9 with _ | a10
            · have hM := e_on0 hM
              refine W.eq (g2 := F0 m 51 ls [.null, .int ((l2 - l2 / (nI 11) * (nI 11)) - (nI 5)), .int ((l2 / (nI 11)) - (nI 5)), .int (nI 2), .null, .int l1]) rfl ?_
              refine lv_iload_n hx hb dX6_sumOfMarks_51 rfl (lv_at hl 4 rfl) ?_
              exact e_no hM
            · have hM := e_on1 hM
              refine W.eq (g2 := F0 m 51 ls [.ref (e_ad G a10), .int ((l2 - l2 / (nI 11) * (nI 11)) - (nI 5)), .int ((l2 / (nI 11)) - (nI 5)), .int (nI 2), .null, .int l1]) rfl ?_
              refine lv_iload_n hx hb dX6_sumOfMarks_51 rfl (lv_at hl 4 rfl) ?_
              obtain ⟨v11, hv, hM⟩ := e_bs hM
              refine e_iald E J hv dX6_sumOfMarks_52 ?_
              refine lv_aload_n hx hb dX6_sumOfMarks_53 rfl (lv_at hl 2 rfl) ?_
              obtain ⟨v12, hv, hM⟩ := e_bs hM
              refine e_getR (C := RX6) (T := TX6) (N := 9) E J hv rfl inX6 (by decide) q_1_99 dX6_sumOfMarks_54 ?_
              rcases v12 with _ | a13
              · have hM := e_on0 hM
                refine W.eq (g2 := F0 m 57 ls [.null, .int v11, .int ((l2 - l2 / (nI 11) * (nI 11)) - (nI 5)), .int ((l2 / (nI 11)) - (nI 5)), .int (nI 2), .null, .int l1]) rfl ?_
                refine lv_iload_n hx hb dX6_sumOfMarks_57 rfl (lv_at hl 4 rfl) ?_
                exact e_no hM
              · have hM := e_on1 hM
                refine W.eq (g2 := F0 m 57 ls [.ref (e_ad G a13), .int v11, .int ((l2 - l2 / (nI 11) * (nI 11)) - (nI 5)), .int ((l2 / (nI 11)) - (nI 5)), .int (nI 2), .null, .int l1]) rfl ?_
                refine lv_iload_n hx hb dX6_sumOfMarks_57 rfl (lv_at hl 4 rfl) ?_
                obtain ⟨v14, hv, hM⟩ := e_bs hM
                refine e_iald E J hv dX6_sumOfMarks_58 ?_
                exact e_no hM
          · have hM := e_on1 hM
            refine W.eq (g2 := F0 m 43 ls [.ref (e_ad G a8), .int l1]) rfl ?_
            refine lv_iconst (v := nI 2) hx hb dX6_sumOfMarks_43 (by decide) ?_
            refine lv_iload_n hx hb dX6_sumOfMarks_44 rfl (lv_at hl 1 rfl) ?_
            refine lv_iload hx hb dX6_sumOfMarks_45 (lv_at hl 0 rfl) ?_
            refine lv_aload_n hx hb dX6_sumOfMarks_47 rfl (lv_at hl 2 rfl) ?_
            obtain ⟨v15, hv, hM⟩ := e_bs hM
            refine e_getR (C := RX6) (T := TX6) (N := 9) E J hv rfl inX6 (by decide) q_1_99 dX6_sumOfMarks_48 ?_
            rcases v15 with _ | a16
            · have hM := e_on0 hM
              refine W.eq (g2 := F0 m 51 ls [.null, .int ((l2 - l2 / (nI 11) * (nI 11)) - (nI 5)), .int ((l2 / (nI 11)) - (nI 5)), .int (nI 2), .ref (e_ad G a8), .int l1]) rfl ?_
              refine lv_iload_n hx hb dX6_sumOfMarks_51 rfl (lv_at hl 4 rfl) ?_
              exact e_no hM
            · have hM := e_on1 hM
              refine W.eq (g2 := F0 m 51 ls [.ref (e_ad G a16), .int ((l2 - l2 / (nI 11) * (nI 11)) - (nI 5)), .int ((l2 / (nI 11)) - (nI 5)), .int (nI 2), .ref (e_ad G a8), .int l1]) rfl ?_
              refine lv_iload_n hx hb dX6_sumOfMarks_51 rfl (lv_at hl 4 rfl) ?_
              obtain ⟨v17, hv, hM⟩ := e_bs hM
              refine e_iald E J hv dX6_sumOfMarks_52 ?_
              refine lv_aload_n hx hb dX6_sumOfMarks_53 rfl (lv_at hl 2 rfl) ?_
              obtain ⟨v18, hv, hM⟩ := e_bs hM
              refine e_getR (C := RX6) (T := TX6) (N := 9) E J hv rfl inX6 (by decide) q_1_99 dX6_sumOfMarks_54 ?_
              rcases v18 with _ | a19
              · have hM := e_on0 hM
                refine W.eq (g2 := F0 m 57 ls [.null, .int v17, .int ((l2 - l2 / (nI 11) * (nI 11)) - (nI 5)), .int ((l2 / (nI 11)) - (nI 5)), .int (nI 2), .ref (e_ad G a8), .int l1]) rfl ?_
                refine lv_iload_n hx hb dX6_sumOfMarks_57 rfl (lv_at hl 4 rfl) ?_
                exact e_no hM
              · have hM := e_on1 hM
                refine W.eq (g2 := F0 m 57 ls [.ref (e_ad G a19), .int v17, .int ((l2 - l2 / (nI 11) * (nI 11)) - (nI 5)), .int ((l2 / (nI 11)) - (nI 5)), .int (nI 2), .ref (e_ad G a8), .int l1]) rfl ?_
                refine lv_iload_n hx hb dX6_sumOfMarks_57 rfl (lv_at hl 4 rfl) ?_
                obtain ⟨v20, hv, hM⟩ := e_bs hM
                refine e_iald E J hv dX6_sumOfMarks_58 ?_
                obtain ⟨p21, hv, hM⟩ := e_bs hM
                obtain ⟨fs_, hk, -⟩ := e_bs hv
                refine e_callV (ci := 7) (As := [.int (nI 2), .int ((l2 / (nI 11)) - (nI 5)), .int ((l2 - l2 / (nI 11) * (nI 11)) - (nI 5)), .int v17, .int v20]) (rest := [.int l1]) (n := 5) E J hk rfl (mX7_lawGives (l := l) (G := G) a8 (nI 2) ((l2 / (nI 11)) - (nI 5)) ((l2 - l2 / (nI 11) * (nI 11)) - (nI 5)) v17 v20 h _ hv) q_2_229 q_2_54 q_2_55 q_1_2 q_2_56 (by decide +kernel) rfl ⟨Nat.le_of_ble_eq_true rfl, Nat.le_of_ble_eq_true rfl⟩ (st0 := [.int v20, .int v17, .int ((l2 - l2 / (nI 11) * (nI 11)) - (nI 5)), .int ((l2 / (nI 11)) - (nI 5)), .int (nI 2), .ref (e_ad G a8), .int l1]) (st1 := [.int p21.1, .int l1]) rfl rfl hl.1 (Nat.le_of_ble_eq_true rfl) dX6_sumOfMarks_59 ⟨Nat.le_refl _, Nat.le_refl _⟩ (fun H locs J => ?_)
                obtain ⟨v22, hv, hM⟩ := e_bs hM
                refine e_callSN (As := [.int p21.1]) (rest := [.int l1]) (n := 1) (host := RX8) E J (mX8_held (l := l) (G := G) p21.1 p21.2 _ hv) (List.mem_of_getElem? (i := 7) rfl) q_2_73 q_1_1 q_2_74 (by decide +kernel) rfl ⟨Nat.le_of_ble_eq_true rfl, Nat.le_of_ble_eq_true rfl⟩ (st0 := [.int p21.1, .int l1]) (st1 := [.int v22, .int l1]) rfl rfl hl.1 (Nat.le_of_ble_eq_true rfl) dX6_sumOfMarks_62 ⟨Nat.le_refl _, Nat.le_refl _⟩ (fun H locs J => ?_)
                refine lv_iadd hx hb dX6_sumOfMarks_65 ?_
                refine lv_istore_n (lv' := [(1, .int (l1 + v22)), (4, .int ((l2 - l2 / (nI 11) * (nI 11)) - (nI 5))), (3, .int ((l2 / (nI 11)) - (nI 5))), (0, .ref (e_ad G l0)), (2, .int l2)]) hx hb dX6_sumOfMarks_66 rfl hl (by decide) rfl (fun ls hl => ?_)
                exact mX6_sumOfMarks_b67 E K4 l0 (l1 + v22) l2 p21.2 hM J (lv_sub hl [3, 0, 4] rfl)
set_option maxRecDepth 100000 in
set_option maxHeartbeats 4000000 in
theorem mX6_sumOfMarks_L4 {p : Program} {l : Launch} {e : Env} {s : State} {m : MethodId} {args : Array Value} {below : List Frame} {meth : Method} {c : Code} {G : e_G} {res : (Int32 × e_H)} (E : e_M G p s args m meth c cX6_sumOfMarks 5 (some FieldType.int) RX6) (n : Nat) (l0 : Nat) (l1 : Int32) (l2 : Int32) (h : e_H) (hM : fX6_sumOfMarks_L4 n l0 l1 l2 h = some res) {H : Heap} {locs : List Loc} (J : e_J G s h H locs) {ls : Array Slot} (hl : lv_has ls 5 [(0, .ref (e_ad G l0)), (1, .int l1), (2, .int l2)]) : W p l e (e_rm 3 75) s m args below meth c H locs 0 0 (MQ below (e_Q G res.2 (some (.int res.1))) args s 0 0 (e_A G)) (F0 m 4 ls []) := by
  induction n generalizing l0 l1 l2 h H locs ls with
  | zero => exact e_no hM
  | succ n ih => exact mX6_sumOfMarks_b4 (k4 := (fX6_sumOfMarks_L4 n)) E   (fun l0 l1 l2 h hM H locs J ls hl => ih l0 l1 l2 h hM J hl) l0 l1 l2 h hM J hl
set_option maxRecDepth 100000 in
set_option maxHeartbeats 4000000 in
theorem mX6_sumOfMarks {l : Launch} {G : e_G} (l0 : Nat) (h : e_H) (res : (Int32 × e_H)) (hM : fX6_sumOfMarks l0 h = some res) : Met l yX6_sumOfMarks (e_W yX6_sumOfMarks cX6_sumOfMarks 5 (some FieldType.int)) (e_rm 3 75) (e_Pc G h [.ref (e_ad G l0)]) (e_Q G res.2 (some (.int res.1))) 0 0 (e_A G) := by
  refine Met.ofW (cc := cX6_sumOfMarks) (maxL := 5) (ret := (some FieldType.int)) (by decide) rfl ?_
  intro p e s m args below meth c s₁ B hml hv
  obtain ⟨rfl, hS, hP⟩ := hv
  have E := e_enter (own := RX6) (ret := (some FieldType.int)) B hml rfl hS hP
  have J : e_J G s h s.heap [] := ⟨hP, va_S.rf⟩
  have hl := lv_entry ([.ref (e_ad G l0)]) (n := 5) (Nat.le_of_ble_eq_true rfl)
  rw [lg_entry_eq]
  generalize (lg_sl ([.ref (e_ad G l0)]) ++ List.replicate (5 - (lg_sl ([.ref (e_ad G l0)])).length) Slot.unset).toArray = ls at hl ⊢
  have hl : lv_has ls 5 [(0, .ref (e_ad G l0))] := hl
  obtain ⟨hx, hb, hr, hml, hown, hts, hlocks, hES, hbs⟩ := id E
  unfold fX6_sumOfMarks at hM
  obtain ⟨fs_, hk_, hM⟩ := e_bs hM
  refine lv_iconst (v := nI 0) hx hb dX6_sumOfMarks_0 (by decide) ?_
  refine lv_istore_n (lv' := [(1, .int (nI 0)), (0, .ref (e_ad G l0))]) hx hb dX6_sumOfMarks_1 rfl hl (by decide) rfl (fun ls hl => ?_)
  refine lv_iconst (v := nI 0) hx hb dX6_sumOfMarks_2 (by decide) ?_
  refine lv_istore_n (lv' := [(2, .int (nI 0)), (1, .int (nI 0)), (0, .ref (e_ad G l0))]) hx hb dX6_sumOfMarks_3 rfl hl (by decide) rfl (fun ls hl => ?_)
  exact mX6_sumOfMarks_L4 E 200 l0 (nI 0) (nI 0) h hM J (lv_sub hl [2, 1, 0] rfl)
set_option maxRecDepth 100000 in
set_option maxHeartbeats 4000000 in
theorem mX6_placesWith_b26 {p : Program} {l : Launch} {e : Env} {s : State} {m : MethodId} {args : Array Value} {below : List Frame} {meth : Method} {c : Code} {G : e_G} {res : Int32} {k4 : Nat → Int32 → Int32 → Int32 → Option Int32} (E : e_M G p s args m meth c cX6_placesWith 4 (some FieldType.int) RX6) (h : e_H) (K4 : ∀ (l0 : Nat) (l1 : Int32) (l2 : Int32) (l3 : Int32), k4 l0 l1 l2 l3 = some res → ∀ (H : Heap) (locs : List Loc), e_J G s h H locs → ∀ (ls : Array Slot), lv_has ls 4 [(0, .ref (e_ad G l0)), (1, .int l1), (2, .int l2), (3, .int l3)] → W p l e (e_rm 0 0) s m args below meth c H locs 0 0 (MQ below (e_Q G h (some (.int res))) args s 0 0 (e_A G)) (F0 m 4 ls [])) (l0 : Nat) (l1 : Int32) (l2 : Int32) (l3 : Int32) (hM : fX6_placesWith_b26 h k4 l0 l1 l2 l3 = some res) {H : Heap} {locs : List Loc} (J : e_J G s h H locs) {ls : Array Slot} (hl : lv_has ls 4 [(0, .ref (e_ad G l0)), (1, .int l1), (2, .int l2), (3, .int l3)]) : W p l e (e_rm 0 0) s m args below meth c H locs 0 0 (MQ below (e_Q G h (some (.int res))) args s 0 0 (e_A G)) (F0 m 26 ls []) := by
  obtain ⟨hx, hb, hr, hml, hown, hts, hlocks, hES, hbs⟩ := id E
  unfold fX6_placesWith_b26 at hM
  refine lv_iinc (v := (l3 + (nI 1))) (lv' := [(3, .int (l3 + (nI 1))), (0, .ref (e_ad G l0)), (1, .int l1), (2, .int l2)]) hx hb dX6_placesWith_26 hl (k := 3) rfl rfl (by decide) rfl (fun ls hl => ?_)
  refine lv_goto (tgt := 4) hx hb dX6_placesWith_29 (by decide) ?_
  exact K4 l0 l1 l2 (l3 + (nI 1)) hM _ _ J _ (lv_sub hl [1, 2, 3, 0] rfl)
set_option maxRecDepth 100000 in
set_option maxHeartbeats 4000000 in
theorem mX6_placesWith_b4 {p : Program} {l : Launch} {e : Env} {s : State} {m : MethodId} {args : Array Value} {below : List Frame} {meth : Method} {c : Code} {G : e_G} {res : Int32} {k4 : Nat → Int32 → Int32 → Int32 → Option Int32} (E : e_M G p s args m meth c cX6_placesWith 4 (some FieldType.int) RX6) (h : e_H) (K4 : ∀ (l0 : Nat) (l1 : Int32) (l2 : Int32) (l3 : Int32), k4 l0 l1 l2 l3 = some res → ∀ (H : Heap) (locs : List Loc), e_J G s h H locs → ∀ (ls : Array Slot), lv_has ls 4 [(0, .ref (e_ad G l0)), (1, .int l1), (2, .int l2), (3, .int l3)] → W p l e (e_rm 0 0) s m args below meth c H locs 0 0 (MQ below (e_Q G h (some (.int res))) args s 0 0 (e_A G)) (F0 m 4 ls [])) (l0 : Nat) (l1 : Int32) (l2 : Int32) (l3 : Int32) (hM : fX6_placesWith_b4 h k4 l0 l1 l2 l3 = some res) {H : Heap} {locs : List Loc} (J : e_J G s h H locs) {ls : Array Slot} (hl : lv_has ls 4 [(0, .ref (e_ad G l0)), (1, .int l1), (2, .int l2), (3, .int l3)]) : W p l e (e_rm 0 0) s m args below meth c H locs 0 0 (MQ below (e_Q G h (some (.int res))) args s 0 0 (e_A G)) (F0 m 4 ls []) := by
  obtain ⟨hx, hb, hr, hml, hown, hts, hlocks, hES, hbs⟩ := id E
  unfold fX6_placesWith_b4 at hM
  refine lv_iload_n hx hb dX6_placesWith_4 rfl (lv_at hl 3 rfl) ?_
  refine lv_aload_n hx hb dX6_placesWith_5 rfl (lv_at hl 0 rfl) ?_
  obtain ⟨v1, hv, hM⟩ := e_bs hM
  refine e_getR (C := RX6) (T := TX6) (N := 9) E J hv rfl inX6 (by decide) q_1_99 dX6_placesWith_6 ?_
  rcases v1 with _ | a2
  · have hM := e_on0 hM
    refine W.eq (g2 := F0 m 9 ls [.null, .int l3]) rfl ?_
    exact e_no hM
  · have hM := e_on1 hM
    refine W.eq (g2 := F0 m 9 ls [.ref (e_ad G a2), .int l3]) rfl ?_
    obtain ⟨v3, hv, hM⟩ := e_bs hM
    refine e_alen E J hv rfl rfl dX6_placesWith_9 ?_
    refine lv_icmp_ge (tgt := 32) hx hb dX6_placesWith_10 (by decide) (fun hc => ?_) (fun hc => ?_)
    · have hM := e_ip hc hM
      refine lv_iload_n hx hb dX6_placesWith_32 rfl (lv_at hl 2 rfl) ?_
      obtain rfl := e_so hM
      exact e_iret E J dX6_placesWith_33
    · have hM := e_in hc hM
      refine lv_aload_n hx hb dX6_placesWith_13 rfl (lv_at hl 0 rfl) ?_
      obtain ⟨v4, hv, hM⟩ := e_bs hM
      refine e_getR (C := RX6) (T := TX6) (N := 9) E J hv rfl inX6 (by decide) q_1_99 dX6_placesWith_14 ?_
      rcases v4 with _ | a5
      · have hM := e_on0 hM
        refine W.eq (g2 := F0 m 17 ls [.null]) rfl ?_
        refine lv_iload_n hx hb dX6_placesWith_17 rfl (lv_at hl 3 rfl) ?_
        exact e_no hM
      · have hM := e_on1 hM
        refine W.eq (g2 := F0 m 17 ls [.ref (e_ad G a5)]) rfl ?_
        refine lv_iload_n hx hb dX6_placesWith_17 rfl (lv_at hl 3 rfl) ?_
        obtain ⟨v6, hv, hM⟩ := e_bs hM
        refine e_iald E J hv dX6_placesWith_18 ?_
        refine lv_iload_n hx hb dX6_placesWith_19 rfl (lv_at hl 1 rfl) ?_
        refine lv_icmp_lt (tgt := 26) hx hb dX6_placesWith_20 (by decide) (fun hc => ?_) (fun hc => ?_)
        · have hM := e_ip hc hM
          exact mX6_placesWith_b26 E h K4 l0 l1 l2 l3 hM J (lv_sub hl [0, 1, 2, 3] rfl)
        · have hM := e_in hc hM
          refine lv_iinc (v := (l2 + (nI 1))) (lv' := [(2, .int (l2 + (nI 1))), (0, .ref (e_ad G l0)), (1, .int l1), (3, .int l3)]) hx hb dX6_placesWith_23 hl (k := 2) rfl rfl (by decide) rfl (fun ls hl => ?_)
          exact mX6_placesWith_b26 E h K4 l0 l1 (l2 + (nI 1)) l3 hM J (lv_sub hl [1, 2, 0, 3] rfl)
set_option maxRecDepth 100000 in
set_option maxHeartbeats 4000000 in
theorem mX6_placesWith_L4 {p : Program} {l : Launch} {e : Env} {s : State} {m : MethodId} {args : Array Value} {below : List Frame} {meth : Method} {c : Code} {G : e_G} {res : Int32} (E : e_M G p s args m meth c cX6_placesWith 4 (some FieldType.int) RX6) (h : e_H) (n : Nat) (l0 : Nat) (l1 : Int32) (l2 : Int32) (l3 : Int32) (hM : fX6_placesWith_L4 h n l0 l1 l2 l3 = some res) {H : Heap} {locs : List Loc} (J : e_J G s h H locs) {ls : Array Slot} (hl : lv_has ls 4 [(0, .ref (e_ad G l0)), (1, .int l1), (2, .int l2), (3, .int l3)]) : W p l e (e_rm 0 0) s m args below meth c H locs 0 0 (MQ below (e_Q G h (some (.int res))) args s 0 0 (e_A G)) (F0 m 4 ls []) := by
  induction n generalizing l0 l1 l2 l3 H locs ls with
  | zero => exact e_no hM
  | succ n ih => exact mX6_placesWith_b4 (k4 := (fX6_placesWith_L4 h n)) E h  (fun l0 l1 l2 l3 hM H locs J ls hl => ih l0 l1 l2 l3 hM J hl) l0 l1 l2 l3 hM J hl
set_option maxRecDepth 100000 in
set_option maxHeartbeats 4000000 in
theorem mX6_placesWith {l : Launch} {G : e_G} (l0 : Nat) (l1 : Int32) (h : e_H) (res : Int32) (hM : fX6_placesWith l0 l1 h = some res) : Met l yX6_placesWith (e_W yX6_placesWith cX6_placesWith 4 (some FieldType.int)) (e_rm 0 0) (e_Pc G h [.ref (e_ad G l0), .int l1]) (e_Q G h (some (.int res))) 0 0 (e_A G) := by
  refine Met.ofW (cc := cX6_placesWith) (maxL := 4) (ret := (some FieldType.int)) (by decide) rfl ?_
  intro p e s m args below meth c s₁ B hml hv
  obtain ⟨rfl, hS, hP⟩ := hv
  have E := e_enter (own := RX6) (ret := (some FieldType.int)) B hml rfl hS hP
  have J : e_J G s h s.heap [] := ⟨hP, va_S.rf⟩
  have hl := lv_entry ([.ref (e_ad G l0), .int l1]) (n := 4) (Nat.le_of_ble_eq_true rfl)
  rw [lg_entry_eq]
  generalize (lg_sl ([.ref (e_ad G l0), .int l1]) ++ List.replicate (4 - (lg_sl ([.ref (e_ad G l0), .int l1])).length) Slot.unset).toArray = ls at hl ⊢
  have hl : lv_has ls 4 [(0, .ref (e_ad G l0)), (1, .int l1)] := hl
  obtain ⟨hx, hb, hr, hml, hown, hts, hlocks, hES, hbs⟩ := id E
  unfold fX6_placesWith at hM
  obtain ⟨fs_, hk_, hM⟩ := e_bs hM
  refine lv_iconst (v := nI 0) hx hb dX6_placesWith_0 (by decide) ?_
  refine lv_istore_n (lv' := [(2, .int (nI 0)), (0, .ref (e_ad G l0)), (1, .int l1)]) hx hb dX6_placesWith_1 rfl hl (by decide) rfl (fun ls hl => ?_)
  refine lv_iconst (v := nI 0) hx hb dX6_placesWith_2 (by decide) ?_
  refine lv_istore_n (lv' := [(3, .int (nI 0)), (2, .int (nI 0)), (0, .ref (e_ad G l0)), (1, .int l1)]) hx hb dX6_placesWith_3 rfl hl (by decide) rfl (fun ls hl => ?_)
  exact mX6_placesWith_L4 E h 200 l0 l1 (nI 0) (nI 0) hM J (lv_sub hl [2, 3, 1, 0] rfl)
set_option maxRecDepth 100000 in
set_option maxHeartbeats 4000000 in
theorem mX8_all_b61 {p : Program} {l : Launch} {e : Env} {s : State} {m : MethodId} {args : Array Value} {below : List Frame} {meth : Method} {c : Code} {G : e_G} {res : (Int32 × e_H)} (E : e_M G p s args m meth c cX8_all 4 (some FieldType.int) RX8) (t0 : Int32) (h : e_H) (hM : fX8_all_b61 t0 h = some res) {H : Heap} {locs : List Loc} (J : e_J G s h H locs) {ls : Array Slot} (hl : lv_has ls 4 []) : W p l e (e_rm 6 148) s m args below meth c H locs 0 0 (MQ below (e_Q G res.2 (some (.int res.1))) args s 0 0 (e_A G)) (F0 m 61 ls [.int t0, .null]) := by
  obtain ⟨hx, hb, hr, hml, hown, hts, hlocks, hES, hbs⟩ := id E
  unfold fX8_all_b61 at hM
  exact e_no hM
set_option maxRecDepth 100000 in
set_option maxHeartbeats 4000000 in
theorem mX8_all_b61x1 {p : Program} {l : Launch} {e : Env} {s : State} {m : MethodId} {args : Array Value} {below : List Frame} {meth : Method} {c : Code} {G : e_G} {res : (Int32 × e_H)} (E : e_M G p s args m meth c cX8_all 4 (some FieldType.int) RX8) (t0 : Int32) (t1 : Nat) (h : e_H) (hM : fX8_all_b61x1 t0 t1 h = some res) {H : Heap} {locs : List Loc} (J : e_J G s h H locs) {ls : Array Slot} (hl : lv_has ls 4 []) : W p l e (e_rm 6 148) s m args below meth c H locs 0 0 (MQ below (e_Q G res.2 (some (.int res.1))) args s 0 0 (e_A G)) (F0 m 61 ls [.int t0, .ref (e_ad G t1)]) := by
  obtain ⟨hx, hb, hr, hml, hown, hts, hlocks, hES, hbs⟩ := id E
  unfold fX8_all_b61x1 at hM
  obtain ⟨v1, hv, hM⟩ := e_bs hM
  obtain ⟨fs_, hk, -⟩ := e_bs hv
  refine e_callV (ci := 6) (As := [.int t0]) (rest := []) (n := 1) E J hk rfl (mX6_placesWith (l := l) (G := G) t1 t0 h _ hv) q_3_97 q_3_98 q_3_99 q_1_4 q_3_100 (by decide +kernel) rfl ⟨Nat.le_of_ble_eq_true rfl, Nat.le_of_ble_eq_true rfl⟩ (st0 := [.int t0, .ref (e_ad G t1)]) (st1 := [.int v1]) rfl rfl hl.1 (Nat.le_of_ble_eq_true rfl) dX8_all_61 ⟨Nat.le_refl _, Nat.le_refl _⟩ (fun H locs J => ?_)
  obtain rfl := e_so hM
  exact e_iret E J dX8_all_64
set_option maxRecDepth 100000 in
set_option maxHeartbeats 4000000 in
theorem mX8_all {l : Launch} {G : e_G} (l0 : Nat) (l1 : Int32) (l2 : Int32) (h : e_H) (res : (Int32 × e_H)) (hM : fX8_all l0 l1 l2 h = some res) : Met l yX8_all (e_W yX8_all cX8_all 4 (some FieldType.int)) (e_rm 6 148) (e_Pc G h [.ref (e_ad G l0), .int l1, .int l2]) (e_Q G res.2 (some (.int res.1))) 0 0 (e_A G) := by
  refine Met.ofW (cc := cX8_all) (maxL := 4) (ret := (some FieldType.int)) (by decide) rfl ?_
  intro p e s m args below meth c s₁ B hml hv
  obtain ⟨rfl, hS, hP⟩ := hv
  have E := e_enter (own := RX8) (ret := (some FieldType.int)) B hml rfl hS hP
  have J : e_J G s h s.heap [] := ⟨hP, va_S.rf⟩
  have hl := lv_entry ([.ref (e_ad G l0), .int l1, .int l2]) (n := 4) (Nat.le_of_ble_eq_true rfl)
  rw [lg_entry_eq]
  generalize (lg_sl ([.ref (e_ad G l0), .int l1, .int l2]) ++ List.replicate (4 - (lg_sl ([.ref (e_ad G l0), .int l1, .int l2])).length) Slot.unset).toArray = ls at hl ⊢
  have hl : lv_has ls 4 [(0, .ref (e_ad G l0)), (1, .int l1), (2, .int l2)] := hl
  obtain ⟨hx, hb, hr, hml, hown, hts, hlocks, hES, hbs⟩ := id E
  unfold fX8_all at hM
  obtain ⟨fs_, hk_, hM⟩ := e_bs hM
  refine lv_aload_n hx hb dX8_all_0 rfl (lv_at hl 0 rfl) ?_
  obtain ⟨v1, hv, hM⟩ := e_bs hM
  refine e_getR (C := RX8) (T := TX8) (N := 10) E J hv rfl inX8 (by decide) q_1_199 dX8_all_1 ?_
  rcases v1 with _ | a2
  · have hM := e_on0 hM
    refine W.eq (g2 := F0 m 4 ls [.null]) rfl ?_
    refine lv_iload_n hx hb dX8_all_4 rfl (lv_at hl 1 rfl) ?_
    exact e_no hM
  · have hM := e_on1 hM
    refine W.eq (g2 := F0 m 4 ls [.ref (e_ad G a2)]) rfl ?_
    refine lv_iload_n hx hb dX8_all_4 rfl (lv_at hl 1 rfl) ?_
    obtain ⟨v3, hv, hM⟩ := e_bs hM
    obtain ⟨fs_, hk, -⟩ := e_bs hv
    refine e_callV (ci := 7) (As := [.int l1]) (rest := []) (n := 1) E J hk rfl (mX7_curveOf (l := l) (G := G) a2 l1 h _ hv) q_2_14 q_2_15 q_2_16 q_1_2 q_2_17 (by decide +kernel) rfl ⟨Nat.le_of_ble_eq_true rfl, Nat.le_of_ble_eq_true rfl⟩ (st0 := [.int l1, .ref (e_ad G a2)]) (st1 := [e_r G v3]) rfl rfl hl.1 (Nat.le_of_ble_eq_true rfl) dX8_all_5 ⟨Nat.le_refl _, Nat.le_refl _⟩ (fun H locs J => ?_)
    rcases v3 with _ | a4
    · have hM := e_on0 hM
      refine W.eq (g2 := F0 m 8 ls [.null]) rfl ?_
      refine lv_astore_nN (lv' := [(3, .null), (0, .ref (e_ad G l0)), (1, .int l1), (2, .int l2)]) hx hb dX8_all_8 rfl hl (by decide) rfl (fun ls hl => ?_)
      refine lv_aload_nN hx hb dX8_all_9 rfl (lv_at hl 0 rfl) ?_
      refine lv_ifnullN (tgt := 22) hx hb dX8_all_10 (by decide) ?_
      refine lv_ldc (v := -1000000001) hx hb hown (hts _ q_1_237) dX8_all_22 ?_
      obtain rfl := e_so hM
      exact e_iret E J dX8_all_24
    · have hM := e_on1 hM
      refine W.eq (g2 := F0 m 8 ls [.ref (e_ad G a4)]) rfl ?_
      refine lv_astore_n (lv' := [(3, .ref (e_ad G a4)), (0, .ref (e_ad G l0)), (1, .int l1), (2, .int l2)]) hx hb dX8_all_8 rfl hl (by decide) rfl (fun ls hl => ?_)
      refine lv_aload_n hx hb dX8_all_9 rfl (lv_at hl 0 rfl) ?_
      refine lv_ifnull hx hb dX8_all_10 ?_
      refine lv_iload_n hx hb dX8_all_13 rfl (lv_at hl 3 rfl) ?_
      refine lv_if_lt (tgt := 22) hx hb dX8_all_14 (by decide) (fun hc => ?_) (fun hc => ?_)
      · have hM := e_ip hc hM
        refine lv_ldc (v := -1000000001) hx hb hown (hts _ q_1_237) dX8_all_22 ?_
        obtain rfl := e_so hM
        exact e_iret E J dX8_all_24
      · have hM := e_in hc hM
        refine lv_iload_n hx hb dX8_all_17 rfl (lv_at hl 3 rfl) ?_
        refine lv_iconst (v := nI 2) hx hb dX8_all_18 (by decide) ?_
        refine lv_icmp_le (tgt := 25) hx hb dX8_all_19 (by decide) (fun hc => ?_) (fun hc => ?_)
        · have hM := e_ip hc hM
          refine lv_aload_n hx hb dX8_all_25 rfl (lv_at hl 1 rfl) ?_
          obtain ⟨v5, hv, hM⟩ := e_bs hM
          refine e_getR (C := RX8) (T := TX8) (N := 10) E J hv rfl inX8 (by decide) q_1_201 dX8_all_26 ?_
          rcases v5 with _ | a6
          · have hM := e_on0 hM
            refine W.eq (g2 := F0 m 29 ls [.null]) rfl ?_
            refine lv_aload_n hx hb dX8_all_29 rfl (lv_at hl 0 rfl) ?_
            exact e_no hM
          · have hM := e_on1 hM
            refine W.eq (g2 := F0 m 29 ls [.ref (e_ad G a6)]) rfl ?_
            refine lv_aload_n hx hb dX8_all_29 rfl (lv_at hl 0 rfl) ?_
            obtain ⟨h7, hv, hM⟩ := e_bs hM
            obtain ⟨fs_, hk, -⟩ := e_bs hv
            refine e_callV (ci := 6) (As := [.ref (e_ad G a4)]) (rest := []) (n := 1) E J hk rfl (mX6_walk (l := l) (G := G) a6 a4 h _ hv) q_3_85 q_3_86 q_3_87 q_1_4 q_3_88 (by decide +kernel) rfl ⟨Nat.le_of_ble_eq_true rfl, Nat.le_of_ble_eq_true rfl⟩ (st0 := [.ref (e_ad G a4), .ref (e_ad G a6)]) (st1 := []) rfl rfl hl.1 (Nat.le_of_ble_eq_true rfl) dX8_all_30 ⟨Nat.le_refl _, Nat.le_refl _⟩ (fun H locs J => ?_)
            refine lv_iload_n hx hb dX8_all_33 rfl (lv_at hl 3 rfl) ?_
            refine lv_iconst (v := nI 2) hx hb dX8_all_34 (by decide) ?_
            refine lv_icmp_ne (tgt := 48) hx hb dX8_all_35 (by decide) (fun hc => ?_) (fun hc => ?_)
            · have hM := e_in hc hM
              refine lv_aload_n hx hb dX8_all_48 rfl (lv_at hl 1 rfl) ?_
              obtain ⟨v11, hv, hM⟩ := e_bs hM
              refine e_getR (C := RX8) (T := TX8) (N := 10) E J hv rfl inX8 (by decide) q_1_201 dX8_all_49 ?_
              rcases v11 with _ | a12
              · have hM := e_on0 hM
                refine W.eq (g2 := F0 m 52 ls [.null]) rfl ?_
                refine lv_iload_n hx hb dX8_all_52 rfl (lv_at hl 3 rfl) ?_
                refine lv_if_ne (tgt := 60) hx hb dX8_all_53 (by decide) (fun hc => ?_) (fun hc => ?_)
                · have hM := e_in hc hM
                  refine lv_iconst (v := nI 2) hx hb dX8_all_60 (by decide) ?_
                  exact mX8_all_b61 E (nI 2) h7 hM J (lv_sub hl [] rfl)
                · have hM := e_ip hc hM
                  refine lv_iconst (v := nI 1) hx hb dX8_all_56 (by decide) ?_
                  refine lv_goto (tgt := 61) hx hb dX8_all_57 (by decide) ?_
                  exact mX8_all_b61 E (nI 1) h7 hM J (lv_sub hl [] rfl)
              · have hM := e_on1 hM
                refine W.eq (g2 := F0 m 52 ls [.ref (e_ad G a12)]) rfl ?_
                refine lv_iload_n hx hb dX8_all_52 rfl (lv_at hl 3 rfl) ?_
                refine lv_if_ne (tgt := 60) hx hb dX8_all_53 (by decide) (fun hc => ?_) (fun hc => ?_)
                · have hM := e_in hc hM
                  refine lv_iconst (v := nI 2) hx hb dX8_all_60 (by decide) ?_
                  exact mX8_all_b61x1 E (nI 2) a12 h7 hM J (lv_sub hl [] rfl)
                · have hM := e_ip hc hM
                  refine lv_iconst (v := nI 1) hx hb dX8_all_56 (by decide) ?_
                  refine lv_goto (tgt := 61) hx hb dX8_all_57 (by decide) ?_
                  exact mX8_all_b61x1 E (nI 1) a12 h7 hM J (lv_sub hl [] rfl)
            · have hM := e_ip hc hM
              refine lv_aload_n hx hb dX8_all_38 rfl (lv_at hl 1 rfl) ?_
              obtain ⟨v8, hv, hM⟩ := e_bs hM
              refine e_getR (C := RX8) (T := TX8) (N := 10) E J hv rfl inX8 (by decide) q_1_201 dX8_all_39 ?_
              rcases v8 with _ | a9
              · have hM := e_on0 hM
                refine W.eq (g2 := F0 m 42 ls [.null]) rfl ?_
                exact e_no hM
              · have hM := e_on1 hM
                refine W.eq (g2 := F0 m 42 ls [.ref (e_ad G a9)]) rfl ?_
                obtain ⟨p10, hv, hM⟩ := e_bs hM
                obtain ⟨fs_, hk, -⟩ := e_bs hv
                refine e_callV (ci := 6) (As := []) (rest := []) (n := 0) E J hk rfl (mX6_sumOfMarks (l := l) (G := G) a9 h7 _ hv) q_3_92 q_3_93 q_3_94 q_1_4 q_3_95 (by decide +kernel) rfl ⟨Nat.le_of_ble_eq_true rfl, Nat.le_of_ble_eq_true rfl⟩ (st0 := [.ref (e_ad G a9)]) (st1 := [.int p10.1]) rfl rfl hl.1 (Nat.le_of_ble_eq_true rfl) dX8_all_42 ⟨Nat.le_refl _, Nat.le_refl _⟩ (fun H locs J => ?_)
                refine lv_goto (tgt := 64) hx hb dX8_all_45 (by decide) ?_
                obtain rfl := e_so hM
                exact e_iret E J dX8_all_64
        · have hM := e_in hc hM
          refine lv_ldc (v := -1000000001) hx hb hown (hts _ q_1_237) dX8_all_22 ?_
          obtain rfl := e_so hM
          exact e_iret E J dX8_all_24
set_option maxRecDepth 100000 in
set_option maxHeartbeats 4000000 in
theorem mX6_toldPlace {l : Launch} {G : e_G} (l0 : Int32) (h : e_H) (res : Int32) (hM : fX6_toldPlace l0 = some res) : Met l yX6_toldPlace (e_W yX6_toldPlace cX6_toldPlace 1 (some FieldType.int)) (e_rm 0 0) (e_Pc G h [.int l0]) (e_Q G h (some (.int res))) 0 0 (e_A G) := by
  refine Met.ofW (cc := cX6_toldPlace) (maxL := 1) (ret := (some FieldType.int)) (by decide) rfl ?_
  intro p e s m args below meth c s₁ B hml hv
  obtain ⟨rfl, hS, hP⟩ := hv
  have E := e_enter (own := RX6) (ret := (some FieldType.int)) B hml rfl hS hP
  have J : e_J G s h s.heap [] := ⟨hP, va_S.rf⟩
  have hl := lv_entry ([.int l0]) (n := 1) (Nat.le_of_ble_eq_true rfl)
  rw [lg_entry_eq]
  generalize (lg_sl ([.int l0]) ++ List.replicate (1 - (lg_sl ([.int l0])).length) Slot.unset).toArray = ls at hl ⊢
  have hl : lv_has ls 1 [(0, .int l0)] := hl
  obtain ⟨hx, hb, hr, hml, hown, hts, hlocks, hES, hbs⟩ := id E
  unfold fX6_toldPlace at hM
  refine lv_iload_n hx hb dX6_toldPlace_0 rfl (lv_at hl 0 rfl) ?_
  refine lv_bipush (v := nI 11) hx hb dX6_toldPlace_1 (by decide) ?_
  refine lv_idiv hx hb dX6_toldPlace_3 (by decide) ?_
  refine lv_bipush (v := nI 100) hx hb dX6_toldPlace_4 (by decide) ?_
  refine lv_imul hx hb dX6_toldPlace_6 ?_
  refine lv_iload_n hx hb dX6_toldPlace_7 rfl (lv_at hl 0 rfl) ?_
  refine lv_bipush (v := nI 11) hx hb dX6_toldPlace_8 (by decide) ?_
  refine lv_irem hx hb dX6_toldPlace_10 (by decide) ?_
  refine lv_iadd hx hb dX6_toldPlace_11 ?_
  obtain rfl := e_so hM
  exact e_iret E J dX6_toldPlace_12
set_option maxRecDepth 100000 in
set_option maxHeartbeats 4000000 in
theorem mX6_placeOn_b36 {p : Program} {l : Launch} {e : Env} {s : State} {m : MethodId} {args : Array Value} {below : List Frame} {meth : Method} {c : Code} {G : e_G} {res : Int32} {k4 : Nat → Int32 → Int32 → Int32 → Option Int32} (E : e_M G p s args m meth c cX6_placeOn 4 (some FieldType.int) RX6) (h : e_H) (K4 : ∀ (l0 : Nat) (l1 : Int32) (l2 : Int32) (l3 : Int32), k4 l0 l1 l2 l3 = some res → ∀ (H : Heap) (locs : List Loc), e_J G s h H locs → ∀ (ls : Array Slot), lv_has ls 4 [(0, .ref (e_ad G l0)), (1, .int l1), (2, .int l2), (3, .int l3)] → W p l e (e_rm 1 20) s m args below meth c H locs 0 0 (MQ below (e_Q G h (some (.int res))) args s 0 0 (e_A G)) (F0 m 4 ls [])) (l0 : Nat) (l1 : Int32) (l2 : Int32) (l3 : Int32) (hM : fX6_placeOn_b36 h k4 l0 l1 l2 l3 = some res) {H : Heap} {locs : List Loc} (J : e_J G s h H locs) {ls : Array Slot} (hl : lv_has ls 4 [(0, .ref (e_ad G l0)), (1, .int l1), (2, .int l2), (3, .int l3)]) : W p l e (e_rm 1 20) s m args below meth c H locs 0 0 (MQ below (e_Q G h (some (.int res))) args s 0 0 (e_A G)) (F0 m 36 ls []) := by
  obtain ⟨hx, hb, hr, hml, hown, hts, hlocks, hES, hbs⟩ := id E
  unfold fX6_placeOn_b36 at hM
  refine lv_iinc (v := (l3 + (nI 1))) (lv' := [(3, .int (l3 + (nI 1))), (0, .ref (e_ad G l0)), (1, .int l1), (2, .int l2)]) hx hb dX6_placeOn_36 hl (k := 3) rfl rfl (by decide) rfl (fun ls hl => ?_)
  refine lv_goto (tgt := 4) hx hb dX6_placeOn_39 (by decide) ?_
  exact K4 l0 l1 l2 (l3 + (nI 1)) hM _ _ J _ (lv_sub hl [1, 2, 3, 0] rfl)
set_option maxRecDepth 100000 in
set_option maxHeartbeats 4000000 in
theorem mX6_placeOn_b4 {p : Program} {l : Launch} {e : Env} {s : State} {m : MethodId} {args : Array Value} {below : List Frame} {meth : Method} {c : Code} {G : e_G} {res : Int32} {k4 : Nat → Int32 → Int32 → Int32 → Option Int32} (E : e_M G p s args m meth c cX6_placeOn 4 (some FieldType.int) RX6) (h : e_H) (K4 : ∀ (l0 : Nat) (l1 : Int32) (l2 : Int32) (l3 : Int32), k4 l0 l1 l2 l3 = some res → ∀ (H : Heap) (locs : List Loc), e_J G s h H locs → ∀ (ls : Array Slot), lv_has ls 4 [(0, .ref (e_ad G l0)), (1, .int l1), (2, .int l2), (3, .int l3)] → W p l e (e_rm 1 20) s m args below meth c H locs 0 0 (MQ below (e_Q G h (some (.int res))) args s 0 0 (e_A G)) (F0 m 4 ls [])) (l0 : Nat) (l1 : Int32) (l2 : Int32) (l3 : Int32) (hM : fX6_placeOn_b4 h k4 l0 l1 l2 l3 = some res) {H : Heap} {locs : List Loc} (J : e_J G s h H locs) {ls : Array Slot} (hl : lv_has ls 4 [(0, .ref (e_ad G l0)), (1, .int l1), (2, .int l2), (3, .int l3)]) : W p l e (e_rm 1 20) s m args below meth c H locs 0 0 (MQ below (e_Q G h (some (.int res))) args s 0 0 (e_A G)) (F0 m 4 ls []) := by
  obtain ⟨hx, hb, hr, hml, hown, hts, hlocks, hES, hbs⟩ := id E
  unfold fX6_placeOn_b4 at hM
  refine lv_iload_n hx hb dX6_placeOn_4 rfl (lv_at hl 3 rfl) ?_
  refine lv_aload_n hx hb dX6_placeOn_5 rfl (lv_at hl 0 rfl) ?_
  obtain ⟨v1, hv, hM⟩ := e_bs hM
  refine e_getR (C := RX6) (T := TX6) (N := 9) E J hv rfl inX6 (by decide) q_1_99 dX6_placeOn_6 ?_
  rcases v1 with _ | a2
  · have hM := e_on0 hM
    refine W.eq (g2 := F0 m 9 ls [.null, .int l3]) rfl ?_
    exact e_no hM
  · have hM := e_on1 hM
    refine W.eq (g2 := F0 m 9 ls [.ref (e_ad G a2), .int l3]) rfl ?_
    obtain ⟨v3, hv, hM⟩ := e_bs hM
    refine e_alen E J hv rfl rfl dX6_placeOn_9 ?_
    refine lv_icmp_ge (tgt := 42) hx hb dX6_placeOn_10 (by decide) (fun hc => ?_) (fun hc => ?_)
    · have hM := e_ip hc hM
      refine lv_ldc (v := -1000000005) hx hb hown (hts _ q_3_112) dX6_placeOn_42 ?_
      obtain rfl := e_so hM
      exact e_iret E J dX6_placeOn_44
    · have hM := e_in hc hM
      refine lv_aload_n hx hb dX6_placeOn_13 rfl (lv_at hl 0 rfl) ?_
      obtain ⟨v4, hv, hM⟩ := e_bs hM
      refine e_getR (C := RX6) (T := TX6) (N := 9) E J hv rfl inX6 (by decide) q_1_99 dX6_placeOn_14 ?_
      rcases v4 with _ | a5
      · have hM := e_on0 hM
        refine W.eq (g2 := F0 m 17 ls [.null]) rfl ?_
        refine lv_iload_n hx hb dX6_placeOn_17 rfl (lv_at hl 3 rfl) ?_
        exact e_no hM
      · have hM := e_on1 hM
        refine W.eq (g2 := F0 m 17 ls [.ref (e_ad G a5)]) rfl ?_
        refine lv_iload_n hx hb dX6_placeOn_17 rfl (lv_at hl 3 rfl) ?_
        obtain ⟨v6, hv, hM⟩ := e_bs hM
        refine e_iald E J hv dX6_placeOn_18 ?_
        refine lv_iconst (v := nI 1) hx hb dX6_placeOn_19 (by decide) ?_
        refine lv_icmp_lt (tgt := 36) hx hb dX6_placeOn_20 (by decide) (fun hc => ?_) (fun hc => ?_)
        · have hM := e_ip hc hM
          exact mX6_placeOn_b36 E h K4 l0 l1 l2 l3 hM J (lv_sub hl [0, 1, 2, 3] rfl)
        · have hM := e_in hc hM
          refine lv_iload_n hx hb dX6_placeOn_23 rfl (lv_at hl 2 rfl) ?_
          refine lv_iload_n hx hb dX6_placeOn_24 rfl (lv_at hl 1 rfl) ?_
          refine lv_icmp_ne (tgt := 33) hx hb dX6_placeOn_25 (by decide) (fun hc => ?_) (fun hc => ?_)
          · have hM := e_in hc hM
            refine lv_iinc (v := (l2 + (nI 1))) (lv' := [(2, .int (l2 + (nI 1))), (0, .ref (e_ad G l0)), (1, .int l1), (3, .int l3)]) hx hb dX6_placeOn_33 hl (k := 2) rfl rfl (by decide) rfl (fun ls hl => ?_)
            exact mX6_placeOn_b36 E h K4 l0 l1 (l2 + (nI 1)) l3 hM J (lv_sub hl [1, 2, 0, 3] rfl)
          · have hM := e_ip hc hM
            refine lv_iload_n hx hb dX6_placeOn_28 rfl (lv_at hl 3 rfl) ?_
            obtain ⟨v7, hv, hM⟩ := e_bs hM
            refine e_callS (As := [.int l3]) (rest := []) (n := 1) E J (mX6_toldPlace (l := l) (G := G) l3 h _ hv) q_3_109 q_3_110 q_1_4 q_3_111 (by decide +kernel) rfl ⟨Nat.le_of_ble_eq_true rfl, Nat.le_of_ble_eq_true rfl⟩ (st0 := [.int l3]) (st1 := [.int v7]) rfl rfl hl.1 (Nat.le_of_ble_eq_true rfl) dX6_placeOn_29 ⟨Nat.le_refl _, Nat.le_refl _⟩ (fun H locs J => ?_)
            obtain rfl := e_so hM
            exact e_iret E J dX6_placeOn_32
set_option maxRecDepth 100000 in
set_option maxHeartbeats 4000000 in
theorem mX6_placeOn_L4 {p : Program} {l : Launch} {e : Env} {s : State} {m : MethodId} {args : Array Value} {below : List Frame} {meth : Method} {c : Code} {G : e_G} {res : Int32} (E : e_M G p s args m meth c cX6_placeOn 4 (some FieldType.int) RX6) (h : e_H) (n : Nat) (l0 : Nat) (l1 : Int32) (l2 : Int32) (l3 : Int32) (hM : fX6_placeOn_L4 h n l0 l1 l2 l3 = some res) {H : Heap} {locs : List Loc} (J : e_J G s h H locs) {ls : Array Slot} (hl : lv_has ls 4 [(0, .ref (e_ad G l0)), (1, .int l1), (2, .int l2), (3, .int l3)]) : W p l e (e_rm 1 20) s m args below meth c H locs 0 0 (MQ below (e_Q G h (some (.int res))) args s 0 0 (e_A G)) (F0 m 4 ls []) := by
  induction n generalizing l0 l1 l2 l3 H locs ls with
  | zero => exact e_no hM
  | succ n ih => exact mX6_placeOn_b4 (k4 := (fX6_placeOn_L4 h n)) E h  (fun l0 l1 l2 l3 hM H locs J ls hl => ih l0 l1 l2 l3 hM J hl) l0 l1 l2 l3 hM J hl
set_option maxRecDepth 100000 in
set_option maxHeartbeats 4000000 in
theorem mX6_placeOn {l : Launch} {G : e_G} (l0 : Nat) (l1 : Int32) (h : e_H) (res : Int32) (hM : fX6_placeOn l0 l1 h = some res) : Met l yX6_placeOn (e_W yX6_placeOn cX6_placeOn 4 (some FieldType.int)) (e_rm 1 20) (e_Pc G h [.ref (e_ad G l0), .int l1]) (e_Q G h (some (.int res))) 0 0 (e_A G) := by
  refine Met.ofW (cc := cX6_placeOn) (maxL := 4) (ret := (some FieldType.int)) (by decide) rfl ?_
  intro p e s m args below meth c s₁ B hml hv
  obtain ⟨rfl, hS, hP⟩ := hv
  have E := e_enter (own := RX6) (ret := (some FieldType.int)) B hml rfl hS hP
  have J : e_J G s h s.heap [] := ⟨hP, va_S.rf⟩
  have hl := lv_entry ([.ref (e_ad G l0), .int l1]) (n := 4) (Nat.le_of_ble_eq_true rfl)
  rw [lg_entry_eq]
  generalize (lg_sl ([.ref (e_ad G l0), .int l1]) ++ List.replicate (4 - (lg_sl ([.ref (e_ad G l0), .int l1])).length) Slot.unset).toArray = ls at hl ⊢
  have hl : lv_has ls 4 [(0, .ref (e_ad G l0)), (1, .int l1)] := hl
  obtain ⟨hx, hb, hr, hml, hown, hts, hlocks, hES, hbs⟩ := id E
  unfold fX6_placeOn at hM
  obtain ⟨fs_, hk_, hM⟩ := e_bs hM
  refine lv_iconst (v := nI 0) hx hb dX6_placeOn_0 (by decide) ?_
  refine lv_istore_n (lv' := [(2, .int (nI 0)), (0, .ref (e_ad G l0)), (1, .int l1)]) hx hb dX6_placeOn_1 rfl hl (by decide) rfl (fun ls hl => ?_)
  refine lv_iconst (v := nI 0) hx hb dX6_placeOn_2 (by decide) ?_
  refine lv_istore_n (lv' := [(3, .int (nI 0)), (2, .int (nI 0)), (0, .ref (e_ad G l0)), (1, .int l1)]) hx hb dX6_placeOn_3 rfl hl (by decide) rfl (fun ls hl => ?_)
  exact mX6_placeOn_L4 E h 200 l0 l1 (nI 0) (nI 0) hM J (lv_sub hl [2, 3, 1, 0] rfl)
set_option maxRecDepth 100000 in
set_option maxHeartbeats 4000000 in
theorem mX8_on {l : Launch} {G : e_G} (l0 : Nat) (l1 : Int32) (l2 : Int32) (h : e_H) (res : (Int32 × e_H)) (hM : fX8_on l0 l1 l2 h = some res) : Met l yX8_on (e_W yX8_on cX8_on 4 (some FieldType.int)) (e_rm 6 148) (e_Pc G h [.ref (e_ad G l0), .int l1, .int l2]) (e_Q G res.2 (some (.int res.1))) 0 0 (e_A G) := by
  refine Met.ofW (cc := cX8_on) (maxL := 4) (ret := (some FieldType.int)) (by decide) rfl ?_
  intro p e s m args below meth c s₁ B hml hv
  obtain ⟨rfl, hS, hP⟩ := hv
  have E := e_enter (own := RX8) (ret := (some FieldType.int)) B hml rfl hS hP
  have J : e_J G s h s.heap [] := ⟨hP, va_S.rf⟩
  have hl := lv_entry ([.ref (e_ad G l0), .int l1, .int l2]) (n := 4) (Nat.le_of_ble_eq_true rfl)
  rw [lg_entry_eq]
  generalize (lg_sl ([.ref (e_ad G l0), .int l1, .int l2]) ++ List.replicate (4 - (lg_sl ([.ref (e_ad G l0), .int l1, .int l2])).length) Slot.unset).toArray = ls at hl ⊢
  have hl : lv_has ls 4 [(0, .ref (e_ad G l0)), (1, .int l1), (2, .int l2)] := hl
  obtain ⟨hx, hb, hr, hml, hown, hts, hlocks, hES, hbs⟩ := id E
  unfold fX8_on at hM
  obtain ⟨fs_, hk_, hM⟩ := e_bs hM
  refine lv_aload_n hx hb dX8_on_0 rfl (lv_at hl 0 rfl) ?_
  obtain ⟨v1, hv, hM⟩ := e_bs hM
  refine e_getR (C := RX8) (T := TX8) (N := 10) E J hv rfl inX8 (by decide) q_1_199 dX8_on_1 ?_
  rcases v1 with _ | a2
  · have hM := e_on0 hM
    refine W.eq (g2 := F0 m 4 ls [.null]) rfl ?_
    refine lv_iload_n hx hb dX8_on_4 rfl (lv_at hl 1 rfl) ?_
    exact e_no hM
  · have hM := e_on1 hM
    refine W.eq (g2 := F0 m 4 ls [.ref (e_ad G a2)]) rfl ?_
    refine lv_iload_n hx hb dX8_on_4 rfl (lv_at hl 1 rfl) ?_
    obtain ⟨v3, hv, hM⟩ := e_bs hM
    obtain ⟨fs_, hk, -⟩ := e_bs hv
    refine e_callV (ci := 7) (As := [.int l1]) (rest := []) (n := 1) E J hk rfl (mX7_curveOf (l := l) (G := G) a2 l1 h _ hv) q_2_14 q_2_15 q_2_16 q_1_2 q_2_17 (by decide +kernel) rfl ⟨Nat.le_of_ble_eq_true rfl, Nat.le_of_ble_eq_true rfl⟩ (st0 := [.int l1, .ref (e_ad G a2)]) (st1 := [e_r G v3]) rfl rfl hl.1 (Nat.le_of_ble_eq_true rfl) dX8_on_5 ⟨Nat.le_refl _, Nat.le_refl _⟩ (fun H locs J => ?_)
    rcases v3 with _ | a4
    · have hM := e_on0 hM
      refine W.eq (g2 := F0 m 8 ls [.null]) rfl ?_
      refine lv_astore_nN (lv' := [(3, .null), (0, .ref (e_ad G l0)), (1, .int l1), (2, .int l2)]) hx hb dX8_on_8 rfl hl (by decide) rfl (fun ls hl => ?_)
      refine lv_aload_nN hx hb dX8_on_9 rfl (lv_at hl 0 rfl) ?_
      refine lv_ifnullN (tgt := 17) hx hb dX8_on_10 (by decide) ?_
      refine lv_ldc (v := -1000000001) hx hb hown (hts _ q_1_237) dX8_on_17 ?_
      obtain rfl := e_so hM
      exact e_iret E J dX8_on_19
    · have hM := e_on1 hM
      refine W.eq (g2 := F0 m 8 ls [.ref (e_ad G a4)]) rfl ?_
      refine lv_astore_n (lv' := [(3, .ref (e_ad G a4)), (0, .ref (e_ad G l0)), (1, .int l1), (2, .int l2)]) hx hb dX8_on_8 rfl hl (by decide) rfl (fun ls hl => ?_)
      refine lv_aload_n hx hb dX8_on_9 rfl (lv_at hl 0 rfl) ?_
      refine lv_ifnull hx hb dX8_on_10 ?_
      refine lv_iload_n hx hb dX8_on_13 rfl (lv_at hl 3 rfl) ?_
      refine lv_if_ge (tgt := 20) hx hb dX8_on_14 (by decide) (fun hc => ?_) (fun hc => ?_)
      · have hM := e_ip hc hM
        refine lv_aload_n hx hb dX8_on_20 rfl (lv_at hl 1 rfl) ?_
        obtain ⟨v5, hv, hM⟩ := e_bs hM
        refine e_getR (C := RX8) (T := TX8) (N := 10) E J hv rfl inX8 (by decide) q_1_201 dX8_on_21 ?_
        rcases v5 with _ | a6
        · have hM := e_on0 hM
          refine W.eq (g2 := F0 m 24 ls [.null]) rfl ?_
          refine lv_aload_n hx hb dX8_on_24 rfl (lv_at hl 0 rfl) ?_
          exact e_no hM
        · have hM := e_on1 hM
          refine W.eq (g2 := F0 m 24 ls [.ref (e_ad G a6)]) rfl ?_
          refine lv_aload_n hx hb dX8_on_24 rfl (lv_at hl 0 rfl) ?_
          obtain ⟨h7, hv, hM⟩ := e_bs hM
          obtain ⟨fs_, hk, -⟩ := e_bs hv
          refine e_callV (ci := 6) (As := [.ref (e_ad G a4)]) (rest := []) (n := 1) E J hk rfl (mX6_walk (l := l) (G := G) a6 a4 h _ hv) q_3_85 q_3_86 q_3_87 q_1_4 q_3_88 (by decide +kernel) rfl ⟨Nat.le_of_ble_eq_true rfl, Nat.le_of_ble_eq_true rfl⟩ (st0 := [.ref (e_ad G a4), .ref (e_ad G a6)]) (st1 := []) rfl rfl hl.1 (Nat.le_of_ble_eq_true rfl) dX8_on_25 ⟨Nat.le_refl _, Nat.le_refl _⟩ (fun H locs J => ?_)
          refine lv_aload_n hx hb dX8_on_28 rfl (lv_at hl 1 rfl) ?_
          obtain ⟨v8, hv, hM⟩ := e_bs hM
          refine e_getR (C := RX8) (T := TX8) (N := 10) E J hv rfl inX8 (by decide) q_1_201 dX8_on_29 ?_
          rcases v8 with _ | a9
          · have hM := e_on0 hM
            refine W.eq (g2 := F0 m 32 ls [.null]) rfl ?_
            refine lv_iload_n hx hb dX8_on_32 rfl (lv_at hl 3 rfl) ?_
            exact e_no hM
          · have hM := e_on1 hM
            refine W.eq (g2 := F0 m 32 ls [.ref (e_ad G a9)]) rfl ?_
            refine lv_iload_n hx hb dX8_on_32 rfl (lv_at hl 3 rfl) ?_
            obtain ⟨v10, hv, hM⟩ := e_bs hM
            obtain ⟨fs_, hk, -⟩ := e_bs hv
            refine e_callV (ci := 6) (As := [.int l2]) (rest := []) (n := 1) E J hk rfl (mX6_placeOn (l := l) (G := G) a9 l2 h7 _ hv) q_3_105 q_3_106 q_3_107 q_1_4 q_3_108 (by decide +kernel) rfl ⟨Nat.le_of_ble_eq_true rfl, Nat.le_of_ble_eq_true rfl⟩ (st0 := [.int l2, .ref (e_ad G a9)]) (st1 := [.int v10]) rfl rfl hl.1 (Nat.le_of_ble_eq_true rfl) dX8_on_33 ⟨Nat.le_refl _, Nat.le_refl _⟩ (fun H locs J => ?_)
            obtain rfl := e_so hM
            exact e_iret E J dX8_on_36
      · have hM := e_in hc hM
        refine lv_ldc (v := -1000000001) hx hb hown (hts _ q_1_237) dX8_on_17 ?_
        obtain rfl := e_so hM
        exact e_iret E J dX8_on_19
set_option maxRecDepth 100000 in
set_option maxHeartbeats 4000000 in
theorem mX6_belongsOfKnots_b49 {p : Program} {l : Launch} {e : Env} {s : State} {m : MethodId} {args : Array Value} {below : List Frame} {meth : Method} {c : Code} {G : e_G} {res : (Int32 × e_H)} {k6 : Nat → Int32 → e_H → Option (Int32 × e_H)} (E : e_M G p s args m meth c cX6_belongsOfKnots 2 (some FieldType.int) RX6) (K6 : ∀ (l0 : Nat) (l1 : Int32) (h : e_H), k6 l0 l1 h = some res → ∀ (H : Heap) (locs : List Loc), e_J G s h H locs → ∀ (ls : Array Slot), lv_has ls 2 [(0, .ref (e_ad G l0)), (1, .int l1)] → W p l e (e_rm 105 4126) s m args below meth c H locs 0 0 (MQ below (e_Q G res.2 (some (.int res.1))) args s 0 0 (e_A G)) (F0 m 6 ls [])) (l0 : Nat) (l1 : Int32) (h : e_H) (hM : fX6_belongsOfKnots_b49 k6 l0 l1 h = some res) {H : Heap} {locs : List Loc} (J : e_J G s h H locs) {ls : Array Slot} (hl : lv_has ls 2 [(0, .ref (e_ad G l0)), (1, .int l1)]) : W p l e (e_rm 105 4126) s m args below meth c H locs 0 0 (MQ below (e_Q G res.2 (some (.int res.1))) args s 0 0 (e_A G)) (F0 m 49 ls []) := by
  obtain ⟨hx, hb, hr, hml, hown, hts, hlocks, hES, hbs⟩ := id E
  unfold fX6_belongsOfKnots_b49 at hM
  refine lv_iinc (v := (l1 + (nI 1))) (lv' := [(1, .int (l1 + (nI 1))), (0, .ref (e_ad G l0))]) hx hb dX6_belongsOfKnots_49 hl (k := 1) rfl rfl (by decide) rfl (fun ls hl => ?_)
  refine lv_goto (tgt := 6) hx hb dX6_belongsOfKnots_52 (by decide) ?_
  exact K6 l0 (l1 + (nI 1)) h hM _ _ J _ (lv_sub hl [1, 0] rfl)
set_option maxRecDepth 100000 in
set_option maxHeartbeats 4000000 in
theorem mX6_belongsOfKnots_b6 {p : Program} {l : Launch} {e : Env} {s : State} {m : MethodId} {args : Array Value} {below : List Frame} {meth : Method} {c : Code} {G : e_G} {res : (Int32 × e_H)} {k6 : Nat → Int32 → e_H → Option (Int32 × e_H)} (E : e_M G p s args m meth c cX6_belongsOfKnots 2 (some FieldType.int) RX6) (K6 : ∀ (l0 : Nat) (l1 : Int32) (h : e_H), k6 l0 l1 h = some res → ∀ (H : Heap) (locs : List Loc), e_J G s h H locs → ∀ (ls : Array Slot), lv_has ls 2 [(0, .ref (e_ad G l0)), (1, .int l1)] → W p l e (e_rm 105 4126) s m args below meth c H locs 0 0 (MQ below (e_Q G res.2 (some (.int res.1))) args s 0 0 (e_A G)) (F0 m 6 ls [])) (l0 : Nat) (l1 : Int32) (h : e_H) (hM : fX6_belongsOfKnots_b6 k6 l0 l1 h = some res) {H : Heap} {locs : List Loc} (J : e_J G s h H locs) {ls : Array Slot} (hl : lv_has ls 2 [(0, .ref (e_ad G l0)), (1, .int l1)]) : W p l e (e_rm 105 4126) s m args below meth c H locs 0 0 (MQ below (e_Q G res.2 (some (.int res.1))) args s 0 0 (e_A G)) (F0 m 6 ls []) := by
  obtain ⟨hx, hb, hr, hml, hown, hts, hlocks, hES, hbs⟩ := id E
  unfold fX6_belongsOfKnots_b6 at hM
  refine lv_iload_n hx hb dX6_belongsOfKnots_6 rfl (lv_at hl 1 rfl) ?_
  refine lv_aload_n hx hb dX6_belongsOfKnots_7 rfl (lv_at hl 0 rfl) ?_
  obtain ⟨v1, hv, hM⟩ := e_bs hM
  refine e_getR (C := RX6) (T := TX6) (N := 9) E J hv rfl inX6 (by decide) q_1_99 dX6_belongsOfKnots_8 ?_
  rcases v1 with _ | a2
  · have hM := e_on0 hM
    refine W.eq (g2 := F0 m 11 ls [.null, .int l1]) rfl ?_
    exact e_no hM
  · have hM := e_on1 hM
    refine W.eq (g2 := F0 m 11 ls [.ref (e_ad G a2), .int l1]) rfl ?_
    obtain ⟨v3, hv, hM⟩ := e_bs hM
    refine e_alen E J hv rfl rfl dX6_belongsOfKnots_11 ?_
    refine lv_icmp_ge (tgt := 55) hx hb dX6_belongsOfKnots_12 (by decide) (fun hc => ?_) (fun hc => ?_)
    · have hM := e_ip hc hM
      refine lv_aload_n hx hb dX6_belongsOfKnots_55 rfl (lv_at hl 0 rfl) ?_
      obtain ⟨v4, hv, hM⟩ := e_bs hM
      refine e_getI (C := RX6) (T := TX6) (N := 9) E J hv rfl inX6 (by decide) q_1_93 dX6_belongsOfKnots_56 ?_
      obtain rfl := e_so hM
      exact e_iret E J dX6_belongsOfKnots_59
    · have hM := e_in hc hM
      refine lv_aload_n hx hb dX6_belongsOfKnots_15 rfl (lv_at hl 0 rfl) ?_
      obtain ⟨v5, hv, hM⟩ := e_bs hM
      refine e_getR (C := RX6) (T := TX6) (N := 9) E J hv rfl inX6 (by decide) q_1_99 dX6_belongsOfKnots_16 ?_
      rcases v5 with _ | a6
      · have hM := e_on0 hM
        refine W.eq (g2 := F0 m 19 ls [.null]) rfl ?_
        refine lv_iload_n hx hb dX6_belongsOfKnots_19 rfl (lv_at hl 1 rfl) ?_
        exact e_no hM
      · have hM := e_on1 hM
        refine W.eq (g2 := F0 m 19 ls [.ref (e_ad G a6)]) rfl ?_
        refine lv_iload_n hx hb dX6_belongsOfKnots_19 rfl (lv_at hl 1 rfl) ?_
        obtain ⟨v7, hv, hM⟩ := e_bs hM
        refine e_iald E J hv dX6_belongsOfKnots_20 ?_
        refine lv_iconst (v := nI 2) hx hb dX6_belongsOfKnots_21 (by decide) ?_
        refine lv_icmp_lt (tgt := 49) hx hb dX6_belongsOfKnots_22 (by decide) (fun hc => ?_) (fun hc => ?_)
        · have hM := e_ip hc hM
          exact mX6_belongsOfKnots_b49 E K6 l0 l1 h hM J (lv_sub hl [0, 1] rfl)
        · have hM := e_in hc hM
          refine lv_aload_n hx hb dX6_belongsOfKnots_25 rfl (lv_at hl 0 rfl) ?_
          refine lv_iload_n hx hb dX6_belongsOfKnots_26 rfl (lv_at hl 1 rfl) ?_
          refine lv_bipush (v := nI 11) hx hb dX6_belongsOfKnots_27 (by decide) ?_
          refine lv_idiv hx hb dX6_belongsOfKnots_29 (by decide) ?_
          refine lv_iconst (v := nI 5) hx hb dX6_belongsOfKnots_30 (by decide) ?_
          refine lv_isub hx hb dX6_belongsOfKnots_31 ?_
          refine lv_iload_n hx hb dX6_belongsOfKnots_32 rfl (lv_at hl 1 rfl) ?_
          refine lv_bipush (v := nI 11) hx hb dX6_belongsOfKnots_33 (by decide) ?_
          refine lv_irem hx hb dX6_belongsOfKnots_35 (by decide) ?_
          refine lv_iconst (v := nI 5) hx hb dX6_belongsOfKnots_36 (by decide) ?_
          refine lv_isub hx hb dX6_belongsOfKnots_37 ?_
          obtain ⟨p8, hv, hM⟩ := e_bs hM
          obtain ⟨fs_, hk, -⟩ := e_bs hv
          refine e_callV (ci := 6) (As := [.int ((l1 / (nI 11)) - (nI 5)), .int ((l1 - l1 / (nI 11) * (nI 11)) - (nI 5))]) (rest := []) (n := 2) E J hk rfl (mX6_stand (l := l) (G := G) l0 ((l1 / (nI 11)) - (nI 5)) ((l1 - l1 / (nI 11) * (nI 11)) - (nI 5)) h _ hv) q_3_91 q_2_166 q_2_167 q_1_4 q_2_168 (by decide +kernel) rfl ⟨Nat.le_of_ble_eq_true rfl, Nat.le_of_ble_eq_true rfl⟩ (st0 := [.int ((l1 - l1 / (nI 11) * (nI 11)) - (nI 5)), .int ((l1 / (nI 11)) - (nI 5)), .ref (e_ad G l0)]) (st1 := [e_r G p8.1]) rfl rfl hl.1 (Nat.le_of_ble_eq_true rfl) dX6_belongsOfKnots_38 ⟨Nat.le_refl _, Nat.le_refl _⟩ (fun H locs J => ?_)
          obtain ⟨r9, hr9⟩ := p8
          rcases r9 with _ | a10
          · have hM := e_on0 hM
            refine W.eq (g2 := F0 m 41 ls [.null]) rfl ?_
            refine lv_pop hx hb dX6_belongsOfKnots_41 rfl ?_
            refine lv_aload_n hx hb dX6_belongsOfKnots_42 rfl (lv_at hl 0 rfl) ?_
            refine lv_iconst (v := nI 1) hx hb dX6_belongsOfKnots_43 (by decide) ?_
            refine lv_iconst (v := nI 3) hx hb dX6_belongsOfKnots_44 (by decide) ?_
            obtain ⟨p11, hv, hM⟩ := e_bs hM
            refine e_callS (As := [.ref (e_ad G l0), .int (nI 1), .int (nI 3)]) (rest := []) (n := 3) E J (mX6_grow (l := l) (G := G) l0 (nI 1) (nI 3) hr9 _ hv) q_3_35 q_3_36 q_1_4 q_3_37 (by decide +kernel) rfl ⟨Nat.le_of_ble_eq_true rfl, Nat.le_of_ble_eq_true rfl⟩ (st0 := [.int (nI 3), .int (nI 1), .ref (e_ad G l0)]) (st1 := [.int (e_b p11.1)]) rfl rfl hl.1 (Nat.le_of_ble_eq_true rfl) dX6_belongsOfKnots_45 ⟨Nat.le_refl _, Nat.le_refl _⟩ (fun H locs J => ?_)
            refine lv_pop hx hb dX6_belongsOfKnots_48 rfl ?_
            exact mX6_belongsOfKnots_b49 E K6 l0 l1 p11.2 hM J (lv_sub hl [0, 1] rfl)
          · have hM := e_on1 hM
            refine W.eq (g2 := F0 m 41 ls [.ref (e_ad G a10)]) rfl ?_
            refine lv_pop hx hb dX6_belongsOfKnots_41 rfl ?_
            refine lv_aload_n hx hb dX6_belongsOfKnots_42 rfl (lv_at hl 0 rfl) ?_
            refine lv_iconst (v := nI 1) hx hb dX6_belongsOfKnots_43 (by decide) ?_
            refine lv_iconst (v := nI 3) hx hb dX6_belongsOfKnots_44 (by decide) ?_
            obtain ⟨p12, hv, hM⟩ := e_bs hM
            refine e_callS (As := [.ref (e_ad G l0), .int (nI 1), .int (nI 3)]) (rest := []) (n := 3) E J (mX6_grow (l := l) (G := G) l0 (nI 1) (nI 3) hr9 _ hv) q_3_35 q_3_36 q_1_4 q_3_37 (by decide +kernel) rfl ⟨Nat.le_of_ble_eq_true rfl, Nat.le_of_ble_eq_true rfl⟩ (st0 := [.int (nI 3), .int (nI 1), .ref (e_ad G l0)]) (st1 := [.int (e_b p12.1)]) rfl rfl hl.1 (Nat.le_of_ble_eq_true rfl) dX6_belongsOfKnots_45 ⟨Nat.le_refl _, Nat.le_refl _⟩ (fun H locs J => ?_)
            refine lv_pop hx hb dX6_belongsOfKnots_48 rfl ?_
            exact mX6_belongsOfKnots_b49 E K6 l0 l1 p12.2 hM J (lv_sub hl [0, 1] rfl)
set_option maxRecDepth 100000 in
set_option maxHeartbeats 4000000 in
theorem mX6_LelongsOfKnots_L6 {p : Program} {l : Launch} {e : Env} {s : State} {m : MethodId} {args : Array Value} {below : List Frame} {meth : Method} {c : Code} {G : e_G} {res : (Int32 × e_H)} (E : e_M G p s args m meth c cX6_belongsOfKnots 2 (some FieldType.int) RX6) (n : Nat) (l0 : Nat) (l1 : Int32) (h : e_H) (hM : fX6_LelongsOfKnots_L6 n l0 l1 h = some res) {H : Heap} {locs : List Loc} (J : e_J G s h H locs) {ls : Array Slot} (hl : lv_has ls 2 [(0, .ref (e_ad G l0)), (1, .int l1)]) : W p l e (e_rm 105 4126) s m args below meth c H locs 0 0 (MQ below (e_Q G res.2 (some (.int res.1))) args s 0 0 (e_A G)) (F0 m 6 ls []) := by
  induction n generalizing l0 l1 h H locs ls with
  | zero => exact e_no hM
  | succ n ih => exact mX6_belongsOfKnots_b6 (k6 := (fX6_LelongsOfKnots_L6 n)) E   (fun l0 l1 h hM H locs J ls hl => ih l0 l1 h hM J hl) l0 l1 h hM J hl
set_option maxRecDepth 100000 in
set_option maxHeartbeats 4000000 in
theorem mX6_belongsOfKnots {l : Launch} {G : e_G} (l0 : Nat) (h : e_H) (res : (Int32 × e_H)) (hM : fX6_belongsOfKnots l0 h = some res) : Met l yX6_belongsOfKnots (e_W yX6_belongsOfKnots cX6_belongsOfKnots 2 (some FieldType.int)) (e_rm 105 4126) (e_Pc G h [.ref (e_ad G l0)]) (e_Q G res.2 (some (.int res.1))) 0 0 (e_A G) := by
  refine Met.ofW (cc := cX6_belongsOfKnots) (maxL := 2) (ret := (some FieldType.int)) (by decide) rfl ?_
  intro p e s m args below meth c s₁ B hml hv
  obtain ⟨rfl, hS, hP⟩ := hv
  have E := e_enter (own := RX6) (ret := (some FieldType.int)) B hml rfl hS hP
  have J : e_J G s h s.heap [] := ⟨hP, va_S.rf⟩
  have hl := lv_entry ([.ref (e_ad G l0)]) (n := 2) (Nat.le_of_ble_eq_true rfl)
  rw [lg_entry_eq]
  generalize (lg_sl ([.ref (e_ad G l0)]) ++ List.replicate (2 - (lg_sl ([.ref (e_ad G l0)])).length) Slot.unset).toArray = ls at hl ⊢
  have hl : lv_has ls 2 [(0, .ref (e_ad G l0))] := hl
  obtain ⟨hx, hb, hr, hml, hown, hts, hlocks, hES, hbs⟩ := id E
  unfold fX6_belongsOfKnots at hM
  obtain ⟨fs_, hk_, hM⟩ := e_bs hM
  refine lv_aload_n hx hb dX6_belongsOfKnots_0 rfl (lv_at hl 0 rfl) ?_
  obtain ⟨h1, hv, hM⟩ := e_bs hM
  obtain ⟨fs_, hk, -⟩ := e_bs hv
  refine e_callV (ci := 6) (As := []) (rest := []) (n := 0) E J hk rfl (mX6_clearTree (l := l) (G := G) l0 h _ hv) q_3_31 q_3_33 q_p_4 q_1_4 q_3_34 (by decide +kernel) rfl ⟨Nat.le_of_ble_eq_true rfl, Nat.le_of_ble_eq_true rfl⟩ (st0 := [.ref (e_ad G l0)]) (st1 := []) rfl rfl hl.1 (Nat.le_of_ble_eq_true rfl) dX6_belongsOfKnots_1 ⟨Nat.le_refl _, Nat.le_refl _⟩ (fun H locs J => ?_)
  refine lv_iconst (v := nI 0) hx hb dX6_belongsOfKnots_4 (by decide) ?_
  refine lv_istore_n (lv' := [(1, .int (nI 0)), (0, .ref (e_ad G l0))]) hx hb dX6_belongsOfKnots_5 rfl hl (by decide) rfl (fun ls hl => ?_)
  exact mX6_LelongsOfKnots_L6 E 200 l0 (nI 0) h1 hM J (lv_sub hl [1, 0] rfl)
set_option maxRecDepth 100000 in
set_option maxHeartbeats 4000000 in
theorem mX8_genus {l : Launch} {G : e_G} (l0 : Nat) (l1 : Int32) (h : e_H) (res : (Int32 × e_H)) (hM : fX8_genus l0 l1 h = some res) : Met l yX8_genus (e_W yX8_genus cX8_genus 4 (some FieldType.int)) (e_rm 106 4147) (e_Pc G h [.ref (e_ad G l0), .int l1]) (e_Q G res.2 (some (.int res.1))) 0 0 (e_A G) := by
  refine Met.ofW (cc := cX8_genus) (maxL := 4) (ret := (some FieldType.int)) (by decide) rfl ?_
  intro p e s m args below meth c s₁ B hml hv
  obtain ⟨rfl, hS, hP⟩ := hv
  have E := e_enter (own := RX8) (ret := (some FieldType.int)) B hml rfl hS hP
  have J : e_J G s h s.heap [] := ⟨hP, va_S.rf⟩
  have hl := lv_entry ([.ref (e_ad G l0), .int l1]) (n := 4) (Nat.le_of_ble_eq_true rfl)
  rw [lg_entry_eq]
  generalize (lg_sl ([.ref (e_ad G l0), .int l1]) ++ List.replicate (4 - (lg_sl ([.ref (e_ad G l0), .int l1])).length) Slot.unset).toArray = ls at hl ⊢
  have hl : lv_has ls 4 [(0, .ref (e_ad G l0)), (1, .int l1)] := hl
  obtain ⟨hx, hb, hr, hml, hown, hts, hlocks, hES, hbs⟩ := id E
  unfold fX8_genus at hM
  obtain ⟨fs_, hk_, hM⟩ := e_bs hM
  refine lv_aload_n hx hb dX8_genus_0 rfl (lv_at hl 0 rfl) ?_
  obtain ⟨v1, hv, hM⟩ := e_bs hM
  refine e_getR (C := RX8) (T := TX8) (N := 10) E J hv rfl inX8 (by decide) q_1_199 dX8_genus_1 ?_
  rcases v1 with _ | a2
  · have hM := e_on0 hM
    refine W.eq (g2 := F0 m 4 ls [.null]) rfl ?_
    refine lv_iload_n hx hb dX8_genus_4 rfl (lv_at hl 1 rfl) ?_
    exact e_no hM
  · have hM := e_on1 hM
    refine W.eq (g2 := F0 m 4 ls [.ref (e_ad G a2)]) rfl ?_
    refine lv_iload_n hx hb dX8_genus_4 rfl (lv_at hl 1 rfl) ?_
    obtain ⟨v3, hv, hM⟩ := e_bs hM
    obtain ⟨fs_, hk, -⟩ := e_bs hv
    refine e_callV (ci := 7) (As := [.int l1]) (rest := []) (n := 1) E J hk rfl (mX7_curveOf (l := l) (G := G) a2 l1 h _ hv) q_2_14 q_2_15 q_2_16 q_1_2 q_2_17 (by decide +kernel) rfl ⟨Nat.le_of_ble_eq_true rfl, Nat.le_of_ble_eq_true rfl⟩ (st0 := [.int l1, .ref (e_ad G a2)]) (st1 := [e_r G v3]) rfl rfl hl.1 (Nat.le_of_ble_eq_true rfl) dX8_genus_5 ⟨Nat.le_refl _, Nat.le_refl _⟩ (fun H locs J => ?_)
    rcases v3 with _ | a4
    · have hM := e_on0 hM
      refine W.eq (g2 := F0 m 8 ls [.null]) rfl ?_
      refine lv_astore_nN (lv' := [(2, .null), (0, .ref (e_ad G l0)), (1, .int l1)]) hx hb dX8_genus_8 rfl hl (by decide) rfl (fun ls hl => ?_)
      refine lv_aload_nN hx hb dX8_genus_9 rfl (lv_at hl 0 rfl) ?_
      refine lv_ifnonnullN hx hb dX8_genus_10 ?_
      refine lv_ldc (v := -1000000001) hx hb hown (hts _ q_1_237) dX8_genus_13 ?_
      obtain rfl := e_so hM
      exact e_iret E J dX8_genus_15
    · have hM := e_on1 hM
      refine W.eq (g2 := F0 m 8 ls [.ref (e_ad G a4)]) rfl ?_
      refine lv_astore_n (lv' := [(2, .ref (e_ad G a4)), (0, .ref (e_ad G l0)), (1, .int l1)]) hx hb dX8_genus_8 rfl hl (by decide) rfl (fun ls hl => ?_)
      refine lv_aload_n hx hb dX8_genus_9 rfl (lv_at hl 0 rfl) ?_
      refine lv_ifnonnull (tgt := 16) hx hb dX8_genus_10 (by decide) ?_
      refine lv_aload_n hx hb dX8_genus_16 rfl (lv_at hl 1 rfl) ?_
      obtain ⟨v5, hv, hM⟩ := e_bs hM
      refine e_getR (C := RX8) (T := TX8) (N := 10) E J hv rfl inX8 (by decide) q_1_201 dX8_genus_17 ?_
      rcases v5 with _ | a6
      · have hM := e_on0 hM
        refine W.eq (g2 := F0 m 20 ls [.null]) rfl ?_
        refine lv_aload_n hx hb dX8_genus_20 rfl (lv_at hl 0 rfl) ?_
        exact e_no hM
      · have hM := e_on1 hM
        refine W.eq (g2 := F0 m 20 ls [.ref (e_ad G a6)]) rfl ?_
        refine lv_aload_n hx hb dX8_genus_20 rfl (lv_at hl 0 rfl) ?_
        obtain ⟨h7, hv, hM⟩ := e_bs hM
        obtain ⟨fs_, hk, -⟩ := e_bs hv
        refine e_callV (ci := 6) (As := [.ref (e_ad G a4)]) (rest := []) (n := 1) E J hk rfl (mX6_walk (l := l) (G := G) a6 a4 h _ hv) q_3_85 q_3_86 q_3_87 q_1_4 q_3_88 (by decide +kernel) rfl ⟨Nat.le_of_ble_eq_true rfl, Nat.le_of_ble_eq_true rfl⟩ (st0 := [.ref (e_ad G a4), .ref (e_ad G a6)]) (st1 := []) rfl rfl hl.1 (Nat.le_of_ble_eq_true rfl) dX8_genus_21 ⟨Nat.le_refl _, Nat.le_refl _⟩ (fun H locs J => ?_)
        refine lv_aload_n hx hb dX8_genus_24 rfl (lv_at hl 1 rfl) ?_
        obtain ⟨v8, hv, hM⟩ := e_bs hM
        refine e_getR (C := RX8) (T := TX8) (N := 10) E J hv rfl inX8 (by decide) q_1_201 dX8_genus_25 ?_
        rcases v8 with _ | a9
        · have hM := e_on0 hM
          refine W.eq (g2 := F0 m 28 ls [.null]) rfl ?_
          exact e_no hM
        · have hM := e_on1 hM
          refine W.eq (g2 := F0 m 28 ls [.ref (e_ad G a9)]) rfl ?_
          obtain ⟨v10, hv, hM⟩ := e_bs hM
          obtain ⟨fs_, hk, -⟩ := e_bs hv
          refine e_callV (ci := 6) (As := []) (rest := []) (n := 0) E J hk rfl (mX6_degree (l := l) (G := G) a9 h7 _ hv) q_2_104 q_2_105 q_2_106 q_1_4 q_2_107 (by decide +kernel) rfl ⟨Nat.le_of_ble_eq_true rfl, Nat.le_of_ble_eq_true rfl⟩ (st0 := [.ref (e_ad G a9)]) (st1 := [.int v10]) rfl rfl hl.1 (Nat.le_of_ble_eq_true rfl) dX8_genus_28 ⟨Nat.le_refl _, Nat.le_refl _⟩ (fun H locs J => ?_)
          refine lv_istore_n (lv' := [(3, .int v10), (2, .ref (e_ad G a4)), (0, .ref (e_ad G l0)), (1, .int l1)]) hx hb dX8_genus_31 rfl hl (by decide) rfl (fun ls hl => ?_)
          refine lv_iload_n hx hb dX8_genus_32 rfl (lv_at hl 0 rfl) ?_
          refine lv_if_ge (tgt := 41) hx hb dX8_genus_33 (by decide) (fun hc => ?_) (fun hc => ?_)
          · have hM := e_ip hc hM
            refine lv_iload_n hx hb dX8_genus_41 rfl (lv_at hl 0 rfl) ?_
            refine lv_iconst (v := nI 1) hx hb dX8_genus_42 (by decide) ?_
            refine lv_isub hx hb dX8_genus_43 ?_
            refine lv_iload_n hx hb dX8_genus_44 rfl (lv_at hl 0 rfl) ?_
            refine lv_iconst (v := nI 2) hx hb dX8_genus_45 (by decide) ?_
            refine lv_isub hx hb dX8_genus_46 ?_
            refine lv_imul hx hb dX8_genus_47 ?_
            refine lv_iconst (v := nI 2) hx hb dX8_genus_48 (by decide) ?_
            refine lv_idiv hx hb dX8_genus_49 (by decide) ?_
            refine lv_aload_n hx hb dX8_genus_50 rfl (lv_at hl 2 rfl) ?_
            obtain ⟨v11, hv, hM⟩ := e_bs hM
            refine e_getR (C := RX8) (T := TX8) (N := 10) E J hv rfl inX8 (by decide) q_1_201 dX8_genus_51 ?_
            rcases v11 with _ | a12
            · have hM := e_on0 hM
              refine W.eq (g2 := F0 m 54 ls [.null, .int (((v10 - (nI 1)) * (v10 - (nI 2))) / (nI 2))]) rfl ?_
              exact e_no hM
            · have hM := e_on1 hM
              refine W.eq (g2 := F0 m 54 ls [.ref (e_ad G a12), .int (((v10 - (nI 1)) * (v10 - (nI 2))) / (nI 2))]) rfl ?_
              obtain ⟨p13, hv, hM⟩ := e_bs hM
              obtain ⟨fs_, hk, -⟩ := e_bs hv
              refine e_callV (ci := 6) (As := []) (rest := [.int (((v10 - (nI 1)) * (v10 - (nI 2))) / (nI 2))]) (n := 0) E J hk rfl (mX6_belongsOfKnots (l := l) (G := G) a12 h7 _ hv) q_3_117 q_3_118 q_3_119 q_1_4 q_3_120 (by decide +kernel) rfl ⟨Nat.le_of_ble_eq_true rfl, Nat.le_of_ble_eq_true rfl⟩ (st0 := [.ref (e_ad G a12), .int (((v10 - (nI 1)) * (v10 - (nI 2))) / (nI 2))]) (st1 := [.int p13.1, .int (((v10 - (nI 1)) * (v10 - (nI 2))) / (nI 2))]) rfl rfl hl.1 (Nat.le_of_ble_eq_true rfl) dX8_genus_54 ⟨Nat.le_refl _, Nat.le_refl _⟩ (fun H locs J => ?_)
              refine lv_isub hx hb dX8_genus_57 ?_
              obtain rfl := e_so hM
              exact e_iret E J dX8_genus_58
          · have hM := e_in hc hM
            refine lv_ldc (v := -1000000002) hx hb hown (hts _ q_2_230) dX8_genus_36 ?_
            refine lv_goto (tgt := 58) hx hb dX8_genus_38 (by decide) ?_
            obtain rfl := e_so hM
            exact e_iret E J dX8_genus_58
set_option maxRecDepth 100000 in
set_option maxHeartbeats 4000000 in
theorem mX6_setAside {l : Launch} {G : e_G} (l0 : Nat) (h : e_H) (res : e_H) (hM : fX6_setAside l0 h = some res) : Met l yX6_setAside (e_W yX6_setAside cX6_setAside 1 none) (e_rm 1 80) (e_Pc G h [.ref (e_ad G l0)]) (e_Q G res (none)) 0 0 (e_A G) := by
  refine Met.ofW (cc := cX6_setAside) (maxL := 1) (ret := none) (by decide) rfl ?_
  intro p e s m args below meth c s₁ B hml hv
  obtain ⟨rfl, hS, hP⟩ := hv
  have E := e_enter (own := RX6) (ret := none) B hml rfl hS hP
  have J : e_J G s h s.heap [] := ⟨hP, va_S.rf⟩
  have hl := lv_entry ([.ref (e_ad G l0)]) (n := 1) (Nat.le_of_ble_eq_true rfl)
  rw [lg_entry_eq]
  generalize (lg_sl ([.ref (e_ad G l0)]) ++ List.replicate (1 - (lg_sl ([.ref (e_ad G l0)])).length) Slot.unset).toArray = ls at hl ⊢
  have hl : lv_has ls 1 [(0, .ref (e_ad G l0))] := hl
  obtain ⟨hx, hb, hr, hml, hown, hts, hlocks, hES, hbs⟩ := id E
  unfold fX6_setAside at hM
  obtain ⟨fs_, hk_, hM⟩ := e_bs hM
  refine lv_aload_n hx hb dX6_setAside_0 rfl (lv_at hl 0 rfl) ?_
  obtain ⟨v1, hv, hM⟩ := e_bs hM
  refine e_getR (C := RX6) (T := TX6) (N := 9) E J hv rfl inX6 (by decide) q_1_99 dX6_setAside_1 ?_
  rcases v1 with _ | a2
  · have hM := e_on0 hM
    refine W.eq (g2 := F0 m 4 ls [.null]) rfl ?_
    refine lv_iconst (v := nI 0) hx hb dX6_setAside_4 (by decide) ?_
    refine lv_aload_n hx hb dX6_setAside_5 rfl (lv_at hl 0 rfl) ?_
    obtain ⟨v3, hv, hM⟩ := e_bs hM
    refine e_getR (C := RX6) (T := TX6) (N := 9) E J hv rfl inX6 (by decide) q_1_100 dX6_setAside_6 ?_
    rcases v3 with _ | a4
    · have hM := e_on0 hM
      refine W.eq (g2 := F0 m 9 ls [.null, .int (nI 0), .null]) rfl ?_
      refine lv_iconst (v := nI 0) hx hb dX6_setAside_9 (by decide) ?_
      refine lv_bipush (v := nI 121) hx hb dX6_setAside_10 (by decide) ?_
      exact e_no hM
    · have hM := e_on1 hM
      refine W.eq (g2 := F0 m 9 ls [.ref (e_ad G a4), .int (nI 0), .null]) rfl ?_
      refine lv_iconst (v := nI 0) hx hb dX6_setAside_9 (by decide) ?_
      refine lv_bipush (v := nI 121) hx hb dX6_setAside_10 (by decide) ?_
      exact e_no hM
  · have hM := e_on1 hM
    refine W.eq (g2 := F0 m 4 ls [.ref (e_ad G a2)]) rfl ?_
    refine lv_iconst (v := nI 0) hx hb dX6_setAside_4 (by decide) ?_
    refine lv_aload_n hx hb dX6_setAside_5 rfl (lv_at hl 0 rfl) ?_
    obtain ⟨v5, hv, hM⟩ := e_bs hM
    refine e_getR (C := RX6) (T := TX6) (N := 9) E J hv rfl inX6 (by decide) q_1_100 dX6_setAside_6 ?_
    rcases v5 with _ | a6
    · have hM := e_on0 hM
      refine W.eq (g2 := F0 m 9 ls [.null, .int (nI 0), .ref (e_ad G a2)]) rfl ?_
      refine lv_iconst (v := nI 0) hx hb dX6_setAside_9 (by decide) ?_
      refine lv_bipush (v := nI 121) hx hb dX6_setAside_10 (by decide) ?_
      exact e_no hM
    · have hM := e_on1 hM
      refine W.eq (g2 := F0 m 9 ls [.ref (e_ad G a6), .int (nI 0), .ref (e_ad G a2)]) rfl ?_
      refine lv_iconst (v := nI 0) hx hb dX6_setAside_9 (by decide) ?_
      refine lv_bipush (v := nI 121) hx hb dX6_setAside_10 (by decide) ?_
      obtain ⟨h7, hv, hM⟩ := e_bs hM
      refine e_copy E J hv q_3_129 q_3_131 q_3_130 q_1_13 hl.1 (Nat.le_of_ble_eq_true rfl) (Nat.le_of_ble_eq_true rfl) dX6_setAside_12 (fun H locs J => ?_)
      obtain rfl := e_so hM
      exact e_vret E J dX6_setAside_15
set_option maxRecDepth 100000 in
set_option maxHeartbeats 4000000 in
theorem mX6_placesOnBoth_b33 {p : Program} {l : Launch} {e : Env} {s : State} {m : MethodId} {args : Array Value} {below : List Frame} {meth : Method} {c : Code} {G : e_G} {res : Int32} {k4 : Nat → Int32 → Int32 → Option Int32} (E : e_M G p s args m meth c cX6_placesOnBoth 3 (some FieldType.int) RX6) (h : e_H) (K4 : ∀ (l0 : Nat) (l1 : Int32) (l2 : Int32), k4 l0 l1 l2 = some res → ∀ (H : Heap) (locs : List Loc), e_J G s h H locs → ∀ (ls : Array Slot), lv_has ls 3 [(0, .ref (e_ad G l0)), (1, .int l1), (2, .int l2)] → W p l e (e_rm 0 0) s m args below meth c H locs 0 0 (MQ below (e_Q G h (some (.int res))) args s 0 0 (e_A G)) (F0 m 4 ls [])) (l0 : Nat) (l1 : Int32) (l2 : Int32) (hM : fX6_placesOnBoth_b33 h k4 l0 l1 l2 = some res) {H : Heap} {locs : List Loc} (J : e_J G s h H locs) {ls : Array Slot} (hl : lv_has ls 3 [(0, .ref (e_ad G l0)), (1, .int l1), (2, .int l2)]) : W p l e (e_rm 0 0) s m args below meth c H locs 0 0 (MQ below (e_Q G h (some (.int res))) args s 0 0 (e_A G)) (F0 m 33 ls []) := by
  obtain ⟨hx, hb, hr, hml, hown, hts, hlocks, hES, hbs⟩ := id E
  unfold fX6_placesOnBoth_b33 at hM
  refine lv_iinc (v := (l2 + (nI 1))) (lv' := [(2, .int (l2 + (nI 1))), (0, .ref (e_ad G l0)), (1, .int l1)]) hx hb dX6_placesOnBoth_33 hl (k := 2) rfl rfl (by decide) rfl (fun ls hl => ?_)
  refine lv_goto (tgt := 4) hx hb dX6_placesOnBoth_36 (by decide) ?_
  exact K4 l0 l1 (l2 + (nI 1)) hM _ _ J _ (lv_sub hl [1, 2, 0] rfl)
set_option maxRecDepth 100000 in
set_option maxHeartbeats 4000000 in
theorem mX6_placesOnBoth_b4 {p : Program} {l : Launch} {e : Env} {s : State} {m : MethodId} {args : Array Value} {below : List Frame} {meth : Method} {c : Code} {G : e_G} {res : Int32} {k4 : Nat → Int32 → Int32 → Option Int32} (E : e_M G p s args m meth c cX6_placesOnBoth 3 (some FieldType.int) RX6) (h : e_H) (K4 : ∀ (l0 : Nat) (l1 : Int32) (l2 : Int32), k4 l0 l1 l2 = some res → ∀ (H : Heap) (locs : List Loc), e_J G s h H locs → ∀ (ls : Array Slot), lv_has ls 3 [(0, .ref (e_ad G l0)), (1, .int l1), (2, .int l2)] → W p l e (e_rm 0 0) s m args below meth c H locs 0 0 (MQ below (e_Q G h (some (.int res))) args s 0 0 (e_A G)) (F0 m 4 ls [])) (l0 : Nat) (l1 : Int32) (l2 : Int32) (hM : fX6_placesOnBoth_b4 h k4 l0 l1 l2 = some res) {H : Heap} {locs : List Loc} (J : e_J G s h H locs) {ls : Array Slot} (hl : lv_has ls 3 [(0, .ref (e_ad G l0)), (1, .int l1), (2, .int l2)]) : W p l e (e_rm 0 0) s m args below meth c H locs 0 0 (MQ below (e_Q G h (some (.int res))) args s 0 0 (e_A G)) (F0 m 4 ls []) := by
  obtain ⟨hx, hb, hr, hml, hown, hts, hlocks, hES, hbs⟩ := id E
  unfold fX6_placesOnBoth_b4 at hM
  refine lv_iload_n hx hb dX6_placesOnBoth_4 rfl (lv_at hl 2 rfl) ?_
  refine lv_bipush (v := nI 121) hx hb dX6_placesOnBoth_5 (by decide) ?_
  refine lv_icmp_ge (tgt := 39) hx hb dX6_placesOnBoth_7 (by decide) (fun hc => ?_) (fun hc => ?_)
  · have hM := e_ip hc hM
    refine lv_iload_n hx hb dX6_placesOnBoth_39 rfl (lv_at hl 1 rfl) ?_
    obtain rfl := e_so hM
    exact e_iret E J dX6_placesOnBoth_40
  · have hM := e_in hc hM
    refine lv_aload_n hx hb dX6_placesOnBoth_10 rfl (lv_at hl 0 rfl) ?_
    obtain ⟨v1, hv, hM⟩ := e_bs hM
    refine e_getR (C := RX6) (T := TX6) (N := 9) E J hv rfl inX6 (by decide) q_1_99 dX6_placesOnBoth_11 ?_
    rcases v1 with _ | a2
    · have hM := e_on0 hM
      refine W.eq (g2 := F0 m 14 ls [.null]) rfl ?_
      refine lv_iload_n hx hb dX6_placesOnBoth_14 rfl (lv_at hl 2 rfl) ?_
      exact e_no hM
    · have hM := e_on1 hM
      refine W.eq (g2 := F0 m 14 ls [.ref (e_ad G a2)]) rfl ?_
      refine lv_iload_n hx hb dX6_placesOnBoth_14 rfl (lv_at hl 2 rfl) ?_
      obtain ⟨v3, hv, hM⟩ := e_bs hM
      refine e_iald E J hv dX6_placesOnBoth_15 ?_
      refine lv_iconst (v := nI 1) hx hb dX6_placesOnBoth_16 (by decide) ?_
      refine lv_icmp_lt (tgt := 33) hx hb dX6_placesOnBoth_17 (by decide) (fun hc => ?_) (fun hc => ?_)
      · have hM := e_ip hc hM
        exact mX6_placesOnBoth_b33 E h K4 l0 l1 l2 hM J (lv_sub hl [0, 1, 2] rfl)
      · have hM := e_in hc hM
        refine lv_aload_n hx hb dX6_placesOnBoth_20 rfl (lv_at hl 0 rfl) ?_
        obtain ⟨v4, hv, hM⟩ := e_bs hM
        refine e_getR (C := RX6) (T := TX6) (N := 9) E J hv rfl inX6 (by decide) q_1_100 dX6_placesOnBoth_21 ?_
        rcases v4 with _ | a5
        · have hM := e_on0 hM
          refine W.eq (g2 := F0 m 24 ls [.null]) rfl ?_
          refine lv_iload_n hx hb dX6_placesOnBoth_24 rfl (lv_at hl 2 rfl) ?_
          exact e_no hM
        · have hM := e_on1 hM
          refine W.eq (g2 := F0 m 24 ls [.ref (e_ad G a5)]) rfl ?_
          refine lv_iload_n hx hb dX6_placesOnBoth_24 rfl (lv_at hl 2 rfl) ?_
          obtain ⟨v6, hv, hM⟩ := e_bs hM
          refine e_iald E J hv dX6_placesOnBoth_25 ?_
          refine lv_iconst (v := nI 1) hx hb dX6_placesOnBoth_26 (by decide) ?_
          refine lv_icmp_lt (tgt := 33) hx hb dX6_placesOnBoth_27 (by decide) (fun hc => ?_) (fun hc => ?_)
          · have hM := e_ip hc hM
            exact mX6_placesOnBoth_b33 E h K4 l0 l1 l2 hM J (lv_sub hl [0, 1, 2] rfl)
          · have hM := e_in hc hM
            refine lv_iinc (v := (l1 + (nI 1))) (lv' := [(1, .int (l1 + (nI 1))), (0, .ref (e_ad G l0)), (2, .int l2)]) hx hb dX6_placesOnBoth_30 hl (k := 1) rfl rfl (by decide) rfl (fun ls hl => ?_)
            exact mX6_placesOnBoth_b33 E h K4 l0 (l1 + (nI 1)) l2 hM J (lv_sub hl [1, 0, 2] rfl)
set_option maxRecDepth 100000 in
set_option maxHeartbeats 4000000 in
theorem mX6_placesOnBoth_L4 {p : Program} {l : Launch} {e : Env} {s : State} {m : MethodId} {args : Array Value} {below : List Frame} {meth : Method} {c : Code} {G : e_G} {res : Int32} (E : e_M G p s args m meth c cX6_placesOnBoth 3 (some FieldType.int) RX6) (h : e_H) (n : Nat) (l0 : Nat) (l1 : Int32) (l2 : Int32) (hM : fX6_placesOnBoth_L4 h n l0 l1 l2 = some res) {H : Heap} {locs : List Loc} (J : e_J G s h H locs) {ls : Array Slot} (hl : lv_has ls 3 [(0, .ref (e_ad G l0)), (1, .int l1), (2, .int l2)]) : W p l e (e_rm 0 0) s m args below meth c H locs 0 0 (MQ below (e_Q G h (some (.int res))) args s 0 0 (e_A G)) (F0 m 4 ls []) := by
  induction n generalizing l0 l1 l2 H locs ls with
  | zero => exact e_no hM
  | succ n ih => exact mX6_placesOnBoth_b4 (k4 := (fX6_placesOnBoth_L4 h n)) E h  (fun l0 l1 l2 hM H locs J ls hl => ih l0 l1 l2 hM J hl) l0 l1 l2 hM J hl
set_option maxRecDepth 100000 in
set_option maxHeartbeats 4000000 in
theorem mX6_placesOnBoth {l : Launch} {G : e_G} (l0 : Nat) (h : e_H) (res : Int32) (hM : fX6_placesOnBoth l0 h = some res) : Met l yX6_placesOnBoth (e_W yX6_placesOnBoth cX6_placesOnBoth 3 (some FieldType.int)) (e_rm 0 0) (e_Pc G h [.ref (e_ad G l0)]) (e_Q G h (some (.int res))) 0 0 (e_A G) := by
  refine Met.ofW (cc := cX6_placesOnBoth) (maxL := 3) (ret := (some FieldType.int)) (by decide) rfl ?_
  intro p e s m args below meth c s₁ B hml hv
  obtain ⟨rfl, hS, hP⟩ := hv
  have E := e_enter (own := RX6) (ret := (some FieldType.int)) B hml rfl hS hP
  have J : e_J G s h s.heap [] := ⟨hP, va_S.rf⟩
  have hl := lv_entry ([.ref (e_ad G l0)]) (n := 3) (Nat.le_of_ble_eq_true rfl)
  rw [lg_entry_eq]
  generalize (lg_sl ([.ref (e_ad G l0)]) ++ List.replicate (3 - (lg_sl ([.ref (e_ad G l0)])).length) Slot.unset).toArray = ls at hl ⊢
  have hl : lv_has ls 3 [(0, .ref (e_ad G l0))] := hl
  obtain ⟨hx, hb, hr, hml, hown, hts, hlocks, hES, hbs⟩ := id E
  unfold fX6_placesOnBoth at hM
  obtain ⟨fs_, hk_, hM⟩ := e_bs hM
  refine lv_iconst (v := nI 0) hx hb dX6_placesOnBoth_0 (by decide) ?_
  refine lv_istore_n (lv' := [(1, .int (nI 0)), (0, .ref (e_ad G l0))]) hx hb dX6_placesOnBoth_1 rfl hl (by decide) rfl (fun ls hl => ?_)
  refine lv_iconst (v := nI 0) hx hb dX6_placesOnBoth_2 (by decide) ?_
  refine lv_istore_n (lv' := [(2, .int (nI 0)), (1, .int (nI 0)), (0, .ref (e_ad G l0))]) hx hb dX6_placesOnBoth_3 rfl hl (by decide) rfl (fun ls hl => ?_)
  exact mX6_placesOnBoth_L4 E h 200 l0 (nI 0) (nI 0) hM J (lv_sub hl [2, 1, 0] rfl)
set_option maxRecDepth 100000 in
set_option maxHeartbeats 4000000 in
theorem mX8_both {l : Launch} {G : e_G} (l0 : Nat) (l1 : Int32) (l2 : Int32) (h : e_H) (res : (Int32 × e_H)) (hM : fX8_both l0 l1 l2 h = some res) : Met l yX8_both (e_W yX8_both cX8_both 5 (some FieldType.int)) (e_rm 6 148) (e_Pc G h [.ref (e_ad G l0), .int l1, .int l2]) (e_Q G res.2 (some (.int res.1))) 0 0 (e_A G) := by
  refine Met.ofW (cc := cX8_both) (maxL := 5) (ret := (some FieldType.int)) (by decide) rfl ?_
  intro p e s m args below meth c s₁ B hml hv
  obtain ⟨rfl, hS, hP⟩ := hv
  have E := e_enter (own := RX8) (ret := (some FieldType.int)) B hml rfl hS hP
  have J : e_J G s h s.heap [] := ⟨hP, va_S.rf⟩
  have hl := lv_entry ([.ref (e_ad G l0), .int l1, .int l2]) (n := 5) (Nat.le_of_ble_eq_true rfl)
  rw [lg_entry_eq]
  generalize (lg_sl ([.ref (e_ad G l0), .int l1, .int l2]) ++ List.replicate (5 - (lg_sl ([.ref (e_ad G l0), .int l1, .int l2])).length) Slot.unset).toArray = ls at hl ⊢
  have hl : lv_has ls 5 [(0, .ref (e_ad G l0)), (1, .int l1), (2, .int l2)] := hl
  obtain ⟨hx, hb, hr, hml, hown, hts, hlocks, hES, hbs⟩ := id E
  unfold fX8_both at hM
  obtain ⟨fs_, hk_, hM⟩ := e_bs hM
  refine lv_aload_n hx hb dX8_both_0 rfl (lv_at hl 0 rfl) ?_
  obtain ⟨v1, hv, hM⟩ := e_bs hM
  refine e_getR (C := RX8) (T := TX8) (N := 10) E J hv rfl inX8 (by decide) q_1_199 dX8_both_1 ?_
  rcases v1 with _ | a2
  · have hM := e_on0 hM
    refine W.eq (g2 := F0 m 4 ls [.null]) rfl ?_
    refine lv_iload_n hx hb dX8_both_4 rfl (lv_at hl 1 rfl) ?_
    exact e_no hM
  · have hM := e_on1 hM
    refine W.eq (g2 := F0 m 4 ls [.ref (e_ad G a2)]) rfl ?_
    refine lv_iload_n hx hb dX8_both_4 rfl (lv_at hl 1 rfl) ?_
    obtain ⟨v3, hv, hM⟩ := e_bs hM
    obtain ⟨fs_, hk, -⟩ := e_bs hv
    refine e_callV (ci := 7) (As := [.int l1]) (rest := []) (n := 1) E J hk rfl (mX7_curveOf (l := l) (G := G) a2 l1 h _ hv) q_2_14 q_2_15 q_2_16 q_1_2 q_2_17 (by decide +kernel) rfl ⟨Nat.le_of_ble_eq_true rfl, Nat.le_of_ble_eq_true rfl⟩ (st0 := [.int l1, .ref (e_ad G a2)]) (st1 := [e_r G v3]) rfl rfl hl.1 (Nat.le_of_ble_eq_true rfl) dX8_both_5 ⟨Nat.le_refl _, Nat.le_refl _⟩ (fun H locs J => ?_)
    rcases v3 with _ | a4
    · have hM := e_on0 hM
      refine W.eq (g2 := F0 m 8 ls [.null]) rfl ?_
      refine lv_astore_nN (lv' := [(3, .null), (0, .ref (e_ad G l0)), (1, .int l1), (2, .int l2)]) hx hb dX8_both_8 rfl hl (by decide) rfl (fun ls hl => ?_)
      refine lv_aload_n hx hb dX8_both_9 rfl (lv_at hl 1 rfl) ?_
      obtain ⟨v5, hv, hM⟩ := e_bs hM
      refine e_getR (C := RX8) (T := TX8) (N := 10) E J hv rfl inX8 (by decide) q_1_199 dX8_both_10 ?_
      rcases v5 with _ | a6
      · have hM := e_on0 hM
        refine W.eq (g2 := F0 m 13 ls [.null]) rfl ?_
        refine lv_iload_n hx hb dX8_both_13 rfl (lv_at hl 3 rfl) ?_
        exact e_no hM
      · have hM := e_on1 hM
        refine W.eq (g2 := F0 m 13 ls [.ref (e_ad G a6)]) rfl ?_
        refine lv_iload_n hx hb dX8_both_13 rfl (lv_at hl 3 rfl) ?_
        obtain ⟨v7, hv, hM⟩ := e_bs hM
        obtain ⟨fs_, hk, -⟩ := e_bs hv
        refine e_callV (ci := 7) (As := [.int l2]) (rest := []) (n := 1) E J hk rfl (mX7_curveOf (l := l) (G := G) a6 l2 h _ hv) q_2_14 q_2_15 q_2_16 q_1_2 q_2_17 (by decide +kernel) rfl ⟨Nat.le_of_ble_eq_true rfl, Nat.le_of_ble_eq_true rfl⟩ (st0 := [.int l2, .ref (e_ad G a6)]) (st1 := [e_r G v7]) rfl rfl hl.1 (Nat.le_of_ble_eq_true rfl) dX8_both_14 ⟨Nat.le_refl _, Nat.le_refl _⟩ (fun H locs J => ?_)
        rcases v7 with _ | a8
        · have hM := e_on0 hM
          refine W.eq (g2 := F0 m 17 ls [.null]) rfl ?_
          refine lv_astoreN (lv' := [(4, .null), (3, .null), (0, .ref (e_ad G l0)), (1, .int l1), (2, .int l2)]) hx hb dX8_both_17 hl (by decide) rfl (fun ls hl => ?_)
          refine lv_aload_nN hx hb dX8_both_19 rfl (lv_at hl 1 rfl) ?_
          refine lv_ifnullN (tgt := 28) hx hb dX8_both_20 (by decide) ?_
          refine lv_ldc (v := -1000000001) hx hb hown (hts _ q_1_237) dX8_both_28 ?_
          obtain rfl := e_so hM
          exact e_iret E J dX8_both_30
        · have hM := e_on1 hM
          refine W.eq (g2 := F0 m 17 ls [.ref (e_ad G a8)]) rfl ?_
          refine lv_astore (lv' := [(4, .ref (e_ad G a8)), (3, .null), (0, .ref (e_ad G l0)), (1, .int l1), (2, .int l2)]) hx hb dX8_both_17 hl (by decide) rfl (fun ls hl => ?_)
          refine lv_aload_nN hx hb dX8_both_19 rfl (lv_at hl 1 rfl) ?_
          refine lv_ifnullN (tgt := 28) hx hb dX8_both_20 (by decide) ?_
          refine lv_ldc (v := -1000000001) hx hb hown (hts _ q_1_237) dX8_both_28 ?_
          obtain rfl := e_so hM
          exact e_iret E J dX8_both_30
    · have hM := e_on1 hM
      refine W.eq (g2 := F0 m 8 ls [.ref (e_ad G a4)]) rfl ?_
      refine lv_astore_n (lv' := [(3, .ref (e_ad G a4)), (0, .ref (e_ad G l0)), (1, .int l1), (2, .int l2)]) hx hb dX8_both_8 rfl hl (by decide) rfl (fun ls hl => ?_)
      refine lv_aload_n hx hb dX8_both_9 rfl (lv_at hl 1 rfl) ?_
      obtain ⟨v9, hv, hM⟩ := e_bs hM
      refine e_getR (C := RX8) (T := TX8) (N := 10) E J hv rfl inX8 (by decide) q_1_199 dX8_both_10 ?_
      rcases v9 with _ | a10
      · have hM := e_on0 hM
        refine W.eq (g2 := F0 m 13 ls [.null]) rfl ?_
        refine lv_iload_n hx hb dX8_both_13 rfl (lv_at hl 3 rfl) ?_
        exact e_no hM
      · have hM := e_on1 hM
        refine W.eq (g2 := F0 m 13 ls [.ref (e_ad G a10)]) rfl ?_
        refine lv_iload_n hx hb dX8_both_13 rfl (lv_at hl 3 rfl) ?_
        obtain ⟨v11, hv, hM⟩ := e_bs hM
        obtain ⟨fs_, hk, -⟩ := e_bs hv
        refine e_callV (ci := 7) (As := [.int l2]) (rest := []) (n := 1) E J hk rfl (mX7_curveOf (l := l) (G := G) a10 l2 h _ hv) q_2_14 q_2_15 q_2_16 q_1_2 q_2_17 (by decide +kernel) rfl ⟨Nat.le_of_ble_eq_true rfl, Nat.le_of_ble_eq_true rfl⟩ (st0 := [.int l2, .ref (e_ad G a10)]) (st1 := [e_r G v11]) rfl rfl hl.1 (Nat.le_of_ble_eq_true rfl) dX8_both_14 ⟨Nat.le_refl _, Nat.le_refl _⟩ (fun H locs J => ?_)
        rcases v11 with _ | a12
        · have hM := e_on0 hM
          refine W.eq (g2 := F0 m 17 ls [.null]) rfl ?_
          refine lv_astoreN (lv' := [(4, .null), (3, .ref (e_ad G a4)), (0, .ref (e_ad G l0)), (1, .int l1), (2, .int l2)]) hx hb dX8_both_17 hl (by decide) rfl (fun ls hl => ?_)
          refine lv_aload_n hx hb dX8_both_19 rfl (lv_at hl 1 rfl) ?_
          refine lv_ifnull hx hb dX8_both_20 ?_
          refine lv_aloadN hx hb dX8_both_23 (lv_at hl 0 rfl) ?_
          refine lv_ifnonnullN hx hb dX8_both_25 ?_
          refine lv_ldc (v := -1000000001) hx hb hown (hts _ q_1_237) dX8_both_28 ?_
          obtain rfl := e_so hM
          exact e_iret E J dX8_both_30
        · have hM := e_on1 hM
          refine W.eq (g2 := F0 m 17 ls [.ref (e_ad G a12)]) rfl ?_
          refine lv_astore (lv' := [(4, .ref (e_ad G a12)), (3, .ref (e_ad G a4)), (0, .ref (e_ad G l0)), (1, .int l1), (2, .int l2)]) hx hb dX8_both_17 hl (by decide) rfl (fun ls hl => ?_)
          refine lv_aload_n hx hb dX8_both_19 rfl (lv_at hl 1 rfl) ?_
          refine lv_ifnull hx hb dX8_both_20 ?_
          refine lv_aload hx hb dX8_both_23 (lv_at hl 0 rfl) ?_
          refine lv_ifnonnull (tgt := 31) hx hb dX8_both_25 (by decide) ?_
          refine lv_aload_n hx hb dX8_both_31 rfl (lv_at hl 2 rfl) ?_
          obtain ⟨v13, hv, hM⟩ := e_bs hM
          refine e_getR (C := RX8) (T := TX8) (N := 10) E J hv rfl inX8 (by decide) q_1_201 dX8_both_32 ?_
          rcases v13 with _ | a14
          · have hM := e_on0 hM
            refine W.eq (g2 := F0 m 35 ls [.null]) rfl ?_
            refine lv_aload_n hx hb dX8_both_35 rfl (lv_at hl 1 rfl) ?_
            exact e_no hM
          · have hM := e_on1 hM
            refine W.eq (g2 := F0 m 35 ls [.ref (e_ad G a14)]) rfl ?_
            refine lv_aload_n hx hb dX8_both_35 rfl (lv_at hl 1 rfl) ?_
            obtain ⟨h15, hv, hM⟩ := e_bs hM
            obtain ⟨fs_, hk, -⟩ := e_bs hv
            refine e_callV (ci := 6) (As := [.ref (e_ad G a4)]) (rest := []) (n := 1) E J hk rfl (mX6_walk (l := l) (G := G) a14 a4 h _ hv) q_3_85 q_3_86 q_3_87 q_1_4 q_3_88 (by decide +kernel) rfl ⟨Nat.le_of_ble_eq_true rfl, Nat.le_of_ble_eq_true rfl⟩ (st0 := [.ref (e_ad G a4), .ref (e_ad G a14)]) (st1 := []) rfl rfl hl.1 (Nat.le_of_ble_eq_true rfl) dX8_both_36 ⟨Nat.le_refl _, Nat.le_refl _⟩ (fun H locs J => ?_)
            refine lv_aload_n hx hb dX8_both_39 rfl (lv_at hl 2 rfl) ?_
            obtain ⟨v16, hv, hM⟩ := e_bs hM
            refine e_getR (C := RX8) (T := TX8) (N := 10) E J hv rfl inX8 (by decide) q_1_201 dX8_both_40 ?_
            rcases v16 with _ | a17
            · have hM := e_on0 hM
              refine W.eq (g2 := F0 m 43 ls [.null]) rfl ?_
              exact e_no hM
            · have hM := e_on1 hM
              refine W.eq (g2 := F0 m 43 ls [.ref (e_ad G a17)]) rfl ?_
              obtain ⟨h18, hv, hM⟩ := e_bs hM
              obtain ⟨fs_, hk, -⟩ := e_bs hv
              refine e_callV (ci := 6) (As := []) (rest := []) (n := 0) E J hk rfl (mX6_setAside (l := l) (G := G) a17 h15 _ hv) q_3_125 q_3_126 q_3_127 q_1_4 q_3_128 (by decide +kernel) rfl ⟨Nat.le_of_ble_eq_true rfl, Nat.le_of_ble_eq_true rfl⟩ (st0 := [.ref (e_ad G a17)]) (st1 := []) rfl rfl hl.1 (Nat.le_of_ble_eq_true rfl) dX8_both_43 ⟨Nat.le_refl _, Nat.le_refl _⟩ (fun H locs J => ?_)
              refine lv_aload_n hx hb dX8_both_46 rfl (lv_at hl 2 rfl) ?_
              obtain ⟨v19, hv, hM⟩ := e_bs hM
              refine e_getR (C := RX8) (T := TX8) (N := 10) E J hv rfl inX8 (by decide) q_1_201 dX8_both_47 ?_
              rcases v19 with _ | a20
              · have hM := e_on0 hM
                refine W.eq (g2 := F0 m 50 ls [.null]) rfl ?_
                refine lv_aload hx hb dX8_both_50 (lv_at hl 0 rfl) ?_
                exact e_no hM
              · have hM := e_on1 hM
                refine W.eq (g2 := F0 m 50 ls [.ref (e_ad G a20)]) rfl ?_
                refine lv_aload hx hb dX8_both_50 (lv_at hl 0 rfl) ?_
                obtain ⟨h21, hv, hM⟩ := e_bs hM
                obtain ⟨fs_, hk, -⟩ := e_bs hv
                refine e_callV (ci := 6) (As := [.ref (e_ad G a12)]) (rest := []) (n := 1) E J hk rfl (mX6_walk (l := l) (G := G) a20 a12 h18 _ hv) q_3_85 q_3_86 q_3_87 q_1_4 q_3_88 (by decide +kernel) rfl ⟨Nat.le_of_ble_eq_true rfl, Nat.le_of_ble_eq_true rfl⟩ (st0 := [.ref (e_ad G a12), .ref (e_ad G a20)]) (st1 := []) rfl rfl hl.1 (Nat.le_of_ble_eq_true rfl) dX8_both_52 ⟨Nat.le_refl _, Nat.le_refl _⟩ (fun H locs J => ?_)
                refine lv_aload_n hx hb dX8_both_55 rfl (lv_at hl 2 rfl) ?_
                obtain ⟨v22, hv, hM⟩ := e_bs hM
                refine e_getR (C := RX8) (T := TX8) (N := 10) E J hv rfl inX8 (by decide) q_1_201 dX8_both_56 ?_
                rcases v22 with _ | a23
                · have hM := e_on0 hM
                  refine W.eq (g2 := F0 m 59 ls [.null]) rfl ?_
                  exact e_no hM
                · have hM := e_on1 hM
                  refine W.eq (g2 := F0 m 59 ls [.ref (e_ad G a23)]) rfl ?_
                  obtain ⟨v24, hv, hM⟩ := e_bs hM
                  obtain ⟨fs_, hk, -⟩ := e_bs hv
                  refine e_callV (ci := 6) (As := []) (rest := []) (n := 0) E J hk rfl (mX6_placesOnBoth (l := l) (G := G) a23 h21 _ hv) q_3_132 q_3_133 q_3_134 q_1_4 q_3_135 (by decide +kernel) rfl ⟨Nat.le_of_ble_eq_true rfl, Nat.le_of_ble_eq_true rfl⟩ (st0 := [.ref (e_ad G a23)]) (st1 := [.int v24]) rfl rfl hl.1 (Nat.le_of_ble_eq_true rfl) dX8_both_59 ⟨Nat.le_refl _, Nat.le_refl _⟩ (fun H locs J => ?_)
                  obtain rfl := e_so hM
                  exact e_iret E J dX8_both_62
set_option maxRecDepth 100000 in
set_option maxHeartbeats 4000000 in
theorem mX5_addNumber_b52 {p : Program} {l : Launch} {e : Env} {s : State} {m : MethodId} {args : Array Value} {below : List Frame} {meth : Method} {c : Code} {G : e_G} {res : e_H} {k3 : Nat → Int32 → Int32 → e_H → Option e_H} (E : e_M G p s args m meth c cX5_addNumber 3 none RX5) (K3 : ∀ (l0 : Nat) (l1 : Int32) (l2 : Int32) (h : e_H), k3 l0 l1 l2 h = some res → ∀ (H : Heap) (locs : List Loc), e_J G s h H locs → ∀ (ls : Array Slot), lv_has ls 3 [(0, .ref (e_ad G l0)), (1, .int l1), (2, .int l2)] → W p l e (e_rm 0 0) s m args below meth c H locs 0 0 (MQ below (e_Q G res (none)) args s 0 0 (e_A G)) (F0 m 3 ls [])) (l0 : Nat) (l1 : Int32) (l2 : Int32) (h : e_H) (hM : fX5_addNumber_b52 k3 l0 l1 l2 h = some res) {H : Heap} {locs : List Loc} (J : e_J G s h H locs) {ls : Array Slot} (hl : lv_has ls 3 [(0, .ref (e_ad G l0)), (1, .int l1), (2, .int l2)]) : W p l e (e_rm 0 0) s m args below meth c H locs 0 0 (MQ below (e_Q G res (none)) args s 0 0 (e_A G)) (F0 m 52 ls []) := by
  obtain ⟨hx, hb, hr, hml, hown, hts, hlocks, hES, hbs⟩ := id E
  unfold fX5_addNumber_b52 at hM
  refine lv_iinc (v := (l2 + (-8 : Int32))) (lv' := [(2, .int (l2 + (-8 : Int32))), (0, .ref (e_ad G l0)), (1, .int l1)]) hx hb dX5_addNumber_52 hl (k := 2) rfl rfl (by decide) rfl (fun ls hl => ?_)
  refine lv_goto (tgt := 3) hx hb dX5_addNumber_55 (by decide) ?_
  exact K3 l0 l1 (l2 + (-8 : Int32)) h hM _ _ J _ (lv_sub hl [1, 2, 0] rfl)
set_option maxRecDepth 100000 in
set_option maxHeartbeats 4000000 in
theorem mX5_addNumber_b3 {p : Program} {l : Launch} {e : Env} {s : State} {m : MethodId} {args : Array Value} {below : List Frame} {meth : Method} {c : Code} {G : e_G} {res : e_H} {k3 : Nat → Int32 → Int32 → e_H → Option e_H} (E : e_M G p s args m meth c cX5_addNumber 3 none RX5) (K3 : ∀ (l0 : Nat) (l1 : Int32) (l2 : Int32) (h : e_H), k3 l0 l1 l2 h = some res → ∀ (H : Heap) (locs : List Loc), e_J G s h H locs → ∀ (ls : Array Slot), lv_has ls 3 [(0, .ref (e_ad G l0)), (1, .int l1), (2, .int l2)] → W p l e (e_rm 0 0) s m args below meth c H locs 0 0 (MQ below (e_Q G res (none)) args s 0 0 (e_A G)) (F0 m 3 ls [])) (l0 : Nat) (l1 : Int32) (l2 : Int32) (h : e_H) (hM : fX5_addNumber_b3 k3 l0 l1 l2 h = some res) {H : Heap} {locs : List Loc} (J : e_J G s h H locs) {ls : Array Slot} (hl : lv_has ls 3 [(0, .ref (e_ad G l0)), (1, .int l1), (2, .int l2)]) : W p l e (e_rm 0 0) s m args below meth c H locs 0 0 (MQ below (e_Q G res (none)) args s 0 0 (e_A G)) (F0 m 3 ls []) := by
  obtain ⟨hx, hb, hr, hml, hown, hts, hlocks, hES, hbs⟩ := id E
  unfold fX5_addNumber_b3 at hM
  refine lv_iload_n hx hb dX5_addNumber_3 rfl (lv_at hl 2 rfl) ?_
  refine lv_if_lt (tgt := 58) hx hb dX5_addNumber_4 (by decide) (fun hc => ?_) (fun hc => ?_)
  · have hM := e_ip hc hM
    obtain rfl := e_so hM
    exact e_vret E J dX5_addNumber_58
  · have hM := e_in hc hM
    refine lv_aload_n hx hb dX5_addNumber_7 rfl (lv_at hl 0 rfl) ?_
    obtain ⟨v1, hv, hM⟩ := e_bs hM
    refine e_getI (C := RX5) (T := TX5) (N := 7) E J hv rfl inX5 (by decide) q_1_128 dX5_addNumber_8 ?_
    refine lv_if_lt (tgt := 52) hx hb dX5_addNumber_11 (by decide) (fun hc => ?_) (fun hc => ?_)
    · have hM := e_ip hc hM
      exact mX5_addNumber_b52 E K3 l0 l1 l2 h hM J (lv_sub hl [0, 1, 2] rfl)
    · have hM := e_in hc hM
      refine lv_aload_n hx hb dX5_addNumber_14 rfl (lv_at hl 0 rfl) ?_
      obtain ⟨v2, hv, hM⟩ := e_bs hM
      refine e_getI (C := RX5) (T := TX5) (N := 7) E J hv rfl inX5 (by decide) q_1_128 dX5_addNumber_15 ?_
      refine lv_aload_n hx hb dX5_addNumber_18 rfl (lv_at hl 0 rfl) ?_
      obtain ⟨v3, hv, hM⟩ := e_bs hM
      refine e_getR (C := RX5) (T := TX5) (N := 7) E J hv rfl inX5 (by decide) q_1_130 dX5_addNumber_19 ?_
      rcases v3 with _ | a4
      · have hM := e_on0 hM
        refine W.eq (g2 := F0 m 22 ls [.null, .int v2]) rfl ?_
        exact e_no hM
      · have hM := e_on1 hM
        refine W.eq (g2 := F0 m 22 ls [.ref (e_ad G a4), .int v2]) rfl ?_
        obtain ⟨v5, hv, hM⟩ := e_bs hM
        refine e_alen E J hv rfl rfl dX5_addNumber_22 ?_
        refine lv_icmp_ge (tgt := 52) hx hb dX5_addNumber_23 (by decide) (fun hc => ?_) (fun hc => ?_)
        · have hM := e_ip hc hM
          exact mX5_addNumber_b52 E K3 l0 l1 l2 h hM J (lv_sub hl [0, 1, 2] rfl)
        · have hM := e_in hc hM
          refine lv_aload_n hx hb dX5_addNumber_26 rfl (lv_at hl 0 rfl) ?_
          obtain ⟨v6, hv, hM⟩ := e_bs hM
          refine e_getR (C := RX5) (T := TX5) (N := 7) E J hv rfl inX5 (by decide) q_1_130 dX5_addNumber_27 ?_
          rcases v6 with _ | a7
          · have hM := e_on0 hM
            refine W.eq (g2 := F0 m 30 ls [.null]) rfl ?_
            refine lv_aload_n hx hb dX5_addNumber_30 rfl (lv_at hl 0 rfl) ?_
            obtain ⟨v8, hv, hM⟩ := e_bs hM
            refine e_getI (C := RX5) (T := TX5) (N := 7) E J hv rfl inX5 (by decide) q_1_128 dX5_addNumber_31 ?_
            refine lv_iload_n hx hb dX5_addNumber_34 rfl (lv_at hl 1 rfl) ?_
            refine lv_iload_n hx hb dX5_addNumber_35 rfl (lv_at hl 2 rfl) ?_
            refine lv_iushr hx hb dX5_addNumber_36 rfl ?_
            refine lv_sipush (v := nI 255) hx hb dX5_addNumber_37 (by decide) ?_
            refine lv_iand hx hb dX5_addNumber_40 ?_
            exact e_no hM
          · have hM := e_on1 hM
            refine W.eq (g2 := F0 m 30 ls [.ref (e_ad G a7)]) rfl ?_
            refine lv_aload_n hx hb dX5_addNumber_30 rfl (lv_at hl 0 rfl) ?_
            obtain ⟨v10, hv, hM⟩ := e_bs hM
            refine e_getI (C := RX5) (T := TX5) (N := 7) E J hv rfl inX5 (by decide) q_1_128 dX5_addNumber_31 ?_
            refine lv_iload_n hx hb dX5_addNumber_34 rfl (lv_at hl 1 rfl) ?_
            refine lv_iload_n hx hb dX5_addNumber_35 rfl (lv_at hl 2 rfl) ?_
            refine lv_iushr hx hb dX5_addNumber_36 rfl ?_
            refine lv_sipush (v := nI 255) hx hb dX5_addNumber_37 (by decide) ?_
            refine lv_iand hx hb dX5_addNumber_40 ?_
            obtain ⟨h11, hv, hM⟩ := e_bs hM
            refine e_iast E J hv dX5_addNumber_41 (fun H locs J => ?_)
            refine lv_aload_n hx hb dX5_addNumber_42 rfl (lv_at hl 0 rfl) ?_
            refine lv_dup hx hb dX5_addNumber_43 rfl ?_
            obtain ⟨v12, hv, hM⟩ := e_bs hM
            refine e_getI (C := RX5) (T := TX5) (N := 7) E J hv rfl inX5 (by decide) q_1_128 dX5_addNumber_44 ?_
            refine lv_iconst (v := nI 1) hx hb dX5_addNumber_47 (by decide) ?_
            refine lv_iadd hx hb dX5_addNumber_48 ?_
            obtain ⟨h13, hv, hM⟩ := e_bs hM
            refine e_putv (C := RX5) (T := TX5) (N := 7) E J hv rfl rfl inX5 tyX5 tyX5_ok nmX5 (by decide) q_1_128 rfl rfl rfl rfl dX5_addNumber_49 (fun H locs J => ?_)
            exact mX5_addNumber_b52 E K3 l0 l1 l2 h13 hM J (lv_sub hl [0, 1, 2] rfl)
set_option maxRecDepth 100000 in
set_option maxHeartbeats 4000000 in
theorem mX5_addNumber_L3 {p : Program} {l : Launch} {e : Env} {s : State} {m : MethodId} {args : Array Value} {below : List Frame} {meth : Method} {c : Code} {G : e_G} {res : e_H} (E : e_M G p s args m meth c cX5_addNumber 3 none RX5) (n : Nat) (l0 : Nat) (l1 : Int32) (l2 : Int32) (h : e_H) (hM : fX5_addNumber_L3 n l0 l1 l2 h = some res) {H : Heap} {locs : List Loc} (J : e_J G s h H locs) {ls : Array Slot} (hl : lv_has ls 3 [(0, .ref (e_ad G l0)), (1, .int l1), (2, .int l2)]) : W p l e (e_rm 0 0) s m args below meth c H locs 0 0 (MQ below (e_Q G res (none)) args s 0 0 (e_A G)) (F0 m 3 ls []) := by
  induction n generalizing l0 l1 l2 h H locs ls with
  | zero => exact e_no hM
  | succ n ih => exact mX5_addNumber_b3 (k3 := (fX5_addNumber_L3 n)) E   (fun l0 l1 l2 h hM H locs J ls hl => ih l0 l1 l2 h hM J hl) l0 l1 l2 h hM J hl
set_option maxRecDepth 100000 in
set_option maxHeartbeats 4000000 in
theorem mX5_addNumber {l : Launch} {G : e_G} (l0 : Nat) (l1 : Int32) (h : e_H) (res : e_H) (hM : fX5_addNumber l0 l1 h = some res) : Met l yX5_addNumber (e_W yX5_addNumber cX5_addNumber 3 none) (e_rm 0 0) (e_Pc G h [.ref (e_ad G l0), .int l1]) (e_Q G res (none)) 0 0 (e_A G) := by
  refine Met.ofW (cc := cX5_addNumber) (maxL := 3) (ret := none) (by decide) rfl ?_
  intro p e s m args below meth c s₁ B hml hv
  obtain ⟨rfl, hS, hP⟩ := hv
  have E := e_enter (own := RX5) (ret := none) B hml rfl hS hP
  have J : e_J G s h s.heap [] := ⟨hP, va_S.rf⟩
  have hl := lv_entry ([.ref (e_ad G l0), .int l1]) (n := 3) (Nat.le_of_ble_eq_true rfl)
  rw [lg_entry_eq]
  generalize (lg_sl ([.ref (e_ad G l0), .int l1]) ++ List.replicate (3 - (lg_sl ([.ref (e_ad G l0), .int l1])).length) Slot.unset).toArray = ls at hl ⊢
  have hl : lv_has ls 3 [(0, .ref (e_ad G l0)), (1, .int l1)] := hl
  obtain ⟨hx, hb, hr, hml, hown, hts, hlocks, hES, hbs⟩ := id E
  unfold fX5_addNumber at hM
  obtain ⟨fs_, hk_, hM⟩ := e_bs hM
  refine lv_bipush (v := nI 24) hx hb dX5_addNumber_0 (by decide) ?_
  refine lv_istore_n (lv' := [(2, .int (nI 24)), (0, .ref (e_ad G l0)), (1, .int l1)]) hx hb dX5_addNumber_2 rfl hl (by decide) rfl (fun ls hl => ?_)
  exact mX5_addNumber_L3 E 200 l0 l1 (nI 24) h hM J (lv_sub hl [1, 2, 0] rfl)
set_option maxRecDepth 100000 in
set_option maxHeartbeats 4000000 in
theorem mX8_feed {l : Launch} {G : e_G} (l0 : Nat) (l1 : Int32) (l2 : Int32) (l3 : Int32) (h : e_H) (res : (Int32 × e_H)) (hM : fX8_feed l0 l1 l2 l3 h = some res) : Met l yX8_feed (e_W yX8_feed cX8_feed 4 (some FieldType.int)) (e_rm 1 22) (e_Pc G h [.ref (e_ad G l0), .int l1, .int l2, .int l3]) (e_Q G res.2 (some (.int res.1))) 0 0 (e_A G) := by
  refine Met.ofW (cc := cX8_feed) (maxL := 4) (ret := (some FieldType.int)) (by decide) rfl ?_
  intro p e s m args below meth c s₁ B hml hv
  obtain ⟨rfl, hS, hP⟩ := hv
  have E := e_enter (own := RX8) (ret := (some FieldType.int)) B hml rfl hS hP
  have J : e_J G s h s.heap [] := ⟨hP, va_S.rf⟩
  have hl := lv_entry ([.ref (e_ad G l0), .int l1, .int l2, .int l3]) (n := 4) (Nat.le_of_ble_eq_true rfl)
  rw [lg_entry_eq]
  generalize (lg_sl ([.ref (e_ad G l0), .int l1, .int l2, .int l3]) ++ List.replicate (4 - (lg_sl ([.ref (e_ad G l0), .int l1, .int l2, .int l3])).length) Slot.unset).toArray = ls at hl ⊢
  have hl : lv_has ls 4 [(0, .ref (e_ad G l0)), (1, .int l1), (2, .int l2), (3, .int l3)] := hl
  obtain ⟨hx, hb, hr, hml, hown, hts, hlocks, hES, hbs⟩ := id E
  unfold fX8_feed at hM
  obtain ⟨fs_, hk_, hM⟩ := e_bs hM
  refine lv_aload_n hx hb dX8_feed_0 rfl (lv_at hl 0 rfl) ?_
  obtain ⟨v1, hv, hM⟩ := e_bs hM
  refine e_getR (C := RX8) (T := TX8) (N := 10) E J hv rfl inX8 (by decide) q_1_203 dX8_feed_1 ?_
  rcases v1 with _ | a2
  · have hM := e_on0 hM
    refine W.eq (g2 := F0 m 4 ls [.null]) rfl ?_
    exact e_no hM
  · have hM := e_on1 hM
    refine W.eq (g2 := F0 m 4 ls [.ref (e_ad G a2)]) rfl ?_
    obtain ⟨v3, hv, hM⟩ := e_bs hM
    refine e_getI (C := RX5) (T := TX5) (N := 7) E J hv rfl inX5 (by decide) q_1_129 dX8_feed_4 ?_
    refine lv_bipush (v := nI 84) hx hb dX8_feed_7 (by decide) ?_
    refine lv_icmp_le (tgt := 15) hx hb dX8_feed_9 (by decide) (fun hc => ?_) (fun hc => ?_)
    · have hM := e_ip hc hM
      refine lv_aload_n hx hb dX8_feed_15 rfl (lv_at hl 0 rfl) ?_
      obtain ⟨v4, hv, hM⟩ := e_bs hM
      refine e_getR (C := RX8) (T := TX8) (N := 10) E J hv rfl inX8 (by decide) q_1_203 dX8_feed_16 ?_
      rcases v4 with _ | a5
      · have hM := e_on0 hM
        refine W.eq (g2 := F0 m 19 ls [.null]) rfl ?_
        refine lv_iload_n hx hb dX8_feed_19 rfl (lv_at hl 1 rfl) ?_
        exact e_no hM
      · have hM := e_on1 hM
        refine W.eq (g2 := F0 m 19 ls [.ref (e_ad G a5)]) rfl ?_
        refine lv_iload_n hx hb dX8_feed_19 rfl (lv_at hl 1 rfl) ?_
        obtain ⟨h6, hv, hM⟩ := e_bs hM
        obtain ⟨fs_, hk, -⟩ := e_bs hv
        refine e_callV (ci := 5) (As := [.int l1]) (rest := []) (n := 1) E J hk rfl (mX5_addNumber (l := l) (G := G) a5 l1 h _ hv) q_3_140 q_3_141 q_3_142 q_1_6 q_3_143 (by decide +kernel) rfl ⟨Nat.le_of_ble_eq_true rfl, Nat.le_of_ble_eq_true rfl⟩ (st0 := [.int l1, .ref (e_ad G a5)]) (st1 := []) rfl rfl hl.1 (Nat.le_of_ble_eq_true rfl) dX8_feed_20 ⟨Nat.le_refl _, Nat.le_refl _⟩ (fun H locs J => ?_)
        refine lv_aload_n hx hb dX8_feed_23 rfl (lv_at hl 0 rfl) ?_
        obtain ⟨v7, hv, hM⟩ := e_bs hM
        refine e_getR (C := RX8) (T := TX8) (N := 10) E J hv rfl inX8 (by decide) q_1_203 dX8_feed_24 ?_
        rcases v7 with _ | a8
        · have hM := e_on0 hM
          refine W.eq (g2 := F0 m 27 ls [.null]) rfl ?_
          refine lv_iload_n hx hb dX8_feed_27 rfl (lv_at hl 2 rfl) ?_
          exact e_no hM
        · have hM := e_on1 hM
          refine W.eq (g2 := F0 m 27 ls [.ref (e_ad G a8)]) rfl ?_
          refine lv_iload_n hx hb dX8_feed_27 rfl (lv_at hl 2 rfl) ?_
          obtain ⟨h9, hv, hM⟩ := e_bs hM
          obtain ⟨fs_, hk, -⟩ := e_bs hv
          refine e_callV (ci := 5) (As := [.int l2]) (rest := []) (n := 1) E J hk rfl (mX5_addNumber (l := l) (G := G) a8 l2 h6 _ hv) q_3_140 q_3_141 q_3_142 q_1_6 q_3_143 (by decide +kernel) rfl ⟨Nat.le_of_ble_eq_true rfl, Nat.le_of_ble_eq_true rfl⟩ (st0 := [.int l2, .ref (e_ad G a8)]) (st1 := []) rfl rfl hl.1 (Nat.le_of_ble_eq_true rfl) dX8_feed_28 ⟨Nat.le_refl _, Nat.le_refl _⟩ (fun H locs J => ?_)
          refine lv_aload_n hx hb dX8_feed_31 rfl (lv_at hl 0 rfl) ?_
          obtain ⟨v10, hv, hM⟩ := e_bs hM
          refine e_getR (C := RX8) (T := TX8) (N := 10) E J hv rfl inX8 (by decide) q_1_203 dX8_feed_32 ?_
          rcases v10 with _ | a11
          · have hM := e_on0 hM
            refine W.eq (g2 := F0 m 35 ls [.null]) rfl ?_
            refine lv_iload_n hx hb dX8_feed_35 rfl (lv_at hl 3 rfl) ?_
            exact e_no hM
          · have hM := e_on1 hM
            refine W.eq (g2 := F0 m 35 ls [.ref (e_ad G a11)]) rfl ?_
            refine lv_iload_n hx hb dX8_feed_35 rfl (lv_at hl 3 rfl) ?_
            obtain ⟨h12, hv, hM⟩ := e_bs hM
            obtain ⟨fs_, hk, -⟩ := e_bs hv
            refine e_callV (ci := 5) (As := [.int l3]) (rest := []) (n := 1) E J hk rfl (mX5_addNumber (l := l) (G := G) a11 l3 h9 _ hv) q_3_140 q_3_141 q_3_142 q_1_6 q_3_143 (by decide +kernel) rfl ⟨Nat.le_of_ble_eq_true rfl, Nat.le_of_ble_eq_true rfl⟩ (st0 := [.int l3, .ref (e_ad G a11)]) (st1 := []) rfl rfl hl.1 (Nat.le_of_ble_eq_true rfl) dX8_feed_36 ⟨Nat.le_refl _, Nat.le_refl _⟩ (fun H locs J => ?_)
            refine lv_aload_n hx hb dX8_feed_39 rfl (lv_at hl 0 rfl) ?_
            obtain ⟨v13, hv, hM⟩ := e_bs hM
            refine e_getR (C := RX8) (T := TX8) (N := 10) E J hv rfl inX8 (by decide) q_1_203 dX8_feed_40 ?_
            rcases v13 with _ | a14
            · have hM := e_on0 hM
              refine W.eq (g2 := F0 m 43 ls [.null]) rfl ?_
              exact e_no hM
            · have hM := e_on1 hM
              refine W.eq (g2 := F0 m 43 ls [.ref (e_ad G a14)]) rfl ?_
              obtain ⟨v15, hv, hM⟩ := e_bs hM
              refine e_getI (C := RX5) (T := TX5) (N := 7) E J hv rfl inX5 (by decide) q_1_129 dX8_feed_43 ?_
              obtain rfl := e_so hM
              exact e_iret E J dX8_feed_46
    · have hM := e_in hc hM
      refine lv_ldc (v := -1000000003) hx hb hown (hts _ q_2_9) dX8_feed_12 ?_
      obtain rfl := e_so hM
      exact e_iret E J dX8_feed_14
