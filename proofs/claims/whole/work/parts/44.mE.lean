set_option maxRecDepth 100000 in
set_option maxHeartbeats 4000000 in
theorem mX9_isRoot_b6 {p : Program} {l : Launch} {e : Env} {s : State} {m : MethodId} {args : Array Value} {below : List Frame} {meth : Method} {c : Code} {G : e_G} {res : Bool} {k6 : Nat → Int32 → Int32 → Int32 → Int64 → Int32 → Option Bool} (E : e_M G p s args m meth c cX9_isRoot 7 (some FieldType.boolean) RX9) (h : e_H) (K6 : ∀ (l0 : Nat) (l1 : Int32) (l2 : Int32) (l3 : Int32) (l4 : Int64) (l6 : Int32), k6 l0 l1 l2 l3 l4 l6 = some res → ∀ (H : Heap) (locs : List Loc), e_J G s h H locs → ∀ (ls : Array Slot), lv_has ls 7 [(0, .ref (e_ad G l0)), (1, .int l1), (2, .int l2), (3, .int l3), (4, .long l4), (6, .int l6)] → W p l e (e_rm 1 25) s m args below meth c H locs 0 0 (MQ below (e_Q G h (some (.int (e_b res)))) args s 0 0 (e_A G)) (F0 m 6 ls [])) (l0 : Nat) (l1 : Int32) (l2 : Int32) (l3 : Int32) (l4 : Int64) (l6 : Int32) (hM : fX9_isRoot_b6 h k6 l0 l1 l2 l3 l4 l6 = some res) {H : Heap} {locs : List Loc} (J : e_J G s h H locs) {ls : Array Slot} (hl : lv_has ls 7 [(0, .ref (e_ad G l0)), (1, .int l1), (2, .int l2), (3, .int l3), (4, .long l4), (6, .int l6)]) : W p l e (e_rm 1 25) s m args below meth c H locs 0 0 (MQ below (e_Q G h (some (.int (e_b res)))) args s 0 0 (e_A G)) (F0 m 6 ls []) := by
  obtain ⟨hx, hb, hr, hml, hown, hts, hlocks, hES, hbs⟩ := id E
  unfold fX9_isRoot_b6 at hM
  refine lv_iload hx hb dX9_isRoot_6 (lv_at hl 5 rfl) ?_
  refine lv_iconst (v := nI 5) hx hb dX9_isRoot_8 (by decide) ?_
  refine lv_icmp_ge (tgt := 39) hx hb dX9_isRoot_9 (by decide) (fun hc => ?_) (fun hc => ?_)
  · have hM := e_ip hc hM
    refine lv_lload hx hb dX9_isRoot_39 (lv_at hl 4 rfl) ?_
    refine lv_lconst (v := 0) hx hb dX9_isRoot_41 (by decide) ?_
    refine W.lcmp hx hb dX9_isRoot_42 ?_
    refine lv_if_ne (tgt := 50) hx hb dX9_isRoot_43 (by decide) (fun hc => ?_) (fun hc => ?_)
    · have hM := e_in hc hM
      refine lv_iconst (v := nI 0) hx hb dX9_isRoot_50 (by decide) ?_
      obtain rfl := e_so hM
      exact e_zret E J (false) rfl dX9_isRoot_51
    · have hM := e_ip hc hM
      refine lv_iconst (v := nI 1) hx hb dX9_isRoot_46 (by decide) ?_
      refine lv_goto (tgt := 51) hx hb dX9_isRoot_47 (by decide) ?_
      obtain rfl := e_so hM
      exact e_zret E J (true) rfl dX9_isRoot_51
  · have hM := e_in hc hM
    refine lv_lload hx hb dX9_isRoot_12 (lv_at hl 4 rfl) ?_
    refine lv_aload_n hx hb dX9_isRoot_14 rfl (lv_at hl 0 rfl) ?_
    refine lv_iload_n hx hb dX9_isRoot_15 rfl (lv_at hl 1 rfl) ?_
    refine lv_iload_n hx hb dX9_isRoot_16 rfl (lv_at hl 2 rfl) ?_
    refine lv_iload hx hb dX9_isRoot_17 (lv_at hl 5 rfl) ?_
    obtain ⟨v1, hv, hM⟩ := e_bs hM
    obtain ⟨fs_, hk, -⟩ := e_bs hv
    refine e_callV (ci := 9) (As := [.int l1, .int l2, .int l6]) (rest := [.long l4]) (n := 3) E J hk rfl (mX9_lowestOf (l := l) (G := G) l0 l1 l2 l6 h _ hv) q_6_40 q_6_42 q_p_30 q_1_9 q_6_43 (by decide +kernel) rfl ⟨Nat.le_of_ble_eq_true rfl, Nat.le_of_ble_eq_true rfl⟩ (st0 := [.int l6, .int l2, .int l1, .ref (e_ad G l0), .long l4]) (st1 := [.long v1, .long l4]) rfl rfl hl.1 (Nat.le_of_ble_eq_true rfl) dX9_isRoot_19 ⟨Nat.le_refl _, Nat.le_refl _⟩ (fun H locs J => ?_)
    refine lv_iload_n hx hb dX9_isRoot_22 rfl (lv_at hl 3 rfl) ?_
    refine lv_i2l hx hb dX9_isRoot_23 rfl ?_
    refine lv_iload hx hb dX9_isRoot_24 (lv_at hl 5 rfl) ?_
    obtain ⟨v2, hv, hM⟩ := e_bs hM
    refine e_callS (As := [.long (l3).toInt64, .int l6]) (rest := [.long v1, .long l4]) (n := 2) E J (mX9_raised (l := l) (G := G) (l3).toInt64 l6 h _ hv) q_6_4 q_6_5 q_1_9 q_6_6 (by decide +kernel) rfl ⟨Nat.le_of_ble_eq_true rfl, Nat.le_of_ble_eq_true rfl⟩ (st0 := [.int l6, .long (l3).toInt64, .long v1, .long l4]) (st1 := [.long v2, .long v1, .long l4]) rfl rfl hl.1 (Nat.le_of_ble_eq_true rfl) dX9_isRoot_26 ⟨Nat.le_refl _, Nat.le_refl _⟩ (fun H locs J => ?_)
    refine lv_lmul hx hb dX9_isRoot_29 ?_
    refine lv_ladd hx hb dX9_isRoot_30 ?_
    refine lv_lstore (lv' := [(4, .long (l4 + (v1 * v2))), (0, .ref (e_ad G l0)), (1, .int l1), (2, .int l2), (3, .int l3), (6, .int l6)]) hx hb dX9_isRoot_31 hl (by decide) rfl (fun ls hl => ?_)
    refine lv_iinc (v := (l6 + (nI 1))) (lv' := [(6, .int (l6 + (nI 1))), (4, .long (l4 + (v1 * v2))), (0, .ref (e_ad G l0)), (1, .int l1), (2, .int l2), (3, .int l3)]) hx hb dX9_isRoot_33 hl (k := 5) rfl rfl (by decide) rfl (fun ls hl => ?_)
    refine lv_goto (tgt := 6) hx hb dX9_isRoot_36 (by decide) ?_
    exact K6 l0 l1 l2 l3 (l4 + (v1 * v2)) (l6 + (nI 1)) hM _ _ J _ (lv_sub hl [2, 3, 4, 5, 1, 0] rfl)
set_option maxRecDepth 100000 in
set_option maxHeartbeats 4000000 in
theorem mX9_isRoot_L6 {p : Program} {l : Launch} {e : Env} {s : State} {m : MethodId} {args : Array Value} {below : List Frame} {meth : Method} {c : Code} {G : e_G} {res : Bool} (E : e_M G p s args m meth c cX9_isRoot 7 (some FieldType.boolean) RX9) (h : e_H) (n : Nat) (l0 : Nat) (l1 : Int32) (l2 : Int32) (l3 : Int32) (l4 : Int64) (l6 : Int32) (hM : fX9_isRoot_L6 h n l0 l1 l2 l3 l4 l6 = some res) {H : Heap} {locs : List Loc} (J : e_J G s h H locs) {ls : Array Slot} (hl : lv_has ls 7 [(0, .ref (e_ad G l0)), (1, .int l1), (2, .int l2), (3, .int l3), (4, .long l4), (6, .int l6)]) : W p l e (e_rm 1 25) s m args below meth c H locs 0 0 (MQ below (e_Q G h (some (.int (e_b res)))) args s 0 0 (e_A G)) (F0 m 6 ls []) := by
  induction n generalizing l0 l1 l2 l3 l4 l6 H locs ls with
  | zero => exact e_no hM
  | succ n ih => exact mX9_isRoot_b6 (k6 := (fX9_isRoot_L6 h n)) E h  (fun l0 l1 l2 l3 l4 l6 hM H locs J ls hl => ih l0 l1 l2 l3 l4 l6 hM J hl) l0 l1 l2 l3 l4 l6 hM J hl
set_option maxRecDepth 100000 in
set_option maxHeartbeats 4000000 in
theorem mX9_isRoot {l : Launch} {G : e_G} (l0 : Nat) (l1 : Int32) (l2 : Int32) (l3 : Int32) (h : e_H) (res : Bool) (hM : fX9_isRoot l0 l1 l2 l3 h = some res) : Met l yX9_isRoot (e_W yX9_isRoot cX9_isRoot 7 (some FieldType.boolean)) (e_rm 1 25) (e_Pc G h [.ref (e_ad G l0), .int l1, .int l2, .int l3]) (e_Q G h (some (.int (e_b res)))) 0 0 (e_A G) := by
  refine Met.ofW (cc := cX9_isRoot) (maxL := 7) (ret := (some FieldType.boolean)) (by decide) rfl ?_
  intro p e s m args below meth c s₁ B hml hv
  obtain ⟨rfl, hS, hP⟩ := hv
  have E := e_enter (own := RX9) (ret := (some FieldType.boolean)) B hml rfl hS hP
  have J : e_J G s h s.heap [] := ⟨hP, va_S.rf⟩
  have hl := lv_entry ([.ref (e_ad G l0), .int l1, .int l2, .int l3]) (n := 7) (Nat.le_of_ble_eq_true rfl)
  rw [lg_entry_eq]
  generalize (lg_sl ([.ref (e_ad G l0), .int l1, .int l2, .int l3]) ++ List.replicate (7 - (lg_sl ([.ref (e_ad G l0), .int l1, .int l2, .int l3])).length) Slot.unset).toArray = ls at hl ⊢
  have hl : lv_has ls 7 [(0, .ref (e_ad G l0)), (1, .int l1), (2, .int l2), (3, .int l3)] := hl
  obtain ⟨hx, hb, hr, hml, hown, hts, hlocks, hES, hbs⟩ := id E
  unfold fX9_isRoot at hM
  obtain ⟨fs_, hk_, hM⟩ := e_bs hM
  refine lv_lconst (v := 0) hx hb dX9_isRoot_0 (by decide) ?_
  refine lv_lstore (lv' := [(4, .long (0 : Int64)), (0, .ref (e_ad G l0)), (1, .int l1), (2, .int l2), (3, .int l3)]) hx hb dX9_isRoot_1 hl (by decide) rfl (fun ls hl => ?_)
  refine lv_iconst (v := nI 0) hx hb dX9_isRoot_3 (by decide) ?_
  refine lv_istore (lv' := [(6, .int (nI 0)), (4, .long (0 : Int64)), (0, .ref (e_ad G l0)), (1, .int l1), (2, .int l2), (3, .int l3)]) hx hb dX9_isRoot_4 hl (by decide) rfl (fun ls hl => ?_)
  exact mX9_isRoot_L6 E h 200 l0 l1 l2 l3 (0 : Int64) (nI 0) hM J (lv_sub hl [2, 3, 4, 5, 1, 0] rfl)
set_option maxRecDepth 100000 in
set_option maxHeartbeats 4000000 in
theorem mX9_isSlope {l : Launch} {G : e_G} (l0 : Nat) (l1 : Int32) (l2 : Int32) (l3 : Int32) (h : e_H) (res : (Bool × e_H)) (hM : fX9_isSlope l0 l1 l2 l3 h = some res) : Met l yX9_isSlope (e_W yX9_isSlope cX9_isSlope 5 (some FieldType.boolean)) (e_rm 2 51) (e_Pc G h [.ref (e_ad G l0), .int l1, .int l2, .int l3]) (e_Q G res.2 (some (.int (e_b res.1)))) 0 0 (e_A G) := by
  refine Met.ofW (cc := cX9_isSlope) (maxL := 5) (ret := (some FieldType.boolean)) (by decide) rfl ?_
  intro p e s m args below meth c s₁ B hml hv
  obtain ⟨rfl, hS, hP⟩ := hv
  have E := e_enter (own := RX9) (ret := (some FieldType.boolean)) B hml rfl hS hP
  have J : e_J G s h s.heap [] := ⟨hP, va_S.rf⟩
  have hl := lv_entry ([.ref (e_ad G l0), .int l1, .int l2, .int l3]) (n := 5) (Nat.le_of_ble_eq_true rfl)
  rw [lg_entry_eq]
  generalize (lg_sl ([.ref (e_ad G l0), .int l1, .int l2, .int l3]) ++ List.replicate (5 - (lg_sl ([.ref (e_ad G l0), .int l1, .int l2, .int l3])).length) Slot.unset).toArray = ls at hl ⊢
  have hl : lv_has ls 5 [(0, .ref (e_ad G l0)), (1, .int l1), (2, .int l2), (3, .int l3)] := hl
  obtain ⟨hx, hb, hr, hml, hown, hts, hlocks, hES, hbs⟩ := id E
  unfold fX9_isSlope at hM
  obtain ⟨fs_, hk_, hM⟩ := e_bs hM
  refine lv_aload_n hx hb dX9_isSlope_0 rfl (lv_at hl 0 rfl) ?_
  refine lv_iload_n hx hb dX9_isSlope_1 rfl (lv_at hl 1 rfl) ?_
  refine lv_iload_n hx hb dX9_isSlope_2 rfl (lv_at hl 2 rfl) ?_
  refine lv_iload_n hx hb dX9_isSlope_3 rfl (lv_at hl 3 rfl) ?_
  obtain ⟨v1, hv, hM⟩ := e_bs hM
  obtain ⟨fs_, hk, -⟩ := e_bs hv
  refine e_callV (ci := 9) (As := [.int l1, .int l2, .int l3]) (rest := []) (n := 3) E J hk rfl (mX9_isRoot (l := l) (G := G) l0 l1 l2 l3 h _ hv) q_6_54 q_6_56 q_p_32 q_1_9 q_6_57 (by decide +kernel) rfl ⟨Nat.le_of_ble_eq_true rfl, Nat.le_of_ble_eq_true rfl⟩ (st0 := [.int l3, .int l2, .int l1, .ref (e_ad G l0)]) (st1 := [.int (e_b v1)]) rfl rfl hl.1 (Nat.le_of_ble_eq_true rfl) dX9_isSlope_4 ⟨Nat.le_refl _, Nat.le_refl _⟩ (fun H locs J => ?_)
  refine lv_if_ne (tgt := 12) hx hb dX9_isSlope_7 (by decide) (fun hc => ?_) (fun hc => ?_)
  · have hM := e_in hc hM
    refine lv_aload_n hx hb dX9_isSlope_12 rfl (lv_at hl 0 rfl) ?_
    refine lv_iconst (v := nI 1) hx hb dX9_isSlope_13 (by decide) ?_
    obtain ⟨v2, hv, hM⟩ := e_bs hM
    obtain ⟨fs_, hk, -⟩ := e_bs hv
    refine e_callV (ci := 9) (As := [.int (nI 1)]) (rest := []) (n := 1) E J hk rfl (mX9_counts (l := l) (G := G) l0 (nI 1) h _ hv) q_5_176 q_5_178 q_p_20 q_1_9 q_5_179 (by decide +kernel) rfl ⟨Nat.le_of_ble_eq_true rfl, Nat.le_of_ble_eq_true rfl⟩ (st0 := [.int (nI 1), .ref (e_ad G l0)]) (st1 := [.int v2]) rfl rfl hl.1 (Nat.le_of_ble_eq_true rfl) dX9_isSlope_14 ⟨Nat.le_refl _, Nat.le_refl _⟩ (fun H locs J => ?_)
    refine lv_istore (lv' := [(4, .int v2), (0, .ref (e_ad G l0)), (1, .int l1), (2, .int l2), (3, .int l3)]) hx hb dX9_isSlope_17 hl (by decide) rfl (fun ls hl => ?_)
    refine lv_aload_n hx hb dX9_isSlope_19 rfl (lv_at hl 1 rfl) ?_
    obtain ⟨v3, hv, hM⟩ := e_bs hM
    refine e_getR (C := RX9) (T := TX9) (N := 40) E J hv rfl inX9 (by decide) q_5_39 dX9_isSlope_20 ?_
    rcases v3 with _ | a4
    · have hM := e_on0 hM
      refine W.eq (g2 := F0 m 23 ls [.null]) rfl ?_
      refine lv_iconst (v := nI 0) hx hb dX9_isSlope_23 (by decide) ?_
      refine lv_iload_n hx hb dX9_isSlope_24 rfl (lv_at hl 4 rfl) ?_
      exact e_no hM
    · have hM := e_on1 hM
      refine W.eq (g2 := F0 m 23 ls [.ref (e_ad G a4)]) rfl ?_
      refine lv_iconst (v := nI 0) hx hb dX9_isSlope_23 (by decide) ?_
      refine lv_iload_n hx hb dX9_isSlope_24 rfl (lv_at hl 4 rfl) ?_
      obtain ⟨h6, hv, hM⟩ := e_bs hM
      refine e_iast E J hv dX9_isSlope_25 (fun H locs J => ?_)
      refine lv_aload_n hx hb dX9_isSlope_26 rfl (lv_at hl 1 rfl) ?_
      obtain ⟨v7, hv, hM⟩ := e_bs hM
      refine e_getR (C := RX9) (T := TX9) (N := 40) E J hv rfl inX9 (by decide) q_5_39 dX9_isSlope_27 ?_
      rcases v7 with _ | a8
      · have hM := e_on0 hM
        refine W.eq (g2 := F0 m 30 ls [.null]) rfl ?_
        refine lv_iconst (v := nI 1) hx hb dX9_isSlope_30 (by decide) ?_
        refine lv_iload_n hx hb dX9_isSlope_31 rfl (lv_at hl 3 rfl) ?_
        exact e_no hM
      · have hM := e_on1 hM
        refine W.eq (g2 := F0 m 30 ls [.ref (e_ad G a8)]) rfl ?_
        refine lv_iconst (v := nI 1) hx hb dX9_isSlope_30 (by decide) ?_
        refine lv_iload_n hx hb dX9_isSlope_31 rfl (lv_at hl 3 rfl) ?_
        obtain ⟨h10, hv, hM⟩ := e_bs hM
        refine e_iast E J hv dX9_isSlope_32 (fun H locs J => ?_)
        refine lv_iload hx hb dX9_isSlope_33 (lv_at hl 0 rfl) ?_
        refine lv_if_lt (tgt := 47) hx hb dX9_isSlope_35 (by decide) (fun hc => ?_) (fun hc => ?_)
        · have hM := e_ip hc hM
          refine lv_iconst (v := nI 1) hx hb dX9_isSlope_47 (by decide) ?_
          refine lv_goto (tgt := 52) hx hb dX9_isSlope_48 (by decide) ?_
          obtain rfl := e_so hM
          exact e_zret E J (true) rfl dX9_isSlope_52
        · have hM := e_in hc hM
          refine lv_aload_n hx hb dX9_isSlope_38 rfl (lv_at hl 1 rfl) ?_
          refine lv_iload hx hb dX9_isSlope_39 (lv_at hl 0 rfl) ?_
          obtain ⟨p11, hv, hM⟩ := e_bs hM
          obtain ⟨fs_, hk, -⟩ := e_bs hv
          refine e_callV (ci := 9) (As := [.int v2]) (rest := []) (n := 1) E J hk rfl (mX9_worksOut (l := l) (G := G) l0 v2 h10 _ hv) q_5_180 q_5_182 q_p_21 q_1_9 q_5_183 (by decide +kernel) rfl ⟨Nat.le_of_ble_eq_true rfl, Nat.le_of_ble_eq_true rfl⟩ (st0 := [.int v2, .ref (e_ad G l0)]) (st1 := [.int p11.1]) rfl rfl hl.1 (Nat.le_of_ble_eq_true rfl) dX9_isSlope_41 ⟨Nat.le_refl _, Nat.le_refl _⟩ (fun H locs J => ?_)
          refine lv_if_eq (tgt := 51) hx hb dX9_isSlope_44 (by decide) (fun hc => ?_) (fun hc => ?_)
          · have hM := e_ip hc hM
            refine lv_iconst (v := nI 0) hx hb dX9_isSlope_51 (by decide) ?_
            obtain rfl := e_so hM
            exact e_zret E J (false) rfl dX9_isSlope_52
          · have hM := e_in hc hM
            refine lv_iconst (v := nI 1) hx hb dX9_isSlope_47 (by decide) ?_
            refine lv_goto (tgt := 52) hx hb dX9_isSlope_48 (by decide) ?_
            obtain rfl := e_so hM
            exact e_zret E J (true) rfl dX9_isSlope_52
  · have hM := e_ip hc hM
    refine lv_iconst (v := nI 0) hx hb dX9_isSlope_10 (by decide) ?_
    obtain rfl := e_so hM
    exact e_zret E J (false) rfl dX9_isSlope_11
set_option maxRecDepth 100000 in
set_option maxHeartbeats 4000000 in
theorem mX9_slopes_b77 {p : Program} {l : Launch} {e : Env} {s : State} {m : MethodId} {args : Array Value} {below : List Frame} {meth : Method} {c : Code} {G : e_G} {res : (Int32 × e_H)} {k47 : Nat → Int32 → Int32 → Int32 → e_H → Option (Int32 × e_H)} (E : e_M G p s args m meth c cX9_slopes 6 (some FieldType.int) RX9) (K47 : ∀ (l0 : Nat) (l3 : Int32) (l4 : Int32) (l5 : Int32) (h : e_H), k47 l0 l3 l4 l5 h = some res → ∀ (H : Heap) (locs : List Loc), e_J G s h H locs → ∀ (ls : Array Slot), lv_has ls 6 [(0, .ref (e_ad G l0)), (3, .int l3), (4, .int l4), (5, .int l5)] → W p l e (e_rm 6 142) s m args below meth c H locs 0 0 (MQ below (e_Q G res.2 (some (.int res.1))) args s 0 0 (e_A G)) (F0 m 47 ls [])) (l0 : Nat) (l3 : Int32) (l5 : Int32) (t0 : Int32) (t1 : Int32) (h : e_H) (hM : fX9_slopes_b77 k47 l0 l3 l5 t0 t1 h = some res) {H : Heap} {locs : List Loc} (J : e_J G s h H locs) {ls : Array Slot} (hl : lv_has ls 6 [(0, .ref (e_ad G l0)), (3, .int l3), (5, .int l5)]) : W p l e (e_rm 6 142) s m args below meth c H locs 0 0 (MQ below (e_Q G res.2 (some (.int res.1))) args s 0 0 (e_A G)) (F0 m 77 ls [.int t0, .int t1]) := by
  obtain ⟨hx, hb, hr, hml, hown, hts, hlocks, hES, hbs⟩ := id E
  unfold fX9_slopes_b77 at hM
  refine lv_ior hx hb dX9_slopes_77 ?_
  refine lv_istore (lv' := [(4, .int (t1 ||| t0)), (0, .ref (e_ad G l0)), (3, .int l3), (5, .int l5)]) hx hb dX9_slopes_78 hl (by decide) rfl (fun ls hl => ?_)
  refine lv_iinc (v := (l5 + (nI 1))) (lv' := [(5, .int (l5 + (nI 1))), (4, .int (t1 ||| t0)), (0, .ref (e_ad G l0)), (3, .int l3)]) hx hb dX9_slopes_80 hl (k := 3) rfl rfl (by decide) rfl (fun ls hl => ?_)
  refine lv_goto (tgt := 47) hx hb dX9_slopes_83 (by decide) ?_
  exact K47 l0 l3 (t1 ||| t0) (l5 + (nI 1)) h hM _ _ J _ (lv_sub hl [2, 3, 1, 0] rfl)
set_option maxRecDepth 100000 in
set_option maxHeartbeats 4000000 in
theorem mX9_slopes_b47 {p : Program} {l : Launch} {e : Env} {s : State} {m : MethodId} {args : Array Value} {below : List Frame} {meth : Method} {c : Code} {G : e_G} {res : (Int32 × e_H)} {k47 : Nat → Int32 → Int32 → Int32 → e_H → Option (Int32 × e_H)} (E : e_M G p s args m meth c cX9_slopes 6 (some FieldType.int) RX9) (K47 : ∀ (l0 : Nat) (l3 : Int32) (l4 : Int32) (l5 : Int32) (h : e_H), k47 l0 l3 l4 l5 h = some res → ∀ (H : Heap) (locs : List Loc), e_J G s h H locs → ∀ (ls : Array Slot), lv_has ls 6 [(0, .ref (e_ad G l0)), (3, .int l3), (4, .int l4), (5, .int l5)] → W p l e (e_rm 6 142) s m args below meth c H locs 0 0 (MQ below (e_Q G res.2 (some (.int res.1))) args s 0 0 (e_A G)) (F0 m 47 ls [])) (l0 : Nat) (l3 : Int32) (l4 : Int32) (l5 : Int32) (h : e_H) (hM : fX9_slopes_b47 k47 l0 l3 l4 l5 h = some res) {H : Heap} {locs : List Loc} (J : e_J G s h H locs) {ls : Array Slot} (hl : lv_has ls 6 [(0, .ref (e_ad G l0)), (3, .int l3), (4, .int l4), (5, .int l5)]) : W p l e (e_rm 6 142) s m args below meth c H locs 0 0 (MQ below (e_Q G res.2 (some (.int res.1))) args s 0 0 (e_A G)) (F0 m 47 ls []) := by
  obtain ⟨hx, hb, hr, hml, hown, hts, hlocks, hES, hbs⟩ := id E
  unfold fX9_slopes_b47 at hM
  refine lv_iload hx hb dX9_slopes_47 (lv_at hl 3 rfl) ?_
  refine lv_bipush (v := nI 6) hx hb dX9_slopes_49 (by decide) ?_
  refine lv_icmp_ge (tgt := 86) hx hb dX9_slopes_51 (by decide) (fun hc => ?_) (fun hc => ?_)
  · have hM := e_ip hc hM
    refine lv_iload hx hb dX9_slopes_86 (lv_at hl 2 rfl) ?_
    obtain rfl := e_so hM
    exact e_iret E J dX9_slopes_88
  · have hM := e_in hc hM
    refine lv_iload hx hb dX9_slopes_54 (lv_at hl 2 rfl) ?_
    refine lv_aload_n hx hb dX9_slopes_56 rfl (lv_at hl 0 rfl) ?_
    refine lv_iconst (v := nI 0) hx hb dX9_slopes_57 (by decide) ?_
    refine lv_iload_n hx hb dX9_slopes_58 rfl (lv_at hl 1 rfl) ?_
    refine lv_iload hx hb dX9_slopes_59 (lv_at hl 3 rfl) ?_
    obtain ⟨p1, hv, hM⟩ := e_bs hM
    obtain ⟨fs_, hk, -⟩ := e_bs hv
    refine e_callV (ci := 9) (As := [.int (nI 0), .int l3, .int l5]) (rest := [.int l4]) (n := 3) E J hk rfl (mX9_isSlope (l := l) (G := G) l0 (nI 0) l3 l5 h _ hv) q_6_50 q_6_52 q_p_31 q_1_9 q_6_53 (by decide +kernel) rfl ⟨Nat.le_of_ble_eq_true rfl, Nat.le_of_ble_eq_true rfl⟩ (st0 := [.int l5, .int l3, .int (nI 0), .ref (e_ad G l0), .int l4]) (st1 := [.int (e_b p1.1), .int l4]) rfl rfl hl.1 (Nat.le_of_ble_eq_true rfl) dX9_slopes_61 ⟨Nat.le_refl _, Nat.le_refl _⟩ (fun H locs J => ?_)
    refine lv_if_eq (tgt := 76) hx hb dX9_slopes_64 (by decide) (fun hc => ?_) (fun hc => ?_)
    · have hM := e_ip hc hM
      refine lv_iconst (v := nI 0) hx hb dX9_slopes_76 (by decide) ?_
      exact mX9_slopes_b77 E K47 l0 l3 l5 (nI 0) l4 p1.2 hM J (lv_sub hl [0, 1, 3] rfl)
    · have hM := e_in hc hM
      refine lv_iconst (v := nI 1) hx hb dX9_slopes_67 (by decide) ?_
      refine lv_iload hx hb dX9_slopes_68 (lv_at hl 3 rfl) ?_
      refine lv_iconst (v := nI 5) hx hb dX9_slopes_70 (by decide) ?_
      refine lv_iadd hx hb dX9_slopes_71 ?_
      refine lv_ishl hx hb dX9_slopes_72 ?_
      refine lv_goto (tgt := 77) hx hb dX9_slopes_73 (by decide) ?_
      exact mX9_slopes_b77 E K47 l0 l3 l5 ((nI 1) <<< ((l5 + (nI 5)) &&& 31)) l4 p1.2 hM J (lv_sub hl [0, 1, 3] rfl)
set_option maxRecDepth 100000 in
set_option maxHeartbeats 4000000 in
theorem mX9_slopes_L47 {p : Program} {l : Launch} {e : Env} {s : State} {m : MethodId} {args : Array Value} {below : List Frame} {meth : Method} {c : Code} {G : e_G} {res : (Int32 × e_H)} (E : e_M G p s args m meth c cX9_slopes 6 (some FieldType.int) RX9) (n : Nat) (l0 : Nat) (l3 : Int32) (l4 : Int32) (l5 : Int32) (h : e_H) (hM : fX9_slopes_L47 n l0 l3 l4 l5 h = some res) {H : Heap} {locs : List Loc} (J : e_J G s h H locs) {ls : Array Slot} (hl : lv_has ls 6 [(0, .ref (e_ad G l0)), (3, .int l3), (4, .int l4), (5, .int l5)]) : W p l e (e_rm 6 142) s m args below meth c H locs 0 0 (MQ below (e_Q G res.2 (some (.int res.1))) args s 0 0 (e_A G)) (F0 m 47 ls []) := by
  induction n generalizing l0 l3 l4 l5 h H locs ls with
  | zero => exact e_no hM
  | succ n ih => exact mX9_slopes_b47 (k47 := (fX9_slopes_L47 n)) E   (fun l0 l3 l4 l5 h hM H locs J ls hl => ih l0 l3 l4 l5 h hM J hl) l0 l3 l4 l5 h hM J hl
set_option maxRecDepth 100000 in
set_option maxHeartbeats 4000000 in
theorem mX9_slopes {l : Launch} {G : e_G} (l0 : Nat) (l1 : Int32) (l2 : Int32) (h : e_H) (res : (Int32 × e_H)) (hM : fX9_slopes l0 l1 l2 h = some res) : Met l yX9_slopes (e_W yX9_slopes cX9_slopes 6 (some FieldType.int)) (e_rm 6 142) (e_Pc G h [.ref (e_ad G l0), .int l1, .int l2]) (e_Q G res.2 (some (.int res.1))) 0 0 (e_A G) := by
  refine Met.ofW (cc := cX9_slopes) (maxL := 6) (ret := (some FieldType.int)) (by decide) rfl ?_
  intro p e s m args below meth c s₁ B hml hv
  obtain ⟨rfl, hS, hP⟩ := hv
  have E := e_enter (own := RX9) (ret := (some FieldType.int)) B hml rfl hS hP
  have J : e_J G s h s.heap [] := ⟨hP, va_S.rf⟩
  have hl := lv_entry ([.ref (e_ad G l0), .int l1, .int l2]) (n := 6) (Nat.le_of_ble_eq_true rfl)
  rw [lg_entry_eq]
  generalize (lg_sl ([.ref (e_ad G l0), .int l1, .int l2]) ++ List.replicate (6 - (lg_sl ([.ref (e_ad G l0), .int l1, .int l2])).length) Slot.unset).toArray = ls at hl ⊢
  have hl : lv_has ls 6 [(0, .ref (e_ad G l0)), (1, .int l1), (2, .int l2)] := hl
  obtain ⟨hx, hb, hr, hml, hown, hts, hlocks, hES, hbs⟩ := id E
  unfold fX9_slopes at hM
  obtain ⟨fs_, hk_, hM⟩ := e_bs hM
  refine lv_aload_n hx hb dX9_slopes_0 rfl (lv_at hl 0 rfl) ?_
  refine lv_iload_n hx hb dX9_slopes_1 rfl (lv_at hl 1 rfl) ?_
  obtain ⟨v1, hv, hM⟩ := e_bs hM
  obtain ⟨fs_, hk, -⟩ := e_bs hv
  refine e_callV (ci := 9) (As := [.int l1]) (rest := []) (n := 1) E J hk rfl (mX9_isCurve (l := l) (G := G) l0 l1 h _ hv) q_5_150 q_5_152 q_p_16 q_1_9 q_5_153 (by decide +kernel) rfl ⟨Nat.le_of_ble_eq_true rfl, Nat.le_of_ble_eq_true rfl⟩ (st0 := [.int l1, .ref (e_ad G l0)]) (st1 := [.int (e_b v1)]) rfl rfl hl.1 (Nat.le_of_ble_eq_true rfl) dX9_slopes_2 ⟨Nat.le_refl _, Nat.le_refl _⟩ (fun H locs J => ?_)
  refine lv_if_eq (tgt := 15) hx hb dX9_slopes_5 (by decide) (fun hc => ?_) (fun hc => ?_)
  · have hM := e_ip hc hM
    refine lv_ldc (v := -1000000001) hx hb hown (hts _ q_5_140) dX9_slopes_15 ?_
    obtain rfl := e_so hM
    exact e_iret E J dX9_slopes_17
  · have hM := e_in hc hM
    refine lv_iload_n hx hb dX9_slopes_8 rfl (lv_at hl 2 rfl) ?_
    obtain ⟨v2, hv, hM⟩ := e_bs hM
    refine e_callS (As := [.int l2]) (rest := []) (n := 1) E J (mX9_isPlace (l := l) (G := G) l2 h _ hv) q_6_11 q_6_12 q_1_9 q_6_13 (by decide +kernel) rfl ⟨Nat.le_of_ble_eq_true rfl, Nat.le_of_ble_eq_true rfl⟩ (st0 := [.int l2]) (st1 := [.int (e_b v2)]) rfl rfl hl.1 (Nat.le_of_ble_eq_true rfl) dX9_slopes_9 ⟨Nat.le_refl _, Nat.le_refl _⟩ (fun H locs J => ?_)
    refine lv_if_ne (tgt := 18) hx hb dX9_slopes_12 (by decide) (fun hc => ?_) (fun hc => ?_)
    · have hM := e_in hc hM
      refine lv_aload_n hx hb dX9_slopes_18 rfl (lv_at hl 0 rfl) ?_
      refine lv_iload_n hx hb dX9_slopes_19 rfl (lv_at hl 1 rfl) ?_
      refine lv_iload_n hx hb dX9_slopes_20 rfl (lv_at hl 2 rfl) ?_
      obtain ⟨h3, hv, hM⟩ := e_bs hM
      obtain ⟨fs_, hk, -⟩ := e_bs hv
      refine e_callV (ci := 9) (As := [.int l1, .int l2]) (rest := []) (n := 2) E J hk rfl (mX9_findPlace (l := l) (G := G) l0 l1 l2 h _ hv) q_6_14 q_6_16 q_p_27 q_1_9 q_6_17 (by decide +kernel) rfl ⟨Nat.le_of_ble_eq_true rfl, Nat.le_of_ble_eq_true rfl⟩ (st0 := [.int l2, .int l1, .ref (e_ad G l0)]) (st1 := []) rfl rfl hl.1 (Nat.le_of_ble_eq_true rfl) dX9_slopes_21 ⟨Nat.le_refl _, Nat.le_refl _⟩ (fun H locs J => ?_)
      refine lv_aload_n hx hb dX9_slopes_24 rfl (lv_at hl 0 rfl) ?_
      refine lv_iconst (v := nI 0) hx hb dX9_slopes_25 (by decide) ?_
      obtain ⟨v4, hv, hM⟩ := e_bs hM
      obtain ⟨fs_, hk, -⟩ := e_bs hv
      refine e_callV (ci := 9) (As := [.int (nI 0)]) (rest := []) (n := 1) E J hk rfl (mX9_timesOf (l := l) (G := G) l0 (nI 0) h3 _ hv) q_6_25 q_6_27 q_p_29 q_1_9 q_6_28 (by decide +kernel) rfl ⟨Nat.le_of_ble_eq_true rfl, Nat.le_of_ble_eq_true rfl⟩ (st0 := [.int (nI 0), .ref (e_ad G l0)]) (st1 := [.int v4]) rfl rfl hl.1 (Nat.le_of_ble_eq_true rfl) dX9_slopes_26 ⟨Nat.le_refl _, Nat.le_refl _⟩ (fun H locs J => ?_)
      refine lv_istore_n (lv' := [(3, .int v4), (0, .ref (e_ad G l0)), (1, .int l1), (2, .int l2)]) hx hb dX9_slopes_29 rfl hl (by decide) rfl (fun ls hl => ?_)
      refine lv_iload_n hx hb dX9_slopes_30 rfl (lv_at hl 0 rfl) ?_
      obtain ⟨v5, hv, hM⟩ := e_bs hM
      refine e_callS (As := [.int v4]) (rest := []) (n := 1) E J (mX9_isSome (l := l) (G := G) v4 h3 _ hv) q_6_37 q_6_38 q_1_9 q_6_39 (by decide +kernel) rfl ⟨Nat.le_of_ble_eq_true rfl, Nat.le_of_ble_eq_true rfl⟩ (st0 := [.int v4]) (st1 := [.int (e_b v5)]) rfl rfl hl.1 (Nat.le_of_ble_eq_true rfl) dX9_slopes_31 ⟨Nat.le_refl _, Nat.le_refl _⟩ (fun H locs J => ?_)
      refine lv_if_ne (tgt := 40) hx hb dX9_slopes_34 (by decide) (fun hc => ?_) (fun hc => ?_)
      · have hM := e_in hc hM
        refine lv_iconst (v := nI 0) hx hb dX9_slopes_40 (by decide) ?_
        refine lv_istore (lv' := [(4, .int (nI 0)), (3, .int v4), (0, .ref (e_ad G l0)), (1, .int l1), (2, .int l2)]) hx hb dX9_slopes_41 hl (by decide) rfl (fun ls hl => ?_)
        refine lv_bipush (v := -5) hx hb dX9_slopes_43 (by decide) ?_
        refine lv_istore (lv' := [(5, .int (-5 : Int32)), (4, .int (nI 0)), (3, .int v4), (0, .ref (e_ad G l0)), (1, .int l1), (2, .int l2)]) hx hb dX9_slopes_45 hl (by decide) rfl (fun ls hl => ?_)
        exact mX9_slopes_L47 E 200 l0 v4 (nI 0) (-5 : Int32) h3 hM J (lv_sub hl [3, 2, 1, 0] rfl)
      · have hM := e_ip hc hM
        refine lv_ldc (v := -1000000002) hx hb hown (hts _ q_6_49) dX9_slopes_37 ?_
        obtain rfl := e_so hM
        exact e_iret E J dX9_slopes_39
    · have hM := e_ip hc hM
      refine lv_ldc (v := -1000000001) hx hb hown (hts _ q_5_140) dX9_slopes_15 ?_
      obtain rfl := e_so hM
      exact e_iret E J dX9_slopes_17
set_option maxRecDepth 100000 in
set_option maxHeartbeats 4000000 in
theorem mX9_parts_b43 {p : Program} {l : Launch} {e : Env} {s : State} {m : MethodId} {args : Array Value} {below : List Frame} {meth : Method} {c : Code} {G : e_G} {res : (Bool × e_H)} {k43 : Nat → Int32 → Int64 → Int32 → e_H → Option (Bool × e_H)} (E : e_M G p s args m meth c cX9_parts 9 (some FieldType.boolean) RX9) (K43 : ∀ (l0 : Nat) (l1 : Int32) (l4 : Int64) (l6 : Int32) (h : e_H), k43 l0 l1 l4 l6 h = some res → ∀ (H : Heap) (locs : List Loc), e_J G s h H locs → ∀ (ls : Array Slot), lv_has ls 9 [(0, .ref (e_ad G l0)), (1, .int l1), (4, .long l4), (6, .int l6)] → W p l e (e_rm 0 0) s m args below meth c H locs 0 0 (MQ below (e_Q G res.2 (some (.int (e_b res.1)))) args s 0 0 (e_A G)) (F0 m 43 ls [])) (l0 : Nat) (l1 : Int32) (l4 : Int64) (l6 : Int32) (h : e_H) (hM : fX9_parts_b43 k43 l0 l1 l4 l6 h = some res) {H : Heap} {locs : List Loc} (J : e_J G s h H locs) {ls : Array Slot} (hl : lv_has ls 9 [(0, .ref (e_ad G l0)), (1, .int l1), (4, .long l4), (6, .int l6)]) : W p l e (e_rm 0 0) s m args below meth c H locs 0 0 (MQ below (e_Q G res.2 (some (.int (e_b res.1)))) args s 0 0 (e_A G)) (F0 m 43 ls []) := by
  obtain ⟨hx, hb, hr, hml, hown, hts, hlocks, hES, hbs⟩ := id E
  unfold fX9_parts_b43 at hM
  refine lv_iload hx hb dX9_parts_43 (lv_at hl 3 rfl) ?_
  refine lv_if_lt (tgt := 82) hx hb dX9_parts_45 (by decide) (fun hc => ?_) (fun hc => ?_)
  · have hM := e_ip hc hM
    refine lv_iconst (v := nI 1) hx hb dX9_parts_82 (by decide) ?_
    obtain rfl := e_so hM
    exact e_zret E J (true) rfl dX9_parts_83
  · have hM := e_in hc hM
    refine lv_aload_n hx hb dX9_parts_48 rfl (lv_at hl 0 rfl) ?_
    obtain ⟨v1, hv, hM⟩ := e_bs hM
    refine e_getR (C := RX9) (T := TX9) (N := 40) E J hv rfl inX9 (by decide) q_5_16 dX9_parts_49 ?_
    rcases v1 with _ | a2
    · have hM := e_on0 hM
      refine W.eq (g2 := F0 m 52 ls [.null]) rfl ?_
      refine lv_iload hx hb dX9_parts_52 (lv_at hl 3 rfl) ?_
      exact e_no hM
    · have hM := e_on1 hM
      refine W.eq (g2 := F0 m 52 ls [.ref (e_ad G a2)]) rfl ?_
      refine lv_iload hx hb dX9_parts_52 (lv_at hl 3 rfl) ?_
      obtain ⟨v4, hv, hM⟩ := e_bs hM
      refine e_lald E J hv dX9_parts_54 ?_
      refine lv_lstore (lv' := [(7, .long v4), (0, .ref (e_ad G l0)), (1, .int l1), (4, .long l4), (6, .int l6)]) hx hb dX9_parts_55 hl (by decide) rfl (fun ls hl => ?_)
      refine lv_aload_n hx hb dX9_parts_57 rfl (lv_at hl 1 rfl) ?_
      obtain ⟨v5, hv, hM⟩ := e_bs hM
      refine e_getR (C := RX9) (T := TX9) (N := 40) E J hv rfl inX9 (by decide) q_5_16 dX9_parts_58 ?_
      rcases v5 with _ | a6
      · have hM := e_on0 hM
        refine W.eq (g2 := F0 m 61 ls [.null]) rfl ?_
        refine lv_iload hx hb dX9_parts_61 (lv_at hl 4 rfl) ?_
        refine lv_lload hx hb dX9_parts_63 (lv_at hl 3 rfl) ?_
        exact e_no hM
      · have hM := e_on1 hM
        refine W.eq (g2 := F0 m 61 ls [.ref (e_ad G a6)]) rfl ?_
        refine lv_iload hx hb dX9_parts_61 (lv_at hl 4 rfl) ?_
        refine lv_lload hx hb dX9_parts_63 (lv_at hl 3 rfl) ?_
        obtain ⟨h8, hv, hM⟩ := e_bs hM
        refine e_last E J hv dX9_parts_65 (fun H locs J => ?_)
        refine lv_lload hx hb dX9_parts_66 (lv_at hl 3 rfl) ?_
        refine lv_iload_n hx hb dX9_parts_68 rfl (lv_at hl 2 rfl) ?_
        refine lv_i2l hx hb dX9_parts_69 rfl ?_
        refine lv_lmul hx hb dX9_parts_70 ?_
        refine lv_lload hx hb dX9_parts_71 (lv_at hl 0 rfl) ?_
        refine lv_ladd hx hb dX9_parts_73 ?_
        refine lv_lstore (lv' := [(4, .long ((l4 * (l1).toInt64) + v4)), (7, .long v4), (0, .ref (e_ad G l0)), (1, .int l1), (6, .int l6)]) hx hb dX9_parts_74 hl (by decide) rfl (fun ls hl => ?_)
        refine lv_iinc (v := (l6 + (-1 : Int32))) (lv' := [(6, .int (l6 + (-1 : Int32))), (4, .long ((l4 * (l1).toInt64) + v4)), (7, .long v4), (0, .ref (e_ad G l0)), (1, .int l1)]) hx hb dX9_parts_76 hl (k := 4) rfl rfl (by decide) rfl (fun ls hl => ?_)
        refine lv_goto (tgt := 43) hx hb dX9_parts_79 (by decide) ?_
        exact K43 l0 l1 ((l4 * (l1).toInt64) + v4) (l6 + (-1 : Int32)) h8 hM _ _ J _ (lv_sub hl [3, 4, 1, 0] rfl)
set_option maxRecDepth 100000 in
set_option maxHeartbeats 4000000 in
theorem mX9_parts_L43 {p : Program} {l : Launch} {e : Env} {s : State} {m : MethodId} {args : Array Value} {below : List Frame} {meth : Method} {c : Code} {G : e_G} {res : (Bool × e_H)} (E : e_M G p s args m meth c cX9_parts 9 (some FieldType.boolean) RX9) (n : Nat) (l0 : Nat) (l1 : Int32) (l4 : Int64) (l6 : Int32) (h : e_H) (hM : fX9_parts_L43 n l0 l1 l4 l6 h = some res) {H : Heap} {locs : List Loc} (J : e_J G s h H locs) {ls : Array Slot} (hl : lv_has ls 9 [(0, .ref (e_ad G l0)), (1, .int l1), (4, .long l4), (6, .int l6)]) : W p l e (e_rm 0 0) s m args below meth c H locs 0 0 (MQ below (e_Q G res.2 (some (.int (e_b res.1)))) args s 0 0 (e_A G)) (F0 m 43 ls []) := by
  induction n generalizing l0 l1 l4 l6 h H locs ls with
  | zero => exact e_no hM
  | succ n ih => exact mX9_parts_b43 (k43 := (fX9_parts_L43 n)) E   (fun l0 l1 l4 l6 h hM H locs J ls hl => ih l0 l1 l4 l6 h hM J hl) l0 l1 l4 l6 h hM J hl
set_option maxRecDepth 100000 in
set_option maxHeartbeats 4000000 in
theorem mX9_parts_b5 {p : Program} {l : Launch} {e : Env} {s : State} {m : MethodId} {args : Array Value} {below : List Frame} {meth : Method} {c : Code} {G : e_G} {res : (Bool × e_H)} {k5 : Nat → Int32 → Int64 → Int32 → e_H → Option (Bool × e_H)} (E : e_M G p s args m meth c cX9_parts 9 (some FieldType.boolean) RX9) (K5 : ∀ (l0 : Nat) (l1 : Int32) (l2 : Int64) (l4 : Int32) (h : e_H), k5 l0 l1 l2 l4 h = some res → ∀ (H : Heap) (locs : List Loc), e_J G s h H locs → ∀ (ls : Array Slot), lv_has ls 9 [(0, .ref (e_ad G l0)), (1, .int l1), (2, .long l2), (4, .int l4)] → W p l e (e_rm 0 0) s m args below meth c H locs 0 0 (MQ below (e_Q G res.2 (some (.int (e_b res.1)))) args s 0 0 (e_A G)) (F0 m 5 ls [])) (l0 : Nat) (l1 : Int32) (l2 : Int64) (l4 : Int32) (h : e_H) (hM : fX9_parts_b5 k5 l0 l1 l2 l4 h = some res) {H : Heap} {locs : List Loc} (J : e_J G s h H locs) {ls : Array Slot} (hl : lv_has ls 9 [(0, .ref (e_ad G l0)), (1, .int l1), (2, .long l2), (4, .int l4)]) : W p l e (e_rm 0 0) s m args below meth c H locs 0 0 (MQ below (e_Q G res.2 (some (.int (e_b res.1)))) args s 0 0 (e_A G)) (F0 m 5 ls []) := by
  obtain ⟨hx, hb, hr, hml, hown, hts, hlocks, hES, hbs⟩ := id E
  unfold fX9_parts_b5 at hM
  refine lv_iload hx hb dX9_parts_5 (lv_at hl 3 rfl) ?_
  refine lv_if_lt (tgt := 29) hx hb dX9_parts_7 (by decide) (fun hc => ?_) (fun hc => ?_)
  · have hM := e_ip hc hM
    refine lv_lload_n hx hb dX9_parts_29 rfl (lv_at hl 2 rfl) ?_
    refine lv_lconst (v := 0) hx hb dX9_parts_30 (by decide) ?_
    refine W.lcmp hx hb dX9_parts_31 ?_
    refine lv_if_eq (tgt := 37) hx hb dX9_parts_32 (by decide) (fun hc => ?_) (fun hc => ?_)
    · have hM := e_ip hc hM
      refine lv_lconst (v := 0) hx hb dX9_parts_37 (by decide) ?_
      refine lv_lstore (lv' := [(4, .long (0 : Int64)), (0, .ref (e_ad G l0)), (1, .int l1), (2, .long l2)]) hx hb dX9_parts_38 hl (by decide) rfl (fun ls hl => ?_)
      refine lv_iconst (v := nI 4) hx hb dX9_parts_40 (by decide) ?_
      refine lv_istore (lv' := [(6, .int (nI 4)), (4, .long (0 : Int64)), (0, .ref (e_ad G l0)), (1, .int l1), (2, .long l2)]) hx hb dX9_parts_41 hl (by decide) rfl (fun ls hl => ?_)
      exact mX9_parts_L43 E 200 l0 l1 (0 : Int64) (nI 4) h hM J (lv_sub hl [2, 3, 1, 0] rfl)
    · have hM := e_in hc hM
      refine lv_iconst (v := nI 0) hx hb dX9_parts_35 (by decide) ?_
      obtain rfl := e_so hM
      exact e_zret E J (false) rfl dX9_parts_36
  · have hM := e_in hc hM
    refine lv_lload_n hx hb dX9_parts_10 rfl (lv_at hl 2 rfl) ?_
    refine lv_iload_n hx hb dX9_parts_11 rfl (lv_at hl 1 rfl) ?_
    refine lv_i2l hx hb dX9_parts_12 rfl ?_
    refine lv_lmul hx hb dX9_parts_13 ?_
    refine lv_aload_n hx hb dX9_parts_14 rfl (lv_at hl 0 rfl) ?_
    obtain ⟨v1, hv, hM⟩ := e_bs hM
    refine e_getR (C := RX9) (T := TX9) (N := 40) E J hv rfl inX9 (by decide) q_5_16 dX9_parts_15 ?_
    rcases v1 with _ | a2
    · have hM := e_on0 hM
      refine W.eq (g2 := F0 m 18 ls [.null, .long (l2 * (l1).toInt64)]) rfl ?_
      refine lv_iload hx hb dX9_parts_18 (lv_at hl 3 rfl) ?_
      exact e_no hM
    · have hM := e_on1 hM
      refine W.eq (g2 := F0 m 18 ls [.ref (e_ad G a2), .long (l2 * (l1).toInt64)]) rfl ?_
      refine lv_iload hx hb dX9_parts_18 (lv_at hl 3 rfl) ?_
      obtain ⟨v4, hv, hM⟩ := e_bs hM
      refine e_lald E J hv dX9_parts_20 ?_
      refine lv_ladd hx hb dX9_parts_21 ?_
      refine lv_lstore_n (lv' := [(2, .long ((l2 * (l1).toInt64) + v4)), (0, .ref (e_ad G l0)), (1, .int l1), (4, .int l4)]) hx hb dX9_parts_22 rfl hl (by decide) rfl (fun ls hl => ?_)
      refine lv_iinc (v := (l4 + (-1 : Int32))) (lv' := [(4, .int (l4 + (-1 : Int32))), (2, .long ((l2 * (l1).toInt64) + v4)), (0, .ref (e_ad G l0)), (1, .int l1)]) hx hb dX9_parts_23 hl (k := 3) rfl rfl (by decide) rfl (fun ls hl => ?_)
      refine lv_goto (tgt := 5) hx hb dX9_parts_26 (by decide) ?_
      exact K5 l0 l1 ((l2 * (l1).toInt64) + v4) (l4 + (-1 : Int32)) h hM _ _ J _ (lv_sub hl [2, 3, 1, 0] rfl)
set_option maxRecDepth 100000 in
set_option maxHeartbeats 4000000 in
theorem mX9_parts_L5 {p : Program} {l : Launch} {e : Env} {s : State} {m : MethodId} {args : Array Value} {below : List Frame} {meth : Method} {c : Code} {G : e_G} {res : (Bool × e_H)} (E : e_M G p s args m meth c cX9_parts 9 (some FieldType.boolean) RX9) (n : Nat) (l0 : Nat) (l1 : Int32) (l2 : Int64) (l4 : Int32) (h : e_H) (hM : fX9_parts_L5 n l0 l1 l2 l4 h = some res) {H : Heap} {locs : List Loc} (J : e_J G s h H locs) {ls : Array Slot} (hl : lv_has ls 9 [(0, .ref (e_ad G l0)), (1, .int l1), (2, .long l2), (4, .int l4)]) : W p l e (e_rm 0 0) s m args below meth c H locs 0 0 (MQ below (e_Q G res.2 (some (.int (e_b res.1)))) args s 0 0 (e_A G)) (F0 m 5 ls []) := by
  induction n generalizing l0 l1 l2 l4 h H locs ls with
  | zero => exact e_no hM
  | succ n ih => exact mX9_parts_b5 (k5 := (fX9_parts_L5 n)) E   (fun l0 l1 l2 l4 h hM H locs J ls hl => ih l0 l1 l2 l4 h hM J hl) l0 l1 l2 l4 h hM J hl
set_option maxRecDepth 100000 in
set_option maxHeartbeats 4000000 in
theorem mX9_parts {l : Launch} {G : e_G} (l0 : Nat) (l1 : Int32) (h : e_H) (res : (Bool × e_H)) (hM : fX9_parts l0 l1 h = some res) : Met l yX9_parts (e_W yX9_parts cX9_parts 9 (some FieldType.boolean)) (e_rm 0 0) (e_Pc G h [.ref (e_ad G l0), .int l1]) (e_Q G res.2 (some (.int (e_b res.1)))) 0 0 (e_A G) := by
  refine Met.ofW (cc := cX9_parts) (maxL := 9) (ret := (some FieldType.boolean)) (by decide) rfl ?_
  intro p e s m args below meth c s₁ B hml hv
  obtain ⟨rfl, hS, hP⟩ := hv
  have E := e_enter (own := RX9) (ret := (some FieldType.boolean)) B hml rfl hS hP
  have J : e_J G s h s.heap [] := ⟨hP, va_S.rf⟩
  have hl := lv_entry ([.ref (e_ad G l0), .int l1]) (n := 9) (Nat.le_of_ble_eq_true rfl)
  rw [lg_entry_eq]
  generalize (lg_sl ([.ref (e_ad G l0), .int l1]) ++ List.replicate (9 - (lg_sl ([.ref (e_ad G l0), .int l1])).length) Slot.unset).toArray = ls at hl ⊢
  have hl : lv_has ls 9 [(0, .ref (e_ad G l0)), (1, .int l1)] := hl
  obtain ⟨hx, hb, hr, hml, hown, hts, hlocks, hES, hbs⟩ := id E
  unfold fX9_parts at hM
  obtain ⟨fs_, hk_, hM⟩ := e_bs hM
  refine lv_lconst (v := 0) hx hb dX9_parts_0 (by decide) ?_
  refine lv_lstore_n (lv' := [(2, .long (0 : Int64)), (0, .ref (e_ad G l0)), (1, .int l1)]) hx hb dX9_parts_1 rfl hl (by decide) rfl (fun ls hl => ?_)
  refine lv_iconst (v := nI 4) hx hb dX9_parts_2 (by decide) ?_
  refine lv_istore (lv' := [(4, .int (nI 4)), (2, .long (0 : Int64)), (0, .ref (e_ad G l0)), (1, .int l1)]) hx hb dX9_parts_3 hl (by decide) rfl (fun ls hl => ?_)
  exact mX9_parts_L5 E 200 l0 l1 (0 : Int64) (nI 4) h hM J (lv_sub hl [2, 3, 1, 0] rfl)
set_option maxRecDepth 100000 in
set_option maxHeartbeats 4000000 in
theorem mX9_often_b86 {p : Program} {l : Launch} {e : Env} {s : State} {m : MethodId} {args : Array Value} {below : List Frame} {meth : Method} {c : Code} {G : e_G} {res : (Int32 × e_H)} {k86 : Nat → Int32 → Int32 → e_H → Option (Int32 × e_H)} (E : e_M G p s args m meth c cX9_often 6 (some FieldType.int) RX9) (K86 : ∀ (l0 : Nat) (l3 : Int32) (l5 : Int32) (h : e_H), k86 l0 l3 l5 h = some res → ∀ (H : Heap) (locs : List Loc), e_J G s h H locs → ∀ (ls : Array Slot), lv_has ls 6 [(0, .ref (e_ad G l0)), (3, .int l3), (5, .int l5)] → W p l e (e_rm 6 142) s m args below meth c H locs 0 0 (MQ below (e_Q G res.2 (some (.int res.1))) args s 0 0 (e_A G)) (F0 m 86 ls [])) (l0 : Nat) (l3 : Int32) (l5 : Int32) (h : e_H) (hM : fX9_often_b86 k86 l0 l3 l5 h = some res) {H : Heap} {locs : List Loc} (J : e_J G s h H locs) {ls : Array Slot} (hl : lv_has ls 6 [(0, .ref (e_ad G l0)), (3, .int l3), (5, .int l5)]) : W p l e (e_rm 6 142) s m args below meth c H locs 0 0 (MQ below (e_Q G res.2 (some (.int res.1))) args s 0 0 (e_A G)) (F0 m 86 ls []) := by
  obtain ⟨hx, hb, hr, hml, hown, hts, hlocks, hES, hbs⟩ := id E
  unfold fX9_often_b86 at hM
  refine lv_aload_n hx hb dX9_often_86 rfl (lv_at hl 0 rfl) ?_
  refine lv_iload_n hx hb dX9_often_87 rfl (lv_at hl 1 rfl) ?_
  obtain ⟨p1, hv, hM⟩ := e_bs hM
  obtain ⟨fs_, hk, -⟩ := e_bs hv
  refine e_callV (ci := 9) (As := [.int l3]) (rest := []) (n := 1) E J hk rfl (mX9_parts (l := l) (G := G) l0 l3 h _ hv) q_6_62 q_6_64 q_p_33 q_1_9 q_6_65 (by decide +kernel) rfl ⟨Nat.le_of_ble_eq_true rfl, Nat.le_of_ble_eq_true rfl⟩ (st0 := [.int l3, .ref (e_ad G l0)]) (st1 := [.int (e_b p1.1)]) rfl rfl hl.1 (Nat.le_of_ble_eq_true rfl) dX9_often_88 ⟨Nat.le_refl _, Nat.le_refl _⟩ (fun H locs J => ?_)
  refine lv_if_eq (tgt := 100) hx hb dX9_often_91 (by decide) (fun hc => ?_) (fun hc => ?_)
  · have hM := e_ip hc hM
    refine lv_iload hx hb dX9_often_100 (lv_at hl 2 rfl) ?_
    obtain rfl := e_so hM
    exact e_iret E J dX9_often_102
  · have hM := e_in hc hM
    refine lv_iinc (v := (l5 + (nI 1))) (lv' := [(5, .int (l5 + (nI 1))), (0, .ref (e_ad G l0)), (3, .int l3)]) hx hb dX9_often_94 hl (k := 2) rfl rfl (by decide) rfl (fun ls hl => ?_)
    refine lv_goto (tgt := 86) hx hb dX9_often_97 (by decide) ?_
    exact K86 l0 l3 (l5 + (nI 1)) p1.2 hM _ _ J _ (lv_sub hl [1, 2, 0] rfl)
set_option maxRecDepth 100000 in
set_option maxHeartbeats 4000000 in
theorem mX9_often_L86 {p : Program} {l : Launch} {e : Env} {s : State} {m : MethodId} {args : Array Value} {below : List Frame} {meth : Method} {c : Code} {G : e_G} {res : (Int32 × e_H)} (E : e_M G p s args m meth c cX9_often 6 (some FieldType.int) RX9) (n : Nat) (l0 : Nat) (l3 : Int32) (l5 : Int32) (h : e_H) (hM : fX9_often_L86 n l0 l3 l5 h = some res) {H : Heap} {locs : List Loc} (J : e_J G s h H locs) {ls : Array Slot} (hl : lv_has ls 6 [(0, .ref (e_ad G l0)), (3, .int l3), (5, .int l5)]) : W p l e (e_rm 6 142) s m args below meth c H locs 0 0 (MQ below (e_Q G res.2 (some (.int res.1))) args s 0 0 (e_A G)) (F0 m 86 ls []) := by
  induction n generalizing l0 l3 l5 h H locs ls with
  | zero => exact e_no hM
  | succ n ih => exact mX9_often_b86 (k86 := (fX9_often_L86 n)) E   (fun l0 l3 l5 h hM H locs J ls hl => ih l0 l3 l5 h hM J hl) l0 l3 l5 h hM J hl
set_option maxRecDepth 100000 in
set_option maxHeartbeats 4000000 in
theorem mX9_often_b55 {p : Program} {l : Launch} {e : Env} {s : State} {m : MethodId} {args : Array Value} {below : List Frame} {meth : Method} {c : Code} {G : e_G} {res : (Int32 × e_H)} {k55 : Nat → Int32 → Int32 → Int32 → e_H → Option (Int32 × e_H)} (E : e_M G p s args m meth c cX9_often 6 (some FieldType.int) RX9) (K55 : ∀ (l0 : Nat) (l3 : Int32) (l4 : Int32) (l5 : Int32) (h : e_H), k55 l0 l3 l4 l5 h = some res → ∀ (H : Heap) (locs : List Loc), e_J G s h H locs → ∀ (ls : Array Slot), lv_has ls 6 [(0, .ref (e_ad G l0)), (3, .int l3), (4, .int l4), (5, .int l5)] → W p l e (e_rm 6 142) s m args below meth c H locs 0 0 (MQ below (e_Q G res.2 (some (.int res.1))) args s 0 0 (e_A G)) (F0 m 55 ls [])) (l0 : Nat) (l3 : Int32) (l4 : Int32) (l5 : Int32) (h : e_H) (hM : fX9_often_b55 k55 l0 l3 l4 l5 h = some res) {H : Heap} {locs : List Loc} (J : e_J G s h H locs) {ls : Array Slot} (hl : lv_has ls 6 [(0, .ref (e_ad G l0)), (3, .int l3), (4, .int l4), (5, .int l5)]) : W p l e (e_rm 6 142) s m args below meth c H locs 0 0 (MQ below (e_Q G res.2 (some (.int res.1))) args s 0 0 (e_A G)) (F0 m 55 ls []) := by
  obtain ⟨hx, hb, hr, hml, hown, hts, hlocks, hES, hbs⟩ := id E
  unfold fX9_often_b55 at hM
  refine lv_iload hx hb dX9_often_55 (lv_at hl 3 rfl) ?_
  refine lv_iconst (v := nI 5) hx hb dX9_often_57 (by decide) ?_
  refine lv_icmp_ge (tgt := 83) hx hb dX9_often_58 (by decide) (fun hc => ?_) (fun hc => ?_)
  · have hM := e_ip hc hM
    refine lv_iconst (v := nI 0) hx hb dX9_often_83 (by decide) ?_
    refine lv_istore (lv' := [(5, .int (nI 0)), (0, .ref (e_ad G l0)), (3, .int l3), (4, .int l4)]) hx hb dX9_often_84 hl (by decide) rfl (fun ls hl => ?_)
    exact mX9_often_L86 E 200 l0 l3 (nI 0) h hM J (lv_sub hl [1, 2, 0] rfl)
  · have hM := e_in hc hM
    refine lv_aload_n hx hb dX9_often_61 rfl (lv_at hl 0 rfl) ?_
    obtain ⟨v1, hv, hM⟩ := e_bs hM
    refine e_getR (C := RX9) (T := TX9) (N := 40) E J hv rfl inX9 (by decide) q_5_16 dX9_often_62 ?_
    rcases v1 with _ | a2
    · have hM := e_on0 hM
      refine W.eq (g2 := F0 m 65 ls [.null]) rfl ?_
      refine lv_iload hx hb dX9_often_65 (lv_at hl 3 rfl) ?_
      refine lv_aload_n hx hb dX9_often_67 rfl (lv_at hl 0 rfl) ?_
      refine lv_iconst (v := nI 0) hx hb dX9_often_68 (by decide) ?_
      refine lv_iload hx hb dX9_often_69 (lv_at hl 2 rfl) ?_
      refine lv_iload hx hb dX9_often_71 (lv_at hl 3 rfl) ?_
      obtain ⟨v3, hv, hM⟩ := e_bs hM
      obtain ⟨fs_, hk, -⟩ := e_bs hv
      refine e_callV (ci := 9) (As := [.int (nI 0), .int l4, .int l5]) (rest := [.int l5, .null]) (n := 3) E J hk rfl (mX9_lowestOf (l := l) (G := G) l0 (nI 0) l4 l5 h _ hv) q_6_40 q_6_42 q_p_30 q_1_9 q_6_43 (by decide +kernel) rfl ⟨Nat.le_of_ble_eq_true rfl, Nat.le_of_ble_eq_true rfl⟩ (st0 := [.int l5, .int l4, .int (nI 0), .ref (e_ad G l0), .int l5, .null]) (st1 := [.long v3, .int l5, .null]) rfl rfl hl.1 (Nat.le_of_ble_eq_true rfl) dX9_often_73 ⟨Nat.le_refl _, Nat.le_refl _⟩ (fun H locs J => ?_)
      exact e_no hM
    · have hM := e_on1 hM
      refine W.eq (g2 := F0 m 65 ls [.ref (e_ad G a2)]) rfl ?_
      refine lv_iload hx hb dX9_often_65 (lv_at hl 3 rfl) ?_
      refine lv_aload_n hx hb dX9_often_67 rfl (lv_at hl 0 rfl) ?_
      refine lv_iconst (v := nI 0) hx hb dX9_often_68 (by decide) ?_
      refine lv_iload hx hb dX9_often_69 (lv_at hl 2 rfl) ?_
      refine lv_iload hx hb dX9_often_71 (lv_at hl 3 rfl) ?_
      obtain ⟨v5, hv, hM⟩ := e_bs hM
      obtain ⟨fs_, hk, -⟩ := e_bs hv
      refine e_callV (ci := 9) (As := [.int (nI 0), .int l4, .int l5]) (rest := [.int l5, .ref (e_ad G a2)]) (n := 3) E J hk rfl (mX9_lowestOf (l := l) (G := G) l0 (nI 0) l4 l5 h _ hv) q_6_40 q_6_42 q_p_30 q_1_9 q_6_43 (by decide +kernel) rfl ⟨Nat.le_of_ble_eq_true rfl, Nat.le_of_ble_eq_true rfl⟩ (st0 := [.int l5, .int l4, .int (nI 0), .ref (e_ad G l0), .int l5, .ref (e_ad G a2)]) (st1 := [.long v5, .int l5, .ref (e_ad G a2)]) rfl rfl hl.1 (Nat.le_of_ble_eq_true rfl) dX9_often_73 ⟨Nat.le_refl _, Nat.le_refl _⟩ (fun H locs J => ?_)
      obtain ⟨h6, hv, hM⟩ := e_bs hM
      refine e_last E J hv dX9_often_76 (fun H locs J => ?_)
      refine lv_iinc (v := (l5 + (nI 1))) (lv' := [(5, .int (l5 + (nI 1))), (0, .ref (e_ad G l0)), (3, .int l3), (4, .int l4)]) hx hb dX9_often_77 hl (k := 3) rfl rfl (by decide) rfl (fun ls hl => ?_)
      refine lv_goto (tgt := 55) hx hb dX9_often_80 (by decide) ?_
      exact K55 l0 l3 l4 (l5 + (nI 1)) h6 hM _ _ J _ (lv_sub hl [1, 2, 3, 0] rfl)
set_option maxRecDepth 100000 in
set_option maxHeartbeats 4000000 in
theorem mX9_often_L55 {p : Program} {l : Launch} {e : Env} {s : State} {m : MethodId} {args : Array Value} {below : List Frame} {meth : Method} {c : Code} {G : e_G} {res : (Int32 × e_H)} (E : e_M G p s args m meth c cX9_often 6 (some FieldType.int) RX9) (n : Nat) (l0 : Nat) (l3 : Int32) (l4 : Int32) (l5 : Int32) (h : e_H) (hM : fX9_often_L55 n l0 l3 l4 l5 h = some res) {H : Heap} {locs : List Loc} (J : e_J G s h H locs) {ls : Array Slot} (hl : lv_has ls 6 [(0, .ref (e_ad G l0)), (3, .int l3), (4, .int l4), (5, .int l5)]) : W p l e (e_rm 6 142) s m args below meth c H locs 0 0 (MQ below (e_Q G res.2 (some (.int res.1))) args s 0 0 (e_A G)) (F0 m 55 ls []) := by
  induction n generalizing l0 l3 l4 l5 h H locs ls with
  | zero => exact e_no hM
  | succ n ih => exact mX9_often_b55 (k55 := (fX9_often_L55 n)) E   (fun l0 l3 l4 l5 h hM H locs J ls hl => ih l0 l3 l4 l5 h hM J hl) l0 l3 l4 l5 h hM J hl
set_option maxRecDepth 100000 in
set_option maxHeartbeats 4000000 in
theorem mX9_often {l : Launch} {G : e_G} (l0 : Nat) (l1 : Int32) (l2 : Int32) (l3 : Int32) (h : e_H) (res : (Int32 × e_H)) (hM : fX9_often l0 l1 l2 l3 h = some res) : Met l yX9_often (e_W yX9_often cX9_often 6 (some FieldType.int)) (e_rm 6 142) (e_Pc G h [.ref (e_ad G l0), .int l1, .int l2, .int l3]) (e_Q G res.2 (some (.int res.1))) 0 0 (e_A G) := by
  refine Met.ofW (cc := cX9_often) (maxL := 6) (ret := (some FieldType.int)) (by decide) rfl ?_
  intro p e s m args below meth c s₁ B hml hv
  obtain ⟨rfl, hS, hP⟩ := hv
  have E := e_enter (own := RX9) (ret := (some FieldType.int)) B hml rfl hS hP
  have J : e_J G s h s.heap [] := ⟨hP, va_S.rf⟩
  have hl := lv_entry ([.ref (e_ad G l0), .int l1, .int l2, .int l3]) (n := 6) (Nat.le_of_ble_eq_true rfl)
  rw [lg_entry_eq]
  generalize (lg_sl ([.ref (e_ad G l0), .int l1, .int l2, .int l3]) ++ List.replicate (6 - (lg_sl ([.ref (e_ad G l0), .int l1, .int l2, .int l3])).length) Slot.unset).toArray = ls at hl ⊢
  have hl : lv_has ls 6 [(0, .ref (e_ad G l0)), (1, .int l1), (2, .int l2), (3, .int l3)] := hl
  obtain ⟨hx, hb, hr, hml, hown, hts, hlocks, hES, hbs⟩ := id E
  unfold fX9_often at hM
  obtain ⟨fs_, hk_, hM⟩ := e_bs hM
  refine lv_aload_n hx hb dX9_often_0 rfl (lv_at hl 0 rfl) ?_
  refine lv_iload_n hx hb dX9_often_1 rfl (lv_at hl 1 rfl) ?_
  obtain ⟨v1, hv, hM⟩ := e_bs hM
  obtain ⟨fs_, hk, -⟩ := e_bs hv
  refine e_callV (ci := 9) (As := [.int l1]) (rest := []) (n := 1) E J hk rfl (mX9_isCurve (l := l) (G := G) l0 l1 h _ hv) q_5_150 q_5_152 q_p_16 q_1_9 q_5_153 (by decide +kernel) rfl ⟨Nat.le_of_ble_eq_true rfl, Nat.le_of_ble_eq_true rfl⟩ (st0 := [.int l1, .ref (e_ad G l0)]) (st1 := [.int (e_b v1)]) rfl rfl hl.1 (Nat.le_of_ble_eq_true rfl) dX9_often_2 ⟨Nat.le_refl _, Nat.le_refl _⟩ (fun H locs J => ?_)
  refine lv_if_eq (tgt := 25) hx hb dX9_often_5 (by decide) (fun hc => ?_) (fun hc => ?_)
  · have hM := e_ip hc hM
    refine lv_ldc (v := -1000000001) hx hb hown (hts _ q_5_140) dX9_often_25 ?_
    obtain rfl := e_so hM
    exact e_iret E J dX9_often_27
  · have hM := e_in hc hM
    refine lv_iload_n hx hb dX9_often_8 rfl (lv_at hl 2 rfl) ?_
    obtain ⟨v2, hv, hM⟩ := e_bs hM
    refine e_callS (As := [.int l2]) (rest := []) (n := 1) E J (mX9_isPlace (l := l) (G := G) l2 h _ hv) q_6_11 q_6_12 q_1_9 q_6_13 (by decide +kernel) rfl ⟨Nat.le_of_ble_eq_true rfl, Nat.le_of_ble_eq_true rfl⟩ (st0 := [.int l2]) (st1 := [.int (e_b v2)]) rfl rfl hl.1 (Nat.le_of_ble_eq_true rfl) dX9_often_9 ⟨Nat.le_refl _, Nat.le_refl _⟩ (fun H locs J => ?_)
    refine lv_if_eq (tgt := 25) hx hb dX9_often_12 (by decide) (fun hc => ?_) (fun hc => ?_)
    · have hM := e_ip hc hM
      refine lv_ldc (v := -1000000001) hx hb hown (hts _ q_5_140) dX9_often_25 ?_
      obtain rfl := e_so hM
      exact e_iret E J dX9_often_27
    · have hM := e_in hc hM
      refine lv_iload_n hx hb dX9_often_15 rfl (lv_at hl 3 rfl) ?_
      refine lv_bipush (v := -5) hx hb dX9_often_16 (by decide) ?_
      refine lv_iconst (v := nI 5) hx hb dX9_often_18 (by decide) ?_
      obtain ⟨v3, hv, hM⟩ := e_bs hM
      refine e_callS (As := [.int l3, .int (-5 : Int32), .int (nI 5)]) (rest := []) (n := 3) E J (mX9_in (l := l) (G := G) l3 (-5 : Int32) (nI 5) h _ hv) q_5_137 q_5_138 q_1_9 q_5_139 (by decide +kernel) rfl ⟨Nat.le_of_ble_eq_true rfl, Nat.le_of_ble_eq_true rfl⟩ (st0 := [.int (nI 5), .int (-5 : Int32), .int l3]) (st1 := [.int (e_b v3)]) rfl rfl hl.1 (Nat.le_of_ble_eq_true rfl) dX9_often_19 ⟨Nat.le_refl _, Nat.le_refl _⟩ (fun H locs J => ?_)
      refine lv_if_ne (tgt := 28) hx hb dX9_often_22 (by decide) (fun hc => ?_) (fun hc => ?_)
      · have hM := e_in hc hM
        refine lv_aload_n hx hb dX9_often_28 rfl (lv_at hl 0 rfl) ?_
        refine lv_iload_n hx hb dX9_often_29 rfl (lv_at hl 1 rfl) ?_
        refine lv_iload_n hx hb dX9_often_30 rfl (lv_at hl 2 rfl) ?_
        obtain ⟨h4, hv, hM⟩ := e_bs hM
        obtain ⟨fs_, hk, -⟩ := e_bs hv
        refine e_callV (ci := 9) (As := [.int l1, .int l2]) (rest := []) (n := 2) E J hk rfl (mX9_findPlace (l := l) (G := G) l0 l1 l2 h _ hv) q_6_14 q_6_16 q_p_27 q_1_9 q_6_17 (by decide +kernel) rfl ⟨Nat.le_of_ble_eq_true rfl, Nat.le_of_ble_eq_true rfl⟩ (st0 := [.int l2, .int l1, .ref (e_ad G l0)]) (st1 := []) rfl rfl hl.1 (Nat.le_of_ble_eq_true rfl) dX9_often_31 ⟨Nat.le_refl _, Nat.le_refl _⟩ (fun H locs J => ?_)
        refine lv_aload_n hx hb dX9_often_34 rfl (lv_at hl 0 rfl) ?_
        refine lv_iconst (v := nI 0) hx hb dX9_often_35 (by decide) ?_
        obtain ⟨v5, hv, hM⟩ := e_bs hM
        obtain ⟨fs_, hk, -⟩ := e_bs hv
        refine e_callV (ci := 9) (As := [.int (nI 0)]) (rest := []) (n := 1) E J hk rfl (mX9_timesOf (l := l) (G := G) l0 (nI 0) h4 _ hv) q_6_25 q_6_27 q_p_29 q_1_9 q_6_28 (by decide +kernel) rfl ⟨Nat.le_of_ble_eq_true rfl, Nat.le_of_ble_eq_true rfl⟩ (st0 := [.int (nI 0), .ref (e_ad G l0)]) (st1 := [.int v5]) rfl rfl hl.1 (Nat.le_of_ble_eq_true rfl) dX9_often_36 ⟨Nat.le_refl _, Nat.le_refl _⟩ (fun H locs J => ?_)
        refine lv_istore (lv' := [(4, .int v5), (0, .ref (e_ad G l0)), (1, .int l1), (2, .int l2), (3, .int l3)]) hx hb dX9_often_39 hl (by decide) rfl (fun ls hl => ?_)
        refine lv_iload hx hb dX9_often_41 (lv_at hl 0 rfl) ?_
        obtain ⟨v6, hv, hM⟩ := e_bs hM
        refine e_callS (As := [.int v5]) (rest := []) (n := 1) E J (mX9_isSome (l := l) (G := G) v5 h4 _ hv) q_6_37 q_6_38 q_1_9 q_6_39 (by decide +kernel) rfl ⟨Nat.le_of_ble_eq_true rfl, Nat.le_of_ble_eq_true rfl⟩ (st0 := [.int v5]) (st1 := [.int (e_b v6)]) rfl rfl hl.1 (Nat.le_of_ble_eq_true rfl) dX9_often_43 ⟨Nat.le_refl _, Nat.le_refl _⟩ (fun H locs J => ?_)
        refine lv_if_ne (tgt := 52) hx hb dX9_often_46 (by decide) (fun hc => ?_) (fun hc => ?_)
        · have hM := e_in hc hM
          refine lv_iconst (v := nI 0) hx hb dX9_often_52 (by decide) ?_
          refine lv_istore (lv' := [(5, .int (nI 0)), (4, .int v5), (0, .ref (e_ad G l0)), (1, .int l1), (2, .int l2), (3, .int l3)]) hx hb dX9_often_53 hl (by decide) rfl (fun ls hl => ?_)
          exact mX9_often_L55 E 200 l0 l3 v5 (nI 0) h4 hM J (lv_sub hl [2, 5, 1, 0] rfl)
        · have hM := e_ip hc hM
          refine lv_ldc (v := -1000000002) hx hb hown (hts _ q_6_49) dX9_often_49 ?_
          obtain rfl := e_so hM
          exact e_iret E J dX9_often_51
      · have hM := e_ip hc hM
        refine lv_ldc (v := -1000000001) hx hb hown (hts _ q_5_140) dX9_often_25 ?_
        obtain rfl := e_so hM
        exact e_iret E J dX9_often_27
set_option maxRecDepth 100000 in
set_option maxHeartbeats 4000000 in
theorem mX9_blows_b145 {p : Program} {l : Launch} {e : Env} {s : State} {m : MethodId} {args : Array Value} {below : List Frame} {meth : Method} {c : Code} {G : e_G} {res : e_H} {k33 : Nat → Int32 → Int32 → Int32 → Int32 → Int32 → e_H → Option e_H} (E : e_M G p s args m meth c cX9_blows 10 none RX9) (K33 : ∀ (l0 : Nat) (l1 : Int32) (l2 : Int32) (l3 : Int32) (l4 : Int32) (l5 : Int32) (h : e_H), k33 l0 l1 l2 l3 l4 l5 h = some res → ∀ (H : Heap) (locs : List Loc), e_J G s h H locs → ∀ (ls : Array Slot), lv_has ls 10 [(0, .ref (e_ad G l0)), (1, .int l1), (2, .int l2), (3, .int l3), (4, .int l4), (5, .int l5)] → W p l e (e_rm 1 25) s m args below meth c H locs 0 0 (MQ below (e_Q G res (none)) args s 0 0 (e_A G)) (F0 m 33 ls [])) (l0 : Nat) (l1 : Int32) (l2 : Int32) (l3 : Int32) (l4 : Int32) (l5 : Int32) (h : e_H) (hM : fX9_blows_b145 k33 l0 l1 l2 l3 l4 l5 h = some res) {H : Heap} {locs : List Loc} (J : e_J G s h H locs) {ls : Array Slot} (hl : lv_has ls 10 [(0, .ref (e_ad G l0)), (1, .int l1), (2, .int l2), (3, .int l3), (4, .int l4), (5, .int l5)]) : W p l e (e_rm 1 25) s m args below meth c H locs 0 0 (MQ below (e_Q G res (none)) args s 0 0 (e_A G)) (F0 m 145 ls []) := by
  obtain ⟨hx, hb, hr, hml, hown, hts, hlocks, hES, hbs⟩ := id E
  unfold fX9_blows_b145 at hM
  refine lv_iinc (v := (l5 + (nI 1))) (lv' := [(5, .int (l5 + (nI 1))), (0, .ref (e_ad G l0)), (1, .int l1), (2, .int l2), (3, .int l3), (4, .int l4)]) hx hb dX9_blows_145 hl (k := 5) rfl rfl (by decide) rfl (fun ls hl => ?_)
  refine lv_goto (tgt := 33) hx hb dX9_blows_148 (by decide) ?_
  exact K33 l0 l1 l2 l3 l4 (l5 + (nI 1)) h hM _ _ J _ (lv_sub hl [1, 2, 3, 4, 5, 0] rfl)
set_option maxRecDepth 100000 in
set_option maxHeartbeats 4000000 in
theorem mX9_blows_b84 {p : Program} {l : Launch} {e : Env} {s : State} {m : MethodId} {args : Array Value} {below : List Frame} {meth : Method} {c : Code} {G : e_G} {res : e_H} {k33 : Nat → Int32 → Int32 → Int32 → Int32 → Int32 → e_H → Option e_H} {k84 : Nat → Int32 → Int32 → Int32 → Int32 → Int32 → Int64 → Int32 → Int32 → e_H → Option e_H} (E : e_M G p s args m meth c cX9_blows 10 none RX9) (K33 : ∀ (l0 : Nat) (l1 : Int32) (l2 : Int32) (l3 : Int32) (l4 : Int32) (l5 : Int32) (h : e_H), k33 l0 l1 l2 l3 l4 l5 h = some res → ∀ (H : Heap) (locs : List Loc), e_J G s h H locs → ∀ (ls : Array Slot), lv_has ls 10 [(0, .ref (e_ad G l0)), (1, .int l1), (2, .int l2), (3, .int l3), (4, .int l4), (5, .int l5)] → W p l e (e_rm 1 25) s m args below meth c H locs 0 0 (MQ below (e_Q G res (none)) args s 0 0 (e_A G)) (F0 m 33 ls [])) (K84 : ∀ (l0 : Nat) (l1 : Int32) (l2 : Int32) (l3 : Int32) (l4 : Int32) (l5 : Int32) (l6 : Int64) (l8 : Int32) (l9 : Int32) (h : e_H), k84 l0 l1 l2 l3 l4 l5 l6 l8 l9 h = some res → ∀ (H : Heap) (locs : List Loc), e_J G s h H locs → ∀ (ls : Array Slot), lv_has ls 10 [(0, .ref (e_ad G l0)), (1, .int l1), (2, .int l2), (3, .int l3), (4, .int l4), (5, .int l5), (6, .long l6), (8, .int l8), (9, .int l9)] → W p l e (e_rm 1 25) s m args below meth c H locs 0 0 (MQ below (e_Q G res (none)) args s 0 0 (e_A G)) (F0 m 84 ls [])) (l0 : Nat) (l1 : Int32) (l2 : Int32) (l3 : Int32) (l4 : Int32) (l5 : Int32) (l6 : Int64) (l8 : Int32) (l9 : Int32) (h : e_H) (hM : fX9_blows_b84 k33 k84 l0 l1 l2 l3 l4 l5 l6 l8 l9 h = some res) {H : Heap} {locs : List Loc} (J : e_J G s h H locs) {ls : Array Slot} (hl : lv_has ls 10 [(0, .ref (e_ad G l0)), (1, .int l1), (2, .int l2), (3, .int l3), (4, .int l4), (5, .int l5), (6, .long l6), (8, .int l8), (9, .int l9)]) : W p l e (e_rm 1 25) s m args below meth c H locs 0 0 (MQ below (e_Q G res (none)) args s 0 0 (e_A G)) (F0 m 84 ls []) := by
  obtain ⟨hx, hb, hr, hml, hown, hts, hlocks, hES, hbs⟩ := id E
  unfold fX9_blows_b84 at hM
  refine lv_iload hx hb dX9_blows_84 (lv_at hl 8 rfl) ?_
  refine lv_iload hx hb dX9_blows_86 (lv_at hl 5 rfl) ?_
  refine lv_iconst (v := nI 5) hx hb dX9_blows_88 (by decide) ?_
  refine lv_irem hx hb dX9_blows_89 (by decide) ?_
  refine lv_icmp_gt (tgt := 145) hx hb dX9_blows_90 (by decide) (fun hc => ?_) (fun hc => ?_)
  · have hM := e_ip hc hM
    exact mX9_blows_b145 E K33 l0 l1 l2 l3 l4 l5 h hM J (lv_sub hl [0, 1, 2, 3, 4, 5] rfl)
  · have hM := e_in hc hM
    refine lv_aload_n hx hb dX9_blows_93 rfl (lv_at hl 0 rfl) ?_
    obtain ⟨v1, hv, hM⟩ := e_bs hM
    refine e_getR (C := RX9) (T := TX9) (N := 40) E J hv rfl inX9 (by decide) q_5_15 dX9_blows_94 ?_
    rcases v1 with _ | a2
    · have hM := e_on0 hM
      refine W.eq (g2 := F0 m 97 ls [.null]) rfl ?_
      refine lv_bipush (v := nI 85) hx hb dX9_blows_97 (by decide) ?_
      refine lv_iload hx hb dX9_blows_99 (lv_at hl 4 rfl) ?_
      refine lv_imul hx hb dX9_blows_101 ?_
      refine lv_iconst (v := nI 5) hx hb dX9_blows_102 (by decide) ?_
      refine lv_iload hx hb dX9_blows_103 (lv_at hl 7 rfl) ?_
      refine lv_imul hx hb dX9_blows_105 ?_
      refine lv_iadd hx hb dX9_blows_106 ?_
      refine lv_iload hx hb dX9_blows_107 (lv_at hl 8 rfl) ?_
      refine lv_iadd hx hb dX9_blows_109 ?_
      refine lv_dup2_11 hx hb dX9_blows_110 rfl rfl ?_
      exact e_no hM
    · have hM := e_on1 hM
      refine W.eq (g2 := F0 m 97 ls [.ref (e_ad G a2)]) rfl ?_
      refine lv_bipush (v := nI 85) hx hb dX9_blows_97 (by decide) ?_
      refine lv_iload hx hb dX9_blows_99 (lv_at hl 4 rfl) ?_
      refine lv_imul hx hb dX9_blows_101 ?_
      refine lv_iconst (v := nI 5) hx hb dX9_blows_102 (by decide) ?_
      refine lv_iload hx hb dX9_blows_103 (lv_at hl 7 rfl) ?_
      refine lv_imul hx hb dX9_blows_105 ?_
      refine lv_iadd hx hb dX9_blows_106 ?_
      refine lv_iload hx hb dX9_blows_107 (lv_at hl 8 rfl) ?_
      refine lv_iadd hx hb dX9_blows_109 ?_
      refine lv_dup2_11 hx hb dX9_blows_110 rfl rfl ?_
      obtain ⟨v4, hv, hM⟩ := e_bs hM
      refine e_lald E J hv dX9_blows_111 ?_
      refine lv_lload hx hb dX9_blows_112 (lv_at hl 6 rfl) ?_
      refine lv_iload hx hb dX9_blows_114 (lv_at hl 5 rfl) ?_
      refine lv_iconst (v := nI 5) hx hb dX9_blows_116 (by decide) ?_
      refine lv_irem hx hb dX9_blows_117 (by decide) ?_
      refine lv_iload hx hb dX9_blows_118 (lv_at hl 8 rfl) ?_
      obtain ⟨v5, hv, hM⟩ := e_bs hM
      refine e_callS (As := [.int (l5 - l5 / (nI 5) * (nI 5)), .int l9]) (rest := [.long l6, .long v4, .int ((((nI 85) * l4) + ((nI 5) * l8)) + l9), .ref (e_ad G a2)]) (n := 2) E J (mX9_choices (l := l) (G := G) (l5 - l5 / (nI 5) * (nI 5)) l9 h _ hv) q_6_22 q_6_23 q_1_9 q_6_24 (by decide +kernel) rfl ⟨Nat.le_of_ble_eq_true rfl, Nat.le_of_ble_eq_true rfl⟩ (st0 := [.int l9, .int (l5 - l5 / (nI 5) * (nI 5)), .long l6, .long v4, .int ((((nI 85) * l4) + ((nI 5) * l8)) + l9), .ref (e_ad G a2)]) (st1 := [.long v5, .long l6, .long v4, .int ((((nI 85) * l4) + ((nI 5) * l8)) + l9), .ref (e_ad G a2)]) rfl rfl hl.1 (Nat.le_of_ble_eq_true rfl) dX9_blows_120 ⟨Nat.le_refl _, Nat.le_refl _⟩ (fun H locs J => ?_)
      refine lv_lmul hx hb dX9_blows_123 ?_
      refine lv_iload_n hx hb dX9_blows_124 rfl (lv_at hl 3 rfl) ?_
      refine lv_i2l hx hb dX9_blows_125 rfl ?_
      refine lv_iload hx hb dX9_blows_126 (lv_at hl 5 rfl) ?_
      refine lv_iconst (v := nI 5) hx hb dX9_blows_128 (by decide) ?_
      refine lv_irem hx hb dX9_blows_129 (by decide) ?_
      refine lv_iload hx hb dX9_blows_130 (lv_at hl 8 rfl) ?_
      refine lv_isub hx hb dX9_blows_132 ?_
      obtain ⟨v6, hv, hM⟩ := e_bs hM
      refine e_callS (As := [.long (l3).toInt64, .int ((l5 - l5 / (nI 5) * (nI 5)) - l9)]) (rest := [.long (l6 * v5), .long v4, .int ((((nI 85) * l4) + ((nI 5) * l8)) + l9), .ref (e_ad G a2)]) (n := 2) E J (mX9_raised (l := l) (G := G) (l3).toInt64 ((l5 - l5 / (nI 5) * (nI 5)) - l9) h _ hv) q_6_4 q_6_5 q_1_9 q_6_6 (by decide +kernel) rfl ⟨Nat.le_of_ble_eq_true rfl, Nat.le_of_ble_eq_true rfl⟩ (st0 := [.int ((l5 - l5 / (nI 5) * (nI 5)) - l9), .long (l3).toInt64, .long (l6 * v5), .long v4, .int ((((nI 85) * l4) + ((nI 5) * l8)) + l9), .ref (e_ad G a2)]) (st1 := [.long v6, .long (l6 * v5), .long v4, .int ((((nI 85) * l4) + ((nI 5) * l8)) + l9), .ref (e_ad G a2)]) rfl rfl hl.1 (Nat.le_of_ble_eq_true rfl) dX9_blows_133 ⟨Nat.le_refl _, Nat.le_refl _⟩ (fun H locs J => ?_)
      refine lv_lmul hx hb dX9_blows_136 ?_
      refine lv_ladd hx hb dX9_blows_137 ?_
      obtain ⟨h7, hv, hM⟩ := e_bs hM
      refine e_last E J hv dX9_blows_138 (fun H locs J => ?_)
      refine lv_iinc (v := (l9 + (nI 1))) (lv' := [(9, .int (l9 + (nI 1))), (0, .ref (e_ad G l0)), (1, .int l1), (2, .int l2), (3, .int l3), (4, .int l4), (5, .int l5), (6, .long l6), (8, .int l8)]) hx hb dX9_blows_139 hl (k := 8) rfl rfl (by decide) rfl (fun ls hl => ?_)
      refine lv_goto (tgt := 84) hx hb dX9_blows_142 (by decide) ?_
      exact K84 l0 l1 l2 l3 l4 l5 l6 l8 (l9 + (nI 1)) h7 hM _ _ J _ (lv_sub hl [1, 2, 3, 4, 5, 6, 7, 8, 0] rfl)
set_option maxRecDepth 100000 in
set_option maxHeartbeats 4000000 in
theorem mX9_Llows_L84 {p : Program} {l : Launch} {e : Env} {s : State} {m : MethodId} {args : Array Value} {below : List Frame} {meth : Method} {c : Code} {G : e_G} {res : e_H} {k33 : Nat → Int32 → Int32 → Int32 → Int32 → Int32 → e_H → Option e_H} (E : e_M G p s args m meth c cX9_blows 10 none RX9) (K33 : ∀ (l0 : Nat) (l1 : Int32) (l2 : Int32) (l3 : Int32) (l4 : Int32) (l5 : Int32) (h : e_H), k33 l0 l1 l2 l3 l4 l5 h = some res → ∀ (H : Heap) (locs : List Loc), e_J G s h H locs → ∀ (ls : Array Slot), lv_has ls 10 [(0, .ref (e_ad G l0)), (1, .int l1), (2, .int l2), (3, .int l3), (4, .int l4), (5, .int l5)] → W p l e (e_rm 1 25) s m args below meth c H locs 0 0 (MQ below (e_Q G res (none)) args s 0 0 (e_A G)) (F0 m 33 ls [])) (n : Nat) (l0 : Nat) (l1 : Int32) (l2 : Int32) (l3 : Int32) (l4 : Int32) (l5 : Int32) (l6 : Int64) (l8 : Int32) (l9 : Int32) (h : e_H) (hM : fX9_Llows_L84 k33 n l0 l1 l2 l3 l4 l5 l6 l8 l9 h = some res) {H : Heap} {locs : List Loc} (J : e_J G s h H locs) {ls : Array Slot} (hl : lv_has ls 10 [(0, .ref (e_ad G l0)), (1, .int l1), (2, .int l2), (3, .int l3), (4, .int l4), (5, .int l5), (6, .long l6), (8, .int l8), (9, .int l9)]) : W p l e (e_rm 1 25) s m args below meth c H locs 0 0 (MQ below (e_Q G res (none)) args s 0 0 (e_A G)) (F0 m 84 ls []) := by
  induction n generalizing l0 l1 l2 l3 l4 l5 l6 l8 l9 h H locs ls with
  | zero => exact e_no hM
  | succ n ih => exact mX9_blows_b84 (k84 := (fX9_Llows_L84 k33 n)) E  K33 (fun l0 l1 l2 l3 l4 l5 l6 l8 l9 h hM H locs J ls hl => ih l0 l1 l2 l3 l4 l5 l6 l8 l9 h hM J hl) l0 l1 l2 l3 l4 l5 l6 l8 l9 h hM J hl
set_option maxRecDepth 100000 in
set_option maxHeartbeats 4000000 in
theorem mX9_blows_b33 {p : Program} {l : Launch} {e : Env} {s : State} {m : MethodId} {args : Array Value} {below : List Frame} {meth : Method} {c : Code} {G : e_G} {res : e_H} {k33 : Nat → Int32 → Int32 → Int32 → Int32 → Int32 → e_H → Option e_H} (E : e_M G p s args m meth c cX9_blows 10 none RX9) (K33 : ∀ (l0 : Nat) (l1 : Int32) (l2 : Int32) (l3 : Int32) (l4 : Int32) (l5 : Int32) (h : e_H), k33 l0 l1 l2 l3 l4 l5 h = some res → ∀ (H : Heap) (locs : List Loc), e_J G s h H locs → ∀ (ls : Array Slot), lv_has ls 10 [(0, .ref (e_ad G l0)), (1, .int l1), (2, .int l2), (3, .int l3), (4, .int l4), (5, .int l5)] → W p l e (e_rm 1 25) s m args below meth c H locs 0 0 (MQ below (e_Q G res (none)) args s 0 0 (e_A G)) (F0 m 33 ls [])) (l0 : Nat) (l1 : Int32) (l2 : Int32) (l3 : Int32) (l4 : Int32) (l5 : Int32) (h : e_H) (hM : fX9_blows_b33 k33 l0 l1 l2 l3 l4 l5 h = some res) {H : Heap} {locs : List Loc} (J : e_J G s h H locs) {ls : Array Slot} (hl : lv_has ls 10 [(0, .ref (e_ad G l0)), (1, .int l1), (2, .int l2), (3, .int l3), (4, .int l4), (5, .int l5)]) : W p l e (e_rm 1 25) s m args below meth c H locs 0 0 (MQ below (e_Q G res (none)) args s 0 0 (e_A G)) (F0 m 33 ls []) := by
  obtain ⟨hx, hb, hr, hml, hown, hts, hlocks, hES, hbs⟩ := id E
  unfold fX9_blows_b33 at hM
  refine lv_iload hx hb dX9_blows_33 (lv_at hl 5 rfl) ?_
  refine lv_bipush (v := nI 85) hx hb dX9_blows_35 (by decide) ?_
  refine lv_icmp_ge (tgt := 151) hx hb dX9_blows_37 (by decide) (fun hc => ?_) (fun hc => ?_)
  · have hM := e_ip hc hM
    obtain rfl := e_so hM
    exact e_vret E J dX9_blows_151
  · have hM := e_in hc hM
    refine lv_aload_n hx hb dX9_blows_40 rfl (lv_at hl 0 rfl) ?_
    obtain ⟨v1, hv, hM⟩ := e_bs hM
    refine e_getR (C := RX9) (T := TX9) (N := 40) E J hv rfl inX9 (by decide) q_5_15 dX9_blows_41 ?_
    rcases v1 with _ | a2
    · have hM := e_on0 hM
      refine W.eq (g2 := F0 m 44 ls [.null]) rfl ?_
      refine lv_bipush (v := nI 85) hx hb dX9_blows_44 (by decide) ?_
      refine lv_iload_n hx hb dX9_blows_46 rfl (lv_at hl 1 rfl) ?_
      refine lv_imul hx hb dX9_blows_47 ?_
      refine lv_iload hx hb dX9_blows_48 (lv_at hl 5 rfl) ?_
      refine lv_iadd hx hb dX9_blows_50 ?_
      exact e_no hM
    · have hM := e_on1 hM
      refine W.eq (g2 := F0 m 44 ls [.ref (e_ad G a2)]) rfl ?_
      refine lv_bipush (v := nI 85) hx hb dX9_blows_44 (by decide) ?_
      refine lv_iload_n hx hb dX9_blows_46 rfl (lv_at hl 1 rfl) ?_
      refine lv_imul hx hb dX9_blows_47 ?_
      refine lv_iload hx hb dX9_blows_48 (lv_at hl 5 rfl) ?_
      refine lv_iadd hx hb dX9_blows_50 ?_
      obtain ⟨v4, hv, hM⟩ := e_bs hM
      refine e_lald E J hv dX9_blows_51 ?_
      refine lv_lstore (lv' := [(6, .long v4), (0, .ref (e_ad G l0)), (1, .int l1), (2, .int l2), (3, .int l3), (4, .int l4), (5, .int l5)]) hx hb dX9_blows_52 hl (by decide) rfl (fun ls hl => ?_)
      refine lv_iload hx hb dX9_blows_54 (lv_at hl 6 rfl) ?_
      refine lv_iconst (v := nI 5) hx hb dX9_blows_56 (by decide) ?_
      refine lv_idiv hx hb dX9_blows_57 (by decide) ?_
      refine lv_iload hx hb dX9_blows_58 (lv_at hl 6 rfl) ?_
      refine lv_iconst (v := nI 5) hx hb dX9_blows_60 (by decide) ?_
      refine lv_irem hx hb dX9_blows_61 (by decide) ?_
      refine lv_iadd hx hb dX9_blows_62 ?_
      refine lv_iload_n hx hb dX9_blows_63 rfl (lv_at hl 3 rfl) ?_
      refine lv_isub hx hb dX9_blows_64 ?_
      refine lv_istore (lv' := [(8, .int (((l5 / (nI 5)) + (l5 - l5 / (nI 5) * (nI 5))) - l2)), (6, .long v4), (0, .ref (e_ad G l0)), (1, .int l1), (2, .int l2), (3, .int l3), (4, .int l4), (5, .int l5)]) hx hb dX9_blows_65 hl (by decide) rfl (fun ls hl => ?_)
      refine lv_lload hx hb dX9_blows_67 (lv_at hl 1 rfl) ?_
      refine lv_lconst (v := 0) hx hb dX9_blows_69 (by decide) ?_
      refine W.lcmp hx hb dX9_blows_70 ?_
      refine lv_if_eq (tgt := 145) hx hb dX9_blows_71 (by decide) (fun hc => ?_) (fun hc => ?_)
      · have hM := e_ip hc hM
        exact mX9_blows_b145 E K33 l0 l1 l2 l3 l4 l5 h hM J (lv_sub hl [2, 3, 4, 5, 6, 7] rfl)
      · have hM := e_in hc hM
        refine lv_iload hx hb dX9_blows_74 (lv_at hl 0 rfl) ?_
        refine lv_bipush (v := nI 16) hx hb dX9_blows_76 (by decide) ?_
        refine lv_icmp_gt (tgt := 145) hx hb dX9_blows_78 (by decide) (fun hc => ?_) (fun hc => ?_)
        · have hM := e_ip hc hM
          exact mX9_blows_b145 E K33 l0 l1 l2 l3 l4 l5 h hM J (lv_sub hl [2, 3, 4, 5, 6, 7] rfl)
        · have hM := e_in hc hM
          refine lv_iconst (v := nI 0) hx hb dX9_blows_81 (by decide) ?_
          refine lv_istore (lv' := [(9, .int (nI 0)), (8, .int (((l5 / (nI 5)) + (l5 - l5 / (nI 5) * (nI 5))) - l2)), (6, .long v4), (0, .ref (e_ad G l0)), (1, .int l1), (2, .int l2), (3, .int l3), (4, .int l4), (5, .int l5)]) hx hb dX9_blows_82 hl (by decide) rfl (fun ls hl => ?_)
          exact mX9_Llows_L84 E K33 200 l0 l1 l2 l3 l4 l5 v4 (((l5 / (nI 5)) + (l5 - l5 / (nI 5) * (nI 5))) - l2) (nI 0) h hM J (lv_sub hl [3, 4, 5, 6, 7, 8, 2, 1, 0] rfl)
set_option maxRecDepth 100000 in
set_option maxHeartbeats 4000000 in
theorem mX9_Llows_L33 {p : Program} {l : Launch} {e : Env} {s : State} {m : MethodId} {args : Array Value} {below : List Frame} {meth : Method} {c : Code} {G : e_G} {res : e_H} (E : e_M G p s args m meth c cX9_blows 10 none RX9) (n : Nat) (l0 : Nat) (l1 : Int32) (l2 : Int32) (l3 : Int32) (l4 : Int32) (l5 : Int32) (h : e_H) (hM : fX9_Llows_L33 n l0 l1 l2 l3 l4 l5 h = some res) {H : Heap} {locs : List Loc} (J : e_J G s h H locs) {ls : Array Slot} (hl : lv_has ls 10 [(0, .ref (e_ad G l0)), (1, .int l1), (2, .int l2), (3, .int l3), (4, .int l4), (5, .int l5)]) : W p l e (e_rm 1 25) s m args below meth c H locs 0 0 (MQ below (e_Q G res (none)) args s 0 0 (e_A G)) (F0 m 33 ls []) := by
  induction n generalizing l0 l1 l2 l3 l4 l5 h H locs ls with
  | zero => exact e_no hM
  | succ n ih => exact mX9_blows_b33 (k33 := (fX9_Llows_L33 n)) E   (fun l0 l1 l2 l3 l4 l5 h hM H locs J ls hl => ih l0 l1 l2 l3 l4 l5 h hM J hl) l0 l1 l2 l3 l4 l5 h hM J hl
set_option maxRecDepth 100000 in
set_option maxHeartbeats 4000000 in
theorem mX9_blows_b3 {p : Program} {l : Launch} {e : Env} {s : State} {m : MethodId} {args : Array Value} {below : List Frame} {meth : Method} {c : Code} {G : e_G} {res : e_H} {k3 : Nat → Int32 → Int32 → Int32 → Int32 → Int32 → e_H → Option e_H} (E : e_M G p s args m meth c cX9_blows 10 none RX9) (K3 : ∀ (l0 : Nat) (l1 : Int32) (l2 : Int32) (l3 : Int32) (l4 : Int32) (l5 : Int32) (h : e_H), k3 l0 l1 l2 l3 l4 l5 h = some res → ∀ (H : Heap) (locs : List Loc), e_J G s h H locs → ∀ (ls : Array Slot), lv_has ls 10 [(0, .ref (e_ad G l0)), (1, .int l1), (2, .int l2), (3, .int l3), (4, .int l4), (5, .int l5)] → W p l e (e_rm 1 25) s m args below meth c H locs 0 0 (MQ below (e_Q G res (none)) args s 0 0 (e_A G)) (F0 m 3 ls [])) (l0 : Nat) (l1 : Int32) (l2 : Int32) (l3 : Int32) (l4 : Int32) (l5 : Int32) (h : e_H) (hM : fX9_blows_b3 k3 l0 l1 l2 l3 l4 l5 h = some res) {H : Heap} {locs : List Loc} (J : e_J G s h H locs) {ls : Array Slot} (hl : lv_has ls 10 [(0, .ref (e_ad G l0)), (1, .int l1), (2, .int l2), (3, .int l3), (4, .int l4), (5, .int l5)]) : W p l e (e_rm 1 25) s m args below meth c H locs 0 0 (MQ below (e_Q G res (none)) args s 0 0 (e_A G)) (F0 m 3 ls []) := by
  obtain ⟨hx, hb, hr, hml, hown, hts, hlocks, hES, hbs⟩ := id E
  unfold fX9_blows_b3 at hM
  refine lv_iload hx hb dX9_blows_3 (lv_at hl 5 rfl) ?_
  refine lv_bipush (v := nI 85) hx hb dX9_blows_5 (by decide) ?_
  refine lv_icmp_ge (tgt := 30) hx hb dX9_blows_7 (by decide) (fun hc => ?_) (fun hc => ?_)
  · have hM := e_ip hc hM
    refine lv_iconst (v := nI 0) hx hb dX9_blows_30 (by decide) ?_
    refine lv_istore (lv' := [(5, .int (nI 0)), (0, .ref (e_ad G l0)), (1, .int l1), (2, .int l2), (3, .int l3), (4, .int l4)]) hx hb dX9_blows_31 hl (by decide) rfl (fun ls hl => ?_)
    exact mX9_Llows_L33 E 200 l0 l1 l2 l3 l4 (nI 0) h hM J (lv_sub hl [1, 2, 3, 4, 5, 0] rfl)
  · have hM := e_in hc hM
    refine lv_aload_n hx hb dX9_blows_10 rfl (lv_at hl 0 rfl) ?_
    obtain ⟨v1, hv, hM⟩ := e_bs hM
    refine e_getR (C := RX9) (T := TX9) (N := 40) E J hv rfl inX9 (by decide) q_5_15 dX9_blows_11 ?_
    rcases v1 with _ | a2
    · have hM := e_on0 hM
      refine W.eq (g2 := F0 m 14 ls [.null]) rfl ?_
      refine lv_bipush (v := nI 85) hx hb dX9_blows_14 (by decide) ?_
      refine lv_iload hx hb dX9_blows_16 (lv_at hl 4 rfl) ?_
      refine lv_imul hx hb dX9_blows_18 ?_
      refine lv_iload hx hb dX9_blows_19 (lv_at hl 5 rfl) ?_
      refine lv_iadd hx hb dX9_blows_21 ?_
      refine lv_lconst (v := 0) hx hb dX9_blows_22 (by decide) ?_
      exact e_no hM
    · have hM := e_on1 hM
      refine W.eq (g2 := F0 m 14 ls [.ref (e_ad G a2)]) rfl ?_
      refine lv_bipush (v := nI 85) hx hb dX9_blows_14 (by decide) ?_
      refine lv_iload hx hb dX9_blows_16 (lv_at hl 4 rfl) ?_
      refine lv_imul hx hb dX9_blows_18 ?_
      refine lv_iload hx hb dX9_blows_19 (lv_at hl 5 rfl) ?_
      refine lv_iadd hx hb dX9_blows_21 ?_
      refine lv_lconst (v := 0) hx hb dX9_blows_22 (by decide) ?_
      obtain ⟨h4, hv, hM⟩ := e_bs hM
      refine e_last E J hv dX9_blows_23 (fun H locs J => ?_)
      refine lv_iinc (v := (l5 + (nI 1))) (lv' := [(5, .int (l5 + (nI 1))), (0, .ref (e_ad G l0)), (1, .int l1), (2, .int l2), (3, .int l3), (4, .int l4)]) hx hb dX9_blows_24 hl (k := 5) rfl rfl (by decide) rfl (fun ls hl => ?_)
      refine lv_goto (tgt := 3) hx hb dX9_blows_27 (by decide) ?_
      exact K3 l0 l1 l2 l3 l4 (l5 + (nI 1)) h4 hM _ _ J _ (lv_sub hl [1, 2, 3, 4, 5, 0] rfl)
set_option maxRecDepth 100000 in
set_option maxHeartbeats 4000000 in
theorem mX9_Llows_L3 {p : Program} {l : Launch} {e : Env} {s : State} {m : MethodId} {args : Array Value} {below : List Frame} {meth : Method} {c : Code} {G : e_G} {res : e_H} (E : e_M G p s args m meth c cX9_blows 10 none RX9) (n : Nat) (l0 : Nat) (l1 : Int32) (l2 : Int32) (l3 : Int32) (l4 : Int32) (l5 : Int32) (h : e_H) (hM : fX9_Llows_L3 n l0 l1 l2 l3 l4 l5 h = some res) {H : Heap} {locs : List Loc} (J : e_J G s h H locs) {ls : Array Slot} (hl : lv_has ls 10 [(0, .ref (e_ad G l0)), (1, .int l1), (2, .int l2), (3, .int l3), (4, .int l4), (5, .int l5)]) : W p l e (e_rm 1 25) s m args below meth c H locs 0 0 (MQ below (e_Q G res (none)) args s 0 0 (e_A G)) (F0 m 3 ls []) := by
  induction n generalizing l0 l1 l2 l3 l4 l5 h H locs ls with
  | zero => exact e_no hM
  | succ n ih => exact mX9_blows_b3 (k3 := (fX9_Llows_L3 n)) E   (fun l0 l1 l2 l3 l4 l5 h hM H locs J ls hl => ih l0 l1 l2 l3 l4 l5 h hM J hl) l0 l1 l2 l3 l4 l5 h hM J hl
set_option maxRecDepth 100000 in
set_option maxHeartbeats 4000000 in
theorem mX9_blows {l : Launch} {G : e_G} (l0 : Nat) (l1 : Int32) (l2 : Int32) (l3 : Int32) (l4 : Int32) (h : e_H) (res : e_H) (hM : fX9_blows l0 l1 l2 l3 l4 h = some res) : Met l yX9_blows (e_W yX9_blows cX9_blows 10 none) (e_rm 1 25) (e_Pc G h [.ref (e_ad G l0), .int l1, .int l2, .int l3, .int l4]) (e_Q G res (none)) 0 0 (e_A G) := by
  refine Met.ofW (cc := cX9_blows) (maxL := 10) (ret := none) (by decide) rfl ?_
  intro p e s m args below meth c s₁ B hml hv
  obtain ⟨rfl, hS, hP⟩ := hv
  have E := e_enter (own := RX9) (ret := none) B hml rfl hS hP
  have J : e_J G s h s.heap [] := ⟨hP, va_S.rf⟩
  have hl := lv_entry ([.ref (e_ad G l0), .int l1, .int l2, .int l3, .int l4]) (n := 10) (Nat.le_of_ble_eq_true rfl)
  rw [lg_entry_eq]
  generalize (lg_sl ([.ref (e_ad G l0), .int l1, .int l2, .int l3, .int l4]) ++ List.replicate (10 - (lg_sl ([.ref (e_ad G l0), .int l1, .int l2, .int l3, .int l4])).length) Slot.unset).toArray = ls at hl ⊢
  have hl : lv_has ls 10 [(0, .ref (e_ad G l0)), (1, .int l1), (2, .int l2), (3, .int l3), (4, .int l4)] := hl
  obtain ⟨hx, hb, hr, hml, hown, hts, hlocks, hES, hbs⟩ := id E
  unfold fX9_blows at hM
  obtain ⟨fs_, hk_, hM⟩ := e_bs hM
  refine lv_iconst (v := nI 0) hx hb dX9_blows_0 (by decide) ?_
  refine lv_istore (lv' := [(5, .int (nI 0)), (0, .ref (e_ad G l0)), (1, .int l1), (2, .int l2), (3, .int l3), (4, .int l4)]) hx hb dX9_blows_1 hl (by decide) rfl (fun ls hl => ?_)
  exact mX9_Llows_L3 E 200 l0 l1 l2 l3 l4 (nI 0) h hM J (lv_sub hl [1, 2, 3, 4, 5, 0] rfl)
set_option maxRecDepth 100000 in
set_option maxHeartbeats 4000000 in
theorem mX9_blown {l : Launch} {G : e_G} (l0 : Nat) (l1 : Int32) (l2 : Int32) (l3 : Int32) (l4 : Int32) (h : e_H) (res : (Int32 × e_H)) (hM : fX9_blown l0 l1 l2 l3 l4 h = some res) : Met l yX9_blown (e_W yX9_blown cX9_blown 7 (some FieldType.int)) (e_rm 6 142) (e_Pc G h [.ref (e_ad G l0), .int l1, .int l2, .int l3, .int l4]) (e_Q G res.2 (some (.int res.1))) 0 0 (e_A G) := by
  refine Met.ofW (cc := cX9_blown) (maxL := 7) (ret := (some FieldType.int)) (by decide) rfl ?_
  intro p e s m args below meth c s₁ B hml hv
  obtain ⟨rfl, hS, hP⟩ := hv
  have E := e_enter (own := RX9) (ret := (some FieldType.int)) B hml rfl hS hP
  have J : e_J G s h s.heap [] := ⟨hP, va_S.rf⟩
  have hl := lv_entry ([.ref (e_ad G l0), .int l1, .int l2, .int l3, .int l4]) (n := 7) (Nat.le_of_ble_eq_true rfl)
  rw [lg_entry_eq]
  generalize (lg_sl ([.ref (e_ad G l0), .int l1, .int l2, .int l3, .int l4]) ++ List.replicate (7 - (lg_sl ([.ref (e_ad G l0), .int l1, .int l2, .int l3, .int l4])).length) Slot.unset).toArray = ls at hl ⊢
  have hl : lv_has ls 7 [(0, .ref (e_ad G l0)), (1, .int l1), (2, .int l2), (3, .int l3), (4, .int l4)] := hl
  obtain ⟨hx, hb, hr, hml, hown, hts, hlocks, hES, hbs⟩ := id E
  unfold fX9_blown at hM
  obtain ⟨fs_, hk_, hM⟩ := e_bs hM
  refine lv_aload_n hx hb dX9_blown_0 rfl (lv_at hl 0 rfl) ?_
  refine lv_iload_n hx hb dX9_blown_1 rfl (lv_at hl 1 rfl) ?_
  obtain ⟨v1, hv, hM⟩ := e_bs hM
  obtain ⟨fs_, hk, -⟩ := e_bs hv
  refine e_callV (ci := 9) (As := [.int l1]) (rest := []) (n := 1) E J hk rfl (mX9_isCurve (l := l) (G := G) l0 l1 h _ hv) q_5_150 q_5_152 q_p_16 q_1_9 q_5_153 (by decide +kernel) rfl ⟨Nat.le_of_ble_eq_true rfl, Nat.le_of_ble_eq_true rfl⟩ (st0 := [.int l1, .ref (e_ad G l0)]) (st1 := [.int (e_b v1)]) rfl rfl hl.1 (Nat.le_of_ble_eq_true rfl) dX9_blown_2 ⟨Nat.le_refl _, Nat.le_refl _⟩ (fun H locs J => ?_)
  refine lv_if_eq (tgt := 37) hx hb dX9_blown_5 (by decide) (fun hc => ?_) (fun hc => ?_)
  · have hM := e_ip hc hM
    refine lv_ldc (v := -1000000001) hx hb hown (hts _ q_5_140) dX9_blown_37 ?_
    obtain rfl := e_so hM
    exact e_iret E J dX9_blown_39
  · have hM := e_in hc hM
    refine lv_iload_n hx hb dX9_blown_8 rfl (lv_at hl 2 rfl) ?_
    obtain ⟨v2, hv, hM⟩ := e_bs hM
    refine e_callS (As := [.int l2]) (rest := []) (n := 1) E J (mX9_isPlace (l := l) (G := G) l2 h _ hv) q_6_11 q_6_12 q_1_9 q_6_13 (by decide +kernel) rfl ⟨Nat.le_of_ble_eq_true rfl, Nat.le_of_ble_eq_true rfl⟩ (st0 := [.int l2]) (st1 := [.int (e_b v2)]) rfl rfl hl.1 (Nat.le_of_ble_eq_true rfl) dX9_blown_9 ⟨Nat.le_refl _, Nat.le_refl _⟩ (fun H locs J => ?_)
    refine lv_if_eq (tgt := 37) hx hb dX9_blown_12 (by decide) (fun hc => ?_) (fun hc => ?_)
    · have hM := e_ip hc hM
      refine lv_ldc (v := -1000000001) hx hb hown (hts _ q_5_140) dX9_blown_37 ?_
      obtain rfl := e_so hM
      exact e_iret E J dX9_blown_39
    · have hM := e_in hc hM
      refine lv_iload_n hx hb dX9_blown_15 rfl (lv_at hl 3 rfl) ?_
      refine lv_bipush (v := -5) hx hb dX9_blown_16 (by decide) ?_
      refine lv_iconst (v := nI 5) hx hb dX9_blown_18 (by decide) ?_
      obtain ⟨v3, hv, hM⟩ := e_bs hM
      refine e_callS (As := [.int l3, .int (-5 : Int32), .int (nI 5)]) (rest := []) (n := 3) E J (mX9_in (l := l) (G := G) l3 (-5 : Int32) (nI 5) h _ hv) q_5_137 q_5_138 q_1_9 q_5_139 (by decide +kernel) rfl ⟨Nat.le_of_ble_eq_true rfl, Nat.le_of_ble_eq_true rfl⟩ (st0 := [.int (nI 5), .int (-5 : Int32), .int l3]) (st1 := [.int (e_b v3)]) rfl rfl hl.1 (Nat.le_of_ble_eq_true rfl) dX9_blown_19 ⟨Nat.le_refl _, Nat.le_refl _⟩ (fun H locs J => ?_)
      refine lv_if_eq (tgt := 37) hx hb dX9_blown_22 (by decide) (fun hc => ?_) (fun hc => ?_)
      · have hM := e_ip hc hM
        refine lv_ldc (v := -1000000001) hx hb hown (hts _ q_5_140) dX9_blown_37 ?_
        obtain rfl := e_so hM
        exact e_iret E J dX9_blown_39
      · have hM := e_in hc hM
        refine lv_iload hx hb dX9_blown_25 (lv_at hl 4 rfl) ?_
        refine lv_bipush (v := -5) hx hb dX9_blown_27 (by decide) ?_
        refine lv_bipush (v := nI 6) hx hb dX9_blown_29 (by decide) ?_
        obtain ⟨v4, hv, hM⟩ := e_bs hM
        refine e_callS (As := [.int l4, .int (-5 : Int32), .int (nI 6)]) (rest := []) (n := 3) E J (mX9_in (l := l) (G := G) l4 (-5 : Int32) (nI 6) h _ hv) q_5_137 q_5_138 q_1_9 q_5_139 (by decide +kernel) rfl ⟨Nat.le_of_ble_eq_true rfl, Nat.le_of_ble_eq_true rfl⟩ (st0 := [.int (nI 6), .int (-5 : Int32), .int l4]) (st1 := [.int (e_b v4)]) rfl rfl hl.1 (Nat.le_of_ble_eq_true rfl) dX9_blown_31 ⟨Nat.le_refl _, Nat.le_refl _⟩ (fun H locs J => ?_)
        refine lv_if_ne (tgt := 40) hx hb dX9_blown_34 (by decide) (fun hc => ?_) (fun hc => ?_)
        · have hM := e_in hc hM
          refine lv_aload_n hx hb dX9_blown_40 rfl (lv_at hl 0 rfl) ?_
          refine lv_iload_n hx hb dX9_blown_41 rfl (lv_at hl 1 rfl) ?_
          refine lv_iload_n hx hb dX9_blown_42 rfl (lv_at hl 2 rfl) ?_
          obtain ⟨h5, hv, hM⟩ := e_bs hM
          obtain ⟨fs_, hk, -⟩ := e_bs hv
          refine e_callV (ci := 9) (As := [.int l1, .int l2]) (rest := []) (n := 2) E J hk rfl (mX9_findPlace (l := l) (G := G) l0 l1 l2 h _ hv) q_6_14 q_6_16 q_p_27 q_1_9 q_6_17 (by decide +kernel) rfl ⟨Nat.le_of_ble_eq_true rfl, Nat.le_of_ble_eq_true rfl⟩ (st0 := [.int l2, .int l1, .ref (e_ad G l0)]) (st1 := []) rfl rfl hl.1 (Nat.le_of_ble_eq_true rfl) dX9_blown_43 ⟨Nat.le_refl _, Nat.le_refl _⟩ (fun H locs J => ?_)
          refine lv_aload_n hx hb dX9_blown_46 rfl (lv_at hl 0 rfl) ?_
          refine lv_iconst (v := nI 0) hx hb dX9_blown_47 (by decide) ?_
          obtain ⟨v6, hv, hM⟩ := e_bs hM
          obtain ⟨fs_, hk, -⟩ := e_bs hv
          refine e_callV (ci := 9) (As := [.int (nI 0)]) (rest := []) (n := 1) E J hk rfl (mX9_timesOf (l := l) (G := G) l0 (nI 0) h5 _ hv) q_6_25 q_6_27 q_p_29 q_1_9 q_6_28 (by decide +kernel) rfl ⟨Nat.le_of_ble_eq_true rfl, Nat.le_of_ble_eq_true rfl⟩ (st0 := [.int (nI 0), .ref (e_ad G l0)]) (st1 := [.int v6]) rfl rfl hl.1 (Nat.le_of_ble_eq_true rfl) dX9_blown_48 ⟨Nat.le_refl _, Nat.le_refl _⟩ (fun H locs J => ?_)
          refine lv_istore (lv' := [(5, .int v6), (0, .ref (e_ad G l0)), (1, .int l1), (2, .int l2), (3, .int l3), (4, .int l4)]) hx hb dX9_blown_51 hl (by decide) rfl (fun ls hl => ?_)
          refine lv_iload hx hb dX9_blown_53 (lv_at hl 0 rfl) ?_
          obtain ⟨v7, hv, hM⟩ := e_bs hM
          refine e_callS (As := [.int v6]) (rest := []) (n := 1) E J (mX9_isSome (l := l) (G := G) v6 h5 _ hv) q_6_37 q_6_38 q_1_9 q_6_39 (by decide +kernel) rfl ⟨Nat.le_of_ble_eq_true rfl, Nat.le_of_ble_eq_true rfl⟩ (st0 := [.int v6]) (st1 := [.int (e_b v7)]) rfl rfl hl.1 (Nat.le_of_ble_eq_true rfl) dX9_blown_55 ⟨Nat.le_refl _, Nat.le_refl _⟩ (fun H locs J => ?_)
          refine lv_if_ne (tgt := 64) hx hb dX9_blown_58 (by decide) (fun hc => ?_) (fun hc => ?_)
          · have hM := e_in hc hM
            refine lv_aload_n hx hb dX9_blown_64 rfl (lv_at hl 1 rfl) ?_
            refine lv_iconst (v := nI 0) hx hb dX9_blown_65 (by decide) ?_
            refine lv_iload hx hb dX9_blown_66 (lv_at hl 0 rfl) ?_
            refine lv_iload_n hx hb dX9_blown_68 rfl (lv_at hl 4 rfl) ?_
            refine lv_iconst (v := nI 1) hx hb dX9_blown_69 (by decide) ?_
            obtain ⟨h8, hv, hM⟩ := e_bs hM
            obtain ⟨fs_, hk, -⟩ := e_bs hv
            refine e_callV (ci := 9) (As := [.int (nI 0), .int v6, .int l3, .int (nI 1)]) (rest := []) (n := 4) E J hk rfl (mX9_blows (l := l) (G := G) l0 (nI 0) v6 l3 (nI 1) h5 _ hv) q_6_70 q_6_72 q_p_34 q_1_9 q_6_73 (by decide +kernel) rfl ⟨Nat.le_of_ble_eq_true rfl, Nat.le_of_ble_eq_true rfl⟩ (st0 := [.int (nI 1), .int l3, .int v6, .int (nI 0), .ref (e_ad G l0)]) (st1 := []) rfl rfl hl.1 (Nat.le_of_ble_eq_true rfl) dX9_blown_70 ⟨Nat.le_refl _, Nat.le_refl _⟩ (fun H locs J => ?_)
            refine lv_aload_n hx hb dX9_blown_73 rfl (lv_at hl 1 rfl) ?_
            refine lv_iconst (v := nI 1) hx hb dX9_blown_74 (by decide) ?_
            obtain ⟨v9, hv, hM⟩ := e_bs hM
            obtain ⟨fs_, hk, -⟩ := e_bs hv
            refine e_callV (ci := 9) (As := [.int (nI 1)]) (rest := []) (n := 1) E J hk rfl (mX9_timesOf (l := l) (G := G) l0 (nI 1) h8 _ hv) q_6_25 q_6_27 q_p_29 q_1_9 q_6_28 (by decide +kernel) rfl ⟨Nat.le_of_ble_eq_true rfl, Nat.le_of_ble_eq_true rfl⟩ (st0 := [.int (nI 1), .ref (e_ad G l0)]) (st1 := [.int v9]) rfl rfl hl.1 (Nat.le_of_ble_eq_true rfl) dX9_blown_75 ⟨Nat.le_refl _, Nat.le_refl _⟩ (fun H locs J => ?_)
            refine lv_istore (lv' := [(6, .int v9), (5, .int v6), (0, .ref (e_ad G l0)), (1, .int l1), (2, .int l2), (3, .int l3), (4, .int l4)]) hx hb dX9_blown_78 hl (by decide) rfl (fun ls hl => ?_)
            refine lv_iload hx hb dX9_blown_80 (lv_at hl 6 rfl) ?_
            refine lv_bipush (v := nI 6) hx hb dX9_blown_82 (by decide) ?_
            refine lv_icmp_ne (tgt := 90) hx hb dX9_blown_84 (by decide) (fun hc => ?_) (fun hc => ?_)
            · have hM := e_in hc hM
              refine lv_iload hx hb dX9_blown_90 (lv_at hl 0 rfl) ?_
              obtain ⟨v10, hv, hM⟩ := e_bs hM
              refine e_callS (As := [.int v9]) (rest := []) (n := 1) E J (mX9_isSome (l := l) (G := G) v9 h8 _ hv) q_6_37 q_6_38 q_1_9 q_6_39 (by decide +kernel) rfl ⟨Nat.le_of_ble_eq_true rfl, Nat.le_of_ble_eq_true rfl⟩ (st0 := [.int v9]) (st1 := [.int (e_b v10)]) rfl rfl hl.1 (Nat.le_of_ble_eq_true rfl) dX9_blown_92 ⟨Nat.le_refl _, Nat.le_refl _⟩ (fun H locs J => ?_)
              refine lv_if_ne (tgt := 101) hx hb dX9_blown_95 (by decide) (fun hc => ?_) (fun hc => ?_)
              · have hM := e_in hc hM
                refine lv_aload_n hx hb dX9_blown_101 rfl (lv_at hl 2 rfl) ?_
                refine lv_iconst (v := nI 1) hx hb dX9_blown_102 (by decide) ?_
                refine lv_iload hx hb dX9_blown_103 (lv_at hl 0 rfl) ?_
                refine lv_iload hx hb dX9_blown_105 (lv_at hl 6 rfl) ?_
                refine lv_iconst (v := nI 2) hx hb dX9_blown_107 (by decide) ?_
                obtain ⟨h11, hv, hM⟩ := e_bs hM
                obtain ⟨fs_, hk, -⟩ := e_bs hv
                refine e_callV (ci := 9) (As := [.int (nI 1), .int v9, .int l4, .int (nI 2)]) (rest := []) (n := 4) E J hk rfl (mX9_blows (l := l) (G := G) l0 (nI 1) v9 l4 (nI 2) h8 _ hv) q_6_70 q_6_72 q_p_34 q_1_9 q_6_73 (by decide +kernel) rfl ⟨Nat.le_of_ble_eq_true rfl, Nat.le_of_ble_eq_true rfl⟩ (st0 := [.int (nI 2), .int l4, .int v9, .int (nI 1), .ref (e_ad G l0)]) (st1 := []) rfl rfl hl.1 (Nat.le_of_ble_eq_true rfl) dX9_blown_108 ⟨Nat.le_refl _, Nat.le_refl _⟩ (fun H locs J => ?_)
                refine lv_aload_n hx hb dX9_blown_111 rfl (lv_at hl 2 rfl) ?_
                refine lv_iconst (v := nI 2) hx hb dX9_blown_112 (by decide) ?_
                obtain ⟨v12, hv, hM⟩ := e_bs hM
                obtain ⟨fs_, hk, -⟩ := e_bs hv
                refine e_callV (ci := 9) (As := [.int (nI 2)]) (rest := []) (n := 1) E J hk rfl (mX9_timesOf (l := l) (G := G) l0 (nI 2) h11 _ hv) q_6_25 q_6_27 q_p_29 q_1_9 q_6_28 (by decide +kernel) rfl ⟨Nat.le_of_ble_eq_true rfl, Nat.le_of_ble_eq_true rfl⟩ (st0 := [.int (nI 2), .ref (e_ad G l0)]) (st1 := [.int v12]) rfl rfl hl.1 (Nat.le_of_ble_eq_true rfl) dX9_blown_113 ⟨Nat.le_refl _, Nat.le_refl _⟩ (fun H locs J => ?_)
                obtain rfl := e_so hM
                exact e_iret E J dX9_blown_116
              · have hM := e_ip hc hM
                refine lv_ldc (v := -1000000002) hx hb hown (hts _ q_6_49) dX9_blown_98 ?_
                obtain rfl := e_so hM
                exact e_iret E J dX9_blown_100
            · have hM := e_ip hc hM
              refine lv_iload hx hb dX9_blown_87 (lv_at hl 0 rfl) ?_
              obtain rfl := e_so hM
              exact e_iret E J dX9_blown_89
          · have hM := e_ip hc hM
            refine lv_ldc (v := -1000000002) hx hb hown (hts _ q_6_49) dX9_blown_61 ?_
            obtain rfl := e_so hM
            exact e_iret E J dX9_blown_63
        · have hM := e_ip hc hM
          refine lv_ldc (v := -1000000001) hx hb hown (hts _ q_5_140) dX9_blown_37 ?_
          obtain rfl := e_so hM
          exact e_iret E J dX9_blown_39
set_option maxRecDepth 100000 in
set_option maxHeartbeats 4000000 in
theorem mX9_findTree_b224 {p : Program} {l : Launch} {e : Env} {s : State} {m : MethodId} {args : Array Value} {below : List Frame} {meth : Method} {c : Code} {G : e_G} {res : e_H} {k39 : Nat → Int32 → Int32 → e_H → Option e_H} (E : e_M G p s args m meth c cX9_findTree 6 none RX9) (K39 : ∀ (l0 : Nat) (l1 : Int32) (l2 : Int32) (h : e_H), k39 l0 l1 l2 h = some res → ∀ (H : Heap) (locs : List Loc), e_J G s h H locs → ∀ (ls : Array Slot), lv_has ls 6 [(0, .ref (e_ad G l0)), (1, .int l1), (2, .int l2)] → W p l e (e_rm 3 75) s m args below meth c H locs 0 0 (MQ below (e_Q G res (none)) args s 0 0 (e_A G)) (F0 m 39 ls [])) (l0 : Nat) (l1 : Int32) (l2 : Int32) (t0 : Int32) (t1 : Int32) (t2 : Nat) (h : e_H) (hM : fX9_findTree_b224 k39 l0 l1 l2 t0 t1 t2 h = some res) {H : Heap} {locs : List Loc} (J : e_J G s h H locs) {ls : Array Slot} (hl : lv_has ls 6 [(0, .ref (e_ad G l0)), (1, .int l1), (2, .int l2)]) : W p l e (e_rm 3 75) s m args below meth c H locs 0 0 (MQ below (e_Q G res (none)) args s 0 0 (e_A G)) (F0 m 224 ls [.int t0, .int t1, .ref (e_ad G t2)]) := by
  obtain ⟨hx, hb, hr, hml, hown, hts, hlocks, hES, hbs⟩ := id E
  unfold fX9_findTree_b224 at hM
  refine lv_iadd hx hb dX9_findTree_224 ?_
  obtain ⟨h1, hv, hM⟩ := e_bs hM
  refine e_putv (C := RX9) (T := TX9) (N := 40) E J hv rfl rfl inX9 tyX9 tyX9_ok nmX9 (by decide) q_5_19 rfl rfl rfl rfl dX9_findTree_225 (fun H locs J => ?_)
  refine lv_iinc (v := (l2 + (nI 1))) (lv' := [(2, .int (l2 + (nI 1))), (0, .ref (e_ad G l0)), (1, .int l1)]) hx hb dX9_findTree_228 hl (k := 2) rfl rfl (by decide) rfl (fun ls hl => ?_)
  refine lv_goto (tgt := 39) hx hb dX9_findTree_231 (by decide) ?_
  exact K39 l0 l1 (l2 + (nI 1)) h1 hM _ _ J _ (lv_sub hl [1, 2, 0] rfl)
set_option maxRecDepth 100000 in
set_option maxHeartbeats 4000000 in
theorem mX9_findTree_b207 {p : Program} {l : Launch} {e : Env} {s : State} {m : MethodId} {args : Array Value} {below : List Frame} {meth : Method} {c : Code} {G : e_G} {res : e_H} {k39 : Nat → Int32 → Int32 → e_H → Option e_H} (E : e_M G p s args m meth c cX9_findTree 6 none RX9) (K39 : ∀ (l0 : Nat) (l1 : Int32) (l2 : Int32) (h : e_H), k39 l0 l1 l2 h = some res → ∀ (H : Heap) (locs : List Loc), e_J G s h H locs → ∀ (ls : Array Slot), lv_has ls 6 [(0, .ref (e_ad G l0)), (1, .int l1), (2, .int l2)] → W p l e (e_rm 3 75) s m args below meth c H locs 0 0 (MQ below (e_Q G res (none)) args s 0 0 (e_A G)) (F0 m 39 ls [])) (l0 : Nat) (l1 : Int32) (l2 : Int32) (t0 : Int32) (h : e_H) (hM : fX9_findTree_b207 k39 l0 l1 l2 t0 h = some res) {H : Heap} {locs : List Loc} (J : e_J G s h H locs) {ls : Array Slot} (hl : lv_has ls 6 [(0, .ref (e_ad G l0)), (1, .int l1), (2, .int l2)]) : W p l e (e_rm 3 75) s m args below meth c H locs 0 0 (MQ below (e_Q G res (none)) args s 0 0 (e_A G)) (F0 m 207 ls [.int t0]) := by
  obtain ⟨hx, hb, hr, hml, hown, hts, hlocks, hES, hbs⟩ := id E
  unfold fX9_findTree_b207 at hM
  refine lv_istore (lv' := [(5, .int t0), (0, .ref (e_ad G l0)), (1, .int l1), (2, .int l2)]) hx hb dX9_findTree_207 hl (by decide) rfl (fun ls hl => ?_)
  refine lv_aload_n hx hb dX9_findTree_209 rfl (lv_at hl 1 rfl) ?_
  refine lv_dup hx hb dX9_findTree_210 rfl ?_
  obtain ⟨v1, hv, hM⟩ := e_bs hM
  refine e_getI (C := RX9) (T := TX9) (N := 40) E J hv rfl inX9 (by decide) q_5_19 dX9_findTree_211 ?_
  refine lv_iload hx hb dX9_findTree_214 (lv_at hl 0 rfl) ?_
  refine lv_if_eq (tgt := 223) hx hb dX9_findTree_216 (by decide) (fun hc => ?_) (fun hc => ?_)
  · have hM := e_ip hc hM
    refine lv_iconst (v := nI 0) hx hb dX9_findTree_223 (by decide) ?_
    exact mX9_findTree_b224 E K39 l0 l1 l2 (nI 0) v1 l0 h hM J (lv_sub hl [1, 2, 3] rfl)
  · have hM := e_in hc hM
    refine lv_iconst (v := nI 1) hx hb dX9_findTree_219 (by decide) ?_
    refine lv_goto (tgt := 224) hx hb dX9_findTree_220 (by decide) ?_
    exact mX9_findTree_b224 E K39 l0 l1 l2 (nI 1) v1 l0 h hM J (lv_sub hl [1, 2, 3] rfl)
set_option maxRecDepth 100000 in
set_option maxHeartbeats 4000000 in
theorem mX9_findTree_b170 {p : Program} {l : Launch} {e : Env} {s : State} {m : MethodId} {args : Array Value} {below : List Frame} {meth : Method} {c : Code} {G : e_G} {res : e_H} {k39 : Nat → Int32 → Int32 → e_H → Option e_H} (E : e_M G p s args m meth c cX9_findTree 6 none RX9) (K39 : ∀ (l0 : Nat) (l1 : Int32) (l2 : Int32) (h : e_H), k39 l0 l1 l2 h = some res → ∀ (H : Heap) (locs : List Loc), e_J G s h H locs → ∀ (ls : Array Slot), lv_has ls 6 [(0, .ref (e_ad G l0)), (1, .int l1), (2, .int l2)] → W p l e (e_rm 3 75) s m args below meth c H locs 0 0 (MQ below (e_Q G res (none)) args s 0 0 (e_A G)) (F0 m 39 ls [])) (l0 : Nat) (l1 : Int32) (l2 : Int32) (l3 : Int32) (l4 : Int32) (h : e_H) (hM : fX9_findTree_b170 k39 l0 l1 l2 l3 l4 h = some res) {H : Heap} {locs : List Loc} (J : e_J G s h H locs) {ls : Array Slot} (hl : lv_has ls 6 [(0, .ref (e_ad G l0)), (1, .int l1), (2, .int l2), (3, .int l3), (4, .int l4)]) : W p l e (e_rm 3 75) s m args below meth c H locs 0 0 (MQ below (e_Q G res (none)) args s 0 0 (e_A G)) (F0 m 170 ls []) := by
  obtain ⟨hx, hb, hr, hml, hown, hts, hlocks, hES, hbs⟩ := id E
  unfold fX9_findTree_b170 at hM
  refine lv_aload_n hx hb dX9_findTree_170 rfl (lv_at hl 0 rfl) ?_
  obtain ⟨v1, hv, hM⟩ := e_bs hM
  refine e_getR (C := RX9) (T := TX9) (N := 40) E J hv rfl inX9 (by decide) q_5_20 dX9_findTree_171 ?_
  rcases v1 with _ | a2
  · have hM := e_on0 hM
    refine W.eq (g2 := F0 m 174 ls [.null]) rfl ?_
    refine lv_iload_n hx hb dX9_findTree_174 rfl (lv_at hl 2 rfl) ?_
    exact e_no hM
  · have hM := e_on1 hM
    refine W.eq (g2 := F0 m 174 ls [.ref (e_ad G a2)]) rfl ?_
    refine lv_iload_n hx hb dX9_findTree_174 rfl (lv_at hl 2 rfl) ?_
    obtain ⟨v3, hv, hM⟩ := e_bs hM
    refine e_iald E J hv dX9_findTree_175 ?_
    refine lv_iload_n hx hb dX9_findTree_176 rfl (lv_at hl 1 rfl) ?_
    refine lv_icmp_ne (tgt := 193) hx hb dX9_findTree_177 (by decide) (fun hc => ?_) (fun hc => ?_)
    · have hM := e_in hc hM
      refine lv_aload_n hx hb dX9_findTree_193 rfl (lv_at hl 0 rfl) ?_
      obtain ⟨v4, hv, hM⟩ := e_bs hM
      refine e_getI (C := RX9) (T := TX9) (N := 40) E J hv rfl inX9 (by decide) q_5_17 dX9_findTree_194 ?_
      refine lv_iload hx hb dX9_findTree_197 (lv_at hl 4 rfl) ?_
      refine lv_icmp_ne (tgt := 206) hx hb dX9_findTree_199 (by decide) (fun hc => ?_) (fun hc => ?_)
      · have hM := e_in hc hM
        refine lv_iconst (v := nI 0) hx hb dX9_findTree_206 (by decide) ?_
        exact mX9_findTree_b207 E K39 l0 l1 l2 (nI 0) h hM J (lv_sub hl [0, 1, 2] rfl)
      · have hM := e_ip hc hM
        refine lv_iconst (v := nI 1) hx hb dX9_findTree_202 (by decide) ?_
        refine lv_goto (tgt := 207) hx hb dX9_findTree_203 (by decide) ?_
        exact mX9_findTree_b207 E K39 l0 l1 l2 (nI 1) h hM J (lv_sub hl [0, 1, 2] rfl)
    · have hM := e_ip hc hM
      refine lv_iload_n hx hb dX9_findTree_180 rfl (lv_at hl 3 rfl) ?_
      refine lv_iconst (v := nI 1) hx hb dX9_findTree_181 (by decide) ?_
      refine lv_icmp_ne (tgt := 189) hx hb dX9_findTree_182 (by decide) (fun hc => ?_) (fun hc => ?_)
      · have hM := e_in hc hM
        refine lv_iconst (v := nI 0) hx hb dX9_findTree_189 (by decide) ?_
        refine lv_goto (tgt := 207) hx hb dX9_findTree_190 (by decide) ?_
        exact mX9_findTree_b207 E K39 l0 l1 l2 (nI 0) h hM J (lv_sub hl [0, 1, 2] rfl)
      · have hM := e_ip hc hM
        refine lv_iconst (v := nI 1) hx hb dX9_findTree_185 (by decide) ?_
        refine lv_goto (tgt := 207) hx hb dX9_findTree_186 (by decide) ?_
        exact mX9_findTree_b207 E K39 l0 l1 l2 (nI 1) h hM J (lv_sub hl [0, 1, 2] rfl)
set_option maxRecDepth 100000 in
set_option maxHeartbeats 4000000 in
theorem mX9_findTree_b164 {p : Program} {l : Launch} {e : Env} {s : State} {m : MethodId} {args : Array Value} {below : List Frame} {meth : Method} {c : Code} {G : e_G} {res : e_H} {k39 : Nat → Int32 → Int32 → e_H → Option e_H} {k79 : Nat → Int32 → Int32 → Int32 → Int32 → Int32 → e_H → Option e_H} (E : e_M G p s args m meth c cX9_findTree 6 none RX9) (K39 : ∀ (l0 : Nat) (l1 : Int32) (l2 : Int32) (h : e_H), k39 l0 l1 l2 h = some res → ∀ (H : Heap) (locs : List Loc), e_J G s h H locs → ∀ (ls : Array Slot), lv_has ls 6 [(0, .ref (e_ad G l0)), (1, .int l1), (2, .int l2)] → W p l e (e_rm 3 75) s m args below meth c H locs 0 0 (MQ below (e_Q G res (none)) args s 0 0 (e_A G)) (F0 m 39 ls [])) (K79 : ∀ (l0 : Nat) (l1 : Int32) (l2 : Int32) (l3 : Int32) (l4 : Int32) (l5 : Int32) (h : e_H), k79 l0 l1 l2 l3 l4 l5 h = some res → ∀ (H : Heap) (locs : List Loc), e_J G s h H locs → ∀ (ls : Array Slot), lv_has ls 6 [(0, .ref (e_ad G l0)), (1, .int l1), (2, .int l2), (3, .int l3), (4, .int l4), (5, .int l5)] → W p l e (e_rm 3 75) s m args below meth c H locs 0 0 (MQ below (e_Q G res (none)) args s 0 0 (e_A G)) (F0 m 79 ls [])) (l0 : Nat) (l1 : Int32) (l2 : Int32) (l3 : Int32) (l4 : Int32) (l5 : Int32) (h : e_H) (hM : fX9_findTree_b164 k39 k79 l0 l1 l2 l3 l4 l5 h = some res) {H : Heap} {locs : List Loc} (J : e_J G s h H locs) {ls : Array Slot} (hl : lv_has ls 6 [(0, .ref (e_ad G l0)), (1, .int l1), (2, .int l2), (3, .int l3), (4, .int l4), (5, .int l5)]) : W p l e (e_rm 3 75) s m args below meth c H locs 0 0 (MQ below (e_Q G res (none)) args s 0 0 (e_A G)) (F0 m 164 ls []) := by
  obtain ⟨hx, hb, hr, hml, hown, hts, hlocks, hES, hbs⟩ := id E
  unfold fX9_findTree_b164 at hM
  refine lv_iinc (v := (l5 + (nI 1))) (lv' := [(5, .int (l5 + (nI 1))), (0, .ref (e_ad G l0)), (1, .int l1), (2, .int l2), (3, .int l3), (4, .int l4)]) hx hb dX9_findTree_164 hl (k := 5) rfl rfl (by decide) rfl (fun ls hl => ?_)
  refine lv_goto (tgt := 79) hx hb dX9_findTree_167 (by decide) ?_
  exact K79 l0 l1 l2 l3 l4 (l5 + (nI 1)) h hM _ _ J _ (lv_sub hl [1, 2, 3, 4, 5, 0] rfl)
set_option maxRecDepth 100000 in
set_option maxHeartbeats 4000000 in
theorem mX9_findTree_b160 {p : Program} {l : Launch} {e : Env} {s : State} {m : MethodId} {args : Array Value} {below : List Frame} {meth : Method} {c : Code} {G : e_G} {res : e_H} {k39 : Nat → Int32 → Int32 → e_H → Option e_H} {k79 : Nat → Int32 → Int32 → Int32 → Int32 → Int32 → e_H → Option e_H} (E : e_M G p s args m meth c cX9_findTree 6 none RX9) (K39 : ∀ (l0 : Nat) (l1 : Int32) (l2 : Int32) (h : e_H), k39 l0 l1 l2 h = some res → ∀ (H : Heap) (locs : List Loc), e_J G s h H locs → ∀ (ls : Array Slot), lv_has ls 6 [(0, .ref (e_ad G l0)), (1, .int l1), (2, .int l2)] → W p l e (e_rm 3 75) s m args below meth c H locs 0 0 (MQ below (e_Q G res (none)) args s 0 0 (e_A G)) (F0 m 39 ls [])) (K79 : ∀ (l0 : Nat) (l1 : Int32) (l2 : Int32) (l3 : Int32) (l4 : Int32) (l5 : Int32) (h : e_H), k79 l0 l1 l2 l3 l4 l5 h = some res → ∀ (H : Heap) (locs : List Loc), e_J G s h H locs → ∀ (ls : Array Slot), lv_has ls 6 [(0, .ref (e_ad G l0)), (1, .int l1), (2, .int l2), (3, .int l3), (4, .int l4), (5, .int l5)] → W p l e (e_rm 3 75) s m args below meth c H locs 0 0 (MQ below (e_Q G res (none)) args s 0 0 (e_A G)) (F0 m 79 ls [])) (l0 : Nat) (l1 : Int32) (l2 : Int32) (l3 : Int32) (l4 : Int32) (l5 : Int32) (t0 : Int32) (t1 : Int32) (t2 : Nat) (h : e_H) (hM : fX9_findTree_b160 k39 k79 l0 l1 l2 l3 l4 l5 t0 t1 t2 h = some res) {H : Heap} {locs : List Loc} (J : e_J G s h H locs) {ls : Array Slot} (hl : lv_has ls 6 [(0, .ref (e_ad G l0)), (1, .int l1), (2, .int l2), (3, .int l3), (4, .int l4), (5, .int l5)]) : W p l e (e_rm 3 75) s m args below meth c H locs 0 0 (MQ below (e_Q G res (none)) args s 0 0 (e_A G)) (F0 m 160 ls [.int t0, .int t1, .ref (e_ad G t2)]) := by
  obtain ⟨hx, hb, hr, hml, hown, hts, hlocks, hES, hbs⟩ := id E
  unfold fX9_findTree_b160 at hM
  refine lv_iadd hx hb dX9_findTree_160 ?_
  obtain ⟨h1, hv, hM⟩ := e_bs hM
  refine e_putv (C := RX9) (T := TX9) (N := 40) E J hv rfl rfl inX9 tyX9 tyX9_ok nmX9 (by decide) q_5_17 rfl rfl rfl rfl dX9_findTree_161 (fun H locs J => ?_)
  exact mX9_findTree_b164 E K39 K79 l0 l1 l2 l3 l4 l5 h1 hM J (lv_sub hl [0, 1, 2, 3, 4, 5] rfl)
set_option maxRecDepth 100000 in
set_option maxHeartbeats 4000000 in
theorem mX9_findTree_b79 {p : Program} {l : Launch} {e : Env} {s : State} {m : MethodId} {args : Array Value} {below : List Frame} {meth : Method} {c : Code} {G : e_G} {res : e_H} {k39 : Nat → Int32 → Int32 → e_H → Option e_H} {k79 : Nat → Int32 → Int32 → Int32 → Int32 → Int32 → e_H → Option e_H} (E : e_M G p s args m meth c cX9_findTree 6 none RX9) (K39 : ∀ (l0 : Nat) (l1 : Int32) (l2 : Int32) (h : e_H), k39 l0 l1 l2 h = some res → ∀ (H : Heap) (locs : List Loc), e_J G s h H locs → ∀ (ls : Array Slot), lv_has ls 6 [(0, .ref (e_ad G l0)), (1, .int l1), (2, .int l2)] → W p l e (e_rm 3 75) s m args below meth c H locs 0 0 (MQ below (e_Q G res (none)) args s 0 0 (e_A G)) (F0 m 39 ls [])) (K79 : ∀ (l0 : Nat) (l1 : Int32) (l2 : Int32) (l3 : Int32) (l4 : Int32) (l5 : Int32) (h : e_H), k79 l0 l1 l2 l3 l4 l5 h = some res → ∀ (H : Heap) (locs : List Loc), e_J G s h H locs → ∀ (ls : Array Slot), lv_has ls 6 [(0, .ref (e_ad G l0)), (1, .int l1), (2, .int l2), (3, .int l3), (4, .int l4), (5, .int l5)] → W p l e (e_rm 3 75) s m args below meth c H locs 0 0 (MQ below (e_Q G res (none)) args s 0 0 (e_A G)) (F0 m 79 ls [])) (l0 : Nat) (l1 : Int32) (l2 : Int32) (l3 : Int32) (l4 : Int32) (l5 : Int32) (h : e_H) (hM : fX9_findTree_b79 k39 k79 l0 l1 l2 l3 l4 l5 h = some res) {H : Heap} {locs : List Loc} (J : e_J G s h H locs) {ls : Array Slot} (hl : lv_has ls 6 [(0, .ref (e_ad G l0)), (1, .int l1), (2, .int l2), (3, .int l3), (4, .int l4), (5, .int l5)]) : W p l e (e_rm 3 75) s m args below meth c H locs 0 0 (MQ below (e_Q G res (none)) args s 0 0 (e_A G)) (F0 m 79 ls []) := by
  obtain ⟨hx, hb, hr, hml, hown, hts, hlocks, hES, hbs⟩ := id E
  unfold fX9_findTree_b79 at hM
  refine lv_iload hx hb dX9_findTree_79 (lv_at hl 5 rfl) ?_
  refine lv_bipush (v := nI 6) hx hb dX9_findTree_81 (by decide) ?_
  refine lv_icmp_ge (tgt := 170) hx hb dX9_findTree_83 (by decide) (fun hc => ?_) (fun hc => ?_)
  · have hM := e_ip hc hM
    exact mX9_findTree_b170 E K39 l0 l1 l2 l3 l4 h hM J (lv_sub hl [0, 1, 2, 3, 4] rfl)
  · have hM := e_in hc hM
    refine lv_aload_n hx hb dX9_findTree_86 rfl (lv_at hl 0 rfl) ?_
    obtain ⟨v1, hv, hM⟩ := e_bs hM
    refine e_getR (C := RX9) (T := TX9) (N := 40) E J hv rfl inX9 (by decide) q_5_20 dX9_findTree_87 ?_
    rcases v1 with _ | a2
    · have hM := e_on0 hM
      refine W.eq (g2 := F0 m 90 ls [.null]) rfl ?_
      refine lv_iload_n hx hb dX9_findTree_90 rfl (lv_at hl 2 rfl) ?_
      exact e_no hM
    · have hM := e_on1 hM
      refine W.eq (g2 := F0 m 90 ls [.ref (e_ad G a2)]) rfl ?_
      refine lv_iload_n hx hb dX9_findTree_90 rfl (lv_at hl 2 rfl) ?_
      obtain ⟨v3, hv, hM⟩ := e_bs hM
      refine e_iald E J hv dX9_findTree_91 ?_
      refine lv_iload_n hx hb dX9_findTree_92 rfl (lv_at hl 1 rfl) ?_
      refine lv_icmp_ge (tgt := 170) hx hb dX9_findTree_93 (by decide) (fun hc => ?_) (fun hc => ?_)
      · have hM := e_ip hc hM
        exact mX9_findTree_b170 E K39 l0 l1 l2 l3 l4 h hM J (lv_sub hl [0, 1, 2, 3, 4] rfl)
      · have hM := e_in hc hM
        refine lv_aload_n hx hb dX9_findTree_96 rfl (lv_at hl 0 rfl) ?_
        refine lv_iload_n hx hb dX9_findTree_97 rfl (lv_at hl 2 rfl) ?_
        refine lv_iload_n hx hb dX9_findTree_98 rfl (lv_at hl 3 rfl) ?_
        refine lv_iload hx hb dX9_findTree_99 (lv_at hl 5 rfl) ?_
        obtain ⟨p4, hv, hM⟩ := e_bs hM
        obtain ⟨fs_, hk, -⟩ := e_bs hv
        refine e_callV (ci := 9) (As := [.int l2, .int l3, .int l5]) (rest := []) (n := 3) E J hk rfl (mX9_isSlope (l := l) (G := G) l0 l2 l3 l5 h _ hv) q_6_50 q_6_52 q_p_31 q_1_9 q_6_53 (by decide +kernel) rfl ⟨Nat.le_of_ble_eq_true rfl, Nat.le_of_ble_eq_true rfl⟩ (st0 := [.int l5, .int l3, .int l2, .ref (e_ad G l0)]) (st1 := [.int (e_b p4.1)]) rfl rfl hl.1 (Nat.le_of_ble_eq_true rfl) dX9_findTree_101 ⟨Nat.le_refl _, Nat.le_refl _⟩ (fun H locs J => ?_)
        refine lv_if_eq (tgt := 164) hx hb dX9_findTree_104 (by decide) (fun hc => ?_) (fun hc => ?_)
        · have hM := e_ip hc hM
          exact mX9_findTree_b164 E K39 K79 l0 l1 l2 l3 l4 l5 p4.2 hM J (lv_sub hl [0, 1, 2, 3, 4, 5] rfl)
        · have hM := e_in hc hM
          refine lv_aload_n hx hb dX9_findTree_107 rfl (lv_at hl 0 rfl) ?_
          refine lv_iload_n hx hb dX9_findTree_108 rfl (lv_at hl 2 rfl) ?_
          refine lv_iload_n hx hb dX9_findTree_109 rfl (lv_at hl 3 rfl) ?_
          refine lv_iload hx hb dX9_findTree_110 (lv_at hl 5 rfl) ?_
          refine lv_aload_n hx hb dX9_findTree_112 rfl (lv_at hl 0 rfl) ?_
          obtain ⟨v5, hv, hM⟩ := e_bs hM
          refine e_getI (C := RX9) (T := TX9) (N := 40) E J hv rfl inX9 (by decide) q_5_17 dX9_findTree_113 ?_
          obtain ⟨h6, hv, hM⟩ := e_bs hM
          obtain ⟨fs_, hk, -⟩ := e_bs hv
          refine e_callV (ci := 9) (As := [.int l2, .int l3, .int l5, .int v5]) (rest := []) (n := 4) E J hk rfl (mX9_blows (l := l) (G := G) l0 l2 l3 l5 v5 p4.2 _ hv) q_6_70 q_6_72 q_p_34 q_1_9 q_6_73 (by decide +kernel) rfl ⟨Nat.le_of_ble_eq_true rfl, Nat.le_of_ble_eq_true rfl⟩ (st0 := [.int v5, .int l5, .int l3, .int l2, .ref (e_ad G l0)]) (st1 := []) rfl rfl hl.1 (Nat.le_of_ble_eq_true rfl) dX9_findTree_116 ⟨Nat.le_refl _, Nat.le_refl _⟩ (fun H locs J => ?_)
          refine lv_aload_n hx hb dX9_findTree_119 rfl (lv_at hl 0 rfl) ?_
          obtain ⟨v7, hv, hM⟩ := e_bs hM
          refine e_getR (C := RX9) (T := TX9) (N := 40) E J hv rfl inX9 (by decide) q_5_20 dX9_findTree_120 ?_
          rcases v7 with _ | a8
          · have hM := e_on0 hM
            refine W.eq (g2 := F0 m 123 ls [.null]) rfl ?_
            refine lv_aload_n hx hb dX9_findTree_123 rfl (lv_at hl 0 rfl) ?_
            obtain ⟨v9, hv, hM⟩ := e_bs hM
            refine e_getI (C := RX9) (T := TX9) (N := 40) E J hv rfl inX9 (by decide) q_5_17 dX9_findTree_124 ?_
            refine lv_aload_n hx hb dX9_findTree_127 rfl (lv_at hl 0 rfl) ?_
            obtain ⟨v10, hv, hM⟩ := e_bs hM
            refine e_getR (C := RX9) (T := TX9) (N := 40) E J hv rfl inX9 (by decide) q_5_20 dX9_findTree_128 ?_
            rcases v10 with _ | a11
            · have hM := e_on0 hM
              refine W.eq (g2 := F0 m 131 ls [.null, .int v9, .null]) rfl ?_
              refine lv_iload_n hx hb dX9_findTree_131 rfl (lv_at hl 2 rfl) ?_
              exact e_no hM
            · have hM := e_on1 hM
              refine W.eq (g2 := F0 m 131 ls [.ref (e_ad G a11), .int v9, .null]) rfl ?_
              refine lv_iload_n hx hb dX9_findTree_131 rfl (lv_at hl 2 rfl) ?_
              obtain ⟨v12, hv, hM⟩ := e_bs hM
              refine e_iald E J hv dX9_findTree_132 ?_
              refine lv_iconst (v := nI 1) hx hb dX9_findTree_133 (by decide) ?_
              refine lv_iadd hx hb dX9_findTree_134 ?_
              exact e_no hM
          · have hM := e_on1 hM
            refine W.eq (g2 := F0 m 123 ls [.ref (e_ad G a8)]) rfl ?_
            refine lv_aload_n hx hb dX9_findTree_123 rfl (lv_at hl 0 rfl) ?_
            obtain ⟨v14, hv, hM⟩ := e_bs hM
            refine e_getI (C := RX9) (T := TX9) (N := 40) E J hv rfl inX9 (by decide) q_5_17 dX9_findTree_124 ?_
            refine lv_aload_n hx hb dX9_findTree_127 rfl (lv_at hl 0 rfl) ?_
            obtain ⟨v15, hv, hM⟩ := e_bs hM
            refine e_getR (C := RX9) (T := TX9) (N := 40) E J hv rfl inX9 (by decide) q_5_20 dX9_findTree_128 ?_
            rcases v15 with _ | a16
            · have hM := e_on0 hM
              refine W.eq (g2 := F0 m 131 ls [.null, .int v14, .ref (e_ad G a8)]) rfl ?_
              refine lv_iload_n hx hb dX9_findTree_131 rfl (lv_at hl 2 rfl) ?_
              exact e_no hM
            · have hM := e_on1 hM
              refine W.eq (g2 := F0 m 131 ls [.ref (e_ad G a16), .int v14, .ref (e_ad G a8)]) rfl ?_
              refine lv_iload_n hx hb dX9_findTree_131 rfl (lv_at hl 2 rfl) ?_
              obtain ⟨v17, hv, hM⟩ := e_bs hM
              refine e_iald E J hv dX9_findTree_132 ?_
              refine lv_iconst (v := nI 1) hx hb dX9_findTree_133 (by decide) ?_
              refine lv_iadd hx hb dX9_findTree_134 ?_
              obtain ⟨h18, hv, hM⟩ := e_bs hM
              refine e_iast E J hv dX9_findTree_135 (fun H locs J => ?_)
              refine lv_aload_n hx hb dX9_findTree_136 rfl (lv_at hl 0 rfl) ?_
              refine lv_dup hx hb dX9_findTree_137 rfl ?_
              obtain ⟨v19, hv, hM⟩ := e_bs hM
              refine e_getI (C := RX9) (T := TX9) (N := 40) E J hv rfl inX9 (by decide) q_5_17 dX9_findTree_138 ?_
              refine lv_aload_n hx hb dX9_findTree_141 rfl (lv_at hl 0 rfl) ?_
              refine lv_aload_n hx hb dX9_findTree_142 rfl (lv_at hl 0 rfl) ?_
              obtain ⟨v20, hv, hM⟩ := e_bs hM
              refine e_getI (C := RX9) (T := TX9) (N := 40) E J hv rfl inX9 (by decide) q_5_17 dX9_findTree_143 ?_
              obtain ⟨v21, hv, hM⟩ := e_bs hM
              obtain ⟨fs_, hk, -⟩ := e_bs hv
              refine e_callV (ci := 9) (As := [.int v20]) (rest := [.int v19, .ref (e_ad G l0)]) (n := 1) E J hk rfl (mX9_timesOf (l := l) (G := G) l0 v20 h18 _ hv) q_6_25 q_6_27 q_p_29 q_1_9 q_6_28 (by decide +kernel) rfl ⟨Nat.le_of_ble_eq_true rfl, Nat.le_of_ble_eq_true rfl⟩ (st0 := [.int v20, .ref (e_ad G l0), .int v19, .ref (e_ad G l0)]) (st1 := [.int v21, .int v19, .ref (e_ad G l0)]) rfl rfl hl.1 (Nat.le_of_ble_eq_true rfl) dX9_findTree_146 ⟨Nat.le_refl _, Nat.le_refl _⟩ (fun H locs J => ?_)
              obtain ⟨v22, hv, hM⟩ := e_bs hM
              refine e_callS (As := [.int v21]) (rest := [.int v19, .ref (e_ad G l0)]) (n := 1) E J (mX9_isSome (l := l) (G := G) v21 h18 _ hv) q_6_37 q_6_38 q_1_9 q_6_39 (by decide +kernel) rfl ⟨Nat.le_of_ble_eq_true rfl, Nat.le_of_ble_eq_true rfl⟩ (st0 := [.int v21, .int v19, .ref (e_ad G l0)]) (st1 := [.int (e_b v22), .int v19, .ref (e_ad G l0)]) rfl rfl hl.1 (Nat.le_of_ble_eq_true rfl) dX9_findTree_149 ⟨Nat.le_refl _, Nat.le_refl _⟩ (fun H locs J => ?_)
              refine lv_if_eq (tgt := 159) hx hb dX9_findTree_152 (by decide) (fun hc => ?_) (fun hc => ?_)
              · have hM := e_ip hc hM
                refine lv_iconst (v := nI 0) hx hb dX9_findTree_159 (by decide) ?_
                exact mX9_findTree_b160 E K39 K79 l0 l1 l2 l3 l4 l5 (nI 0) v19 l0 h18 hM J (lv_sub hl [0, 1, 2, 3, 4, 5] rfl)
              · have hM := e_in hc hM
                refine lv_iconst (v := nI 1) hx hb dX9_findTree_155 (by decide) ?_
                refine lv_goto (tgt := 160) hx hb dX9_findTree_156 (by decide) ?_
                exact mX9_findTree_b160 E K39 K79 l0 l1 l2 l3 l4 l5 (nI 1) v19 l0 h18 hM J (lv_sub hl [0, 1, 2, 3, 4, 5] rfl)
set_option maxRecDepth 100000 in
set_option maxHeartbeats 4000000 in
theorem mX9_findTree_L79 {p : Program} {l : Launch} {e : Env} {s : State} {m : MethodId} {args : Array Value} {below : List Frame} {meth : Method} {c : Code} {G : e_G} {res : e_H} {k39 : Nat → Int32 → Int32 → e_H → Option e_H} (E : e_M G p s args m meth c cX9_findTree 6 none RX9) (K39 : ∀ (l0 : Nat) (l1 : Int32) (l2 : Int32) (h : e_H), k39 l0 l1 l2 h = some res → ∀ (H : Heap) (locs : List Loc), e_J G s h H locs → ∀ (ls : Array Slot), lv_has ls 6 [(0, .ref (e_ad G l0)), (1, .int l1), (2, .int l2)] → W p l e (e_rm 3 75) s m args below meth c H locs 0 0 (MQ below (e_Q G res (none)) args s 0 0 (e_A G)) (F0 m 39 ls [])) (n : Nat) (l0 : Nat) (l1 : Int32) (l2 : Int32) (l3 : Int32) (l4 : Int32) (l5 : Int32) (h : e_H) (hM : fX9_findTree_L79 k39 n l0 l1 l2 l3 l4 l5 h = some res) {H : Heap} {locs : List Loc} (J : e_J G s h H locs) {ls : Array Slot} (hl : lv_has ls 6 [(0, .ref (e_ad G l0)), (1, .int l1), (2, .int l2), (3, .int l3), (4, .int l4), (5, .int l5)]) : W p l e (e_rm 3 75) s m args below meth c H locs 0 0 (MQ below (e_Q G res (none)) args s 0 0 (e_A G)) (F0 m 79 ls []) := by
  induction n generalizing l0 l1 l2 l3 l4 l5 h H locs ls with
  | zero => exact e_no hM
  | succ n ih => exact mX9_findTree_b79 (k79 := (fX9_findTree_L79 k39 n)) E  K39 (fun l0 l1 l2 l3 l4 l5 h hM H locs J ls hl => ih l0 l1 l2 l3 l4 l5 h hM J hl) l0 l1 l2 l3 l4 l5 h hM J hl
set_option maxRecDepth 100000 in
set_option maxHeartbeats 4000000 in
theorem mX9_findTree_b39 {p : Program} {l : Launch} {e : Env} {s : State} {m : MethodId} {args : Array Value} {below : List Frame} {meth : Method} {c : Code} {G : e_G} {res : e_H} {k39 : Nat → Int32 → Int32 → e_H → Option e_H} (E : e_M G p s args m meth c cX9_findTree 6 none RX9) (K39 : ∀ (l0 : Nat) (l1 : Int32) (l2 : Int32) (h : e_H), k39 l0 l1 l2 h = some res → ∀ (H : Heap) (locs : List Loc), e_J G s h H locs → ∀ (ls : Array Slot), lv_has ls 6 [(0, .ref (e_ad G l0)), (1, .int l1), (2, .int l2)] → W p l e (e_rm 3 75) s m args below meth c H locs 0 0 (MQ below (e_Q G res (none)) args s 0 0 (e_A G)) (F0 m 39 ls [])) (l0 : Nat) (l1 : Int32) (l2 : Int32) (h : e_H) (hM : fX9_findTree_b39 k39 l0 l1 l2 h = some res) {H : Heap} {locs : List Loc} (J : e_J G s h H locs) {ls : Array Slot} (hl : lv_has ls 6 [(0, .ref (e_ad G l0)), (1, .int l1), (2, .int l2)]) : W p l e (e_rm 3 75) s m args below meth c H locs 0 0 (MQ below (e_Q G res (none)) args s 0 0 (e_A G)) (F0 m 39 ls []) := by
  obtain ⟨hx, hb, hr, hml, hown, hts, hlocks, hES, hbs⟩ := id E
  unfold fX9_findTree_b39 at hM
  refine lv_iload_n hx hb dX9_findTree_39 rfl (lv_at hl 2 rfl) ?_
  refine lv_aload_n hx hb dX9_findTree_40 rfl (lv_at hl 0 rfl) ?_
  obtain ⟨v1, hv, hM⟩ := e_bs hM
  refine e_getI (C := RX9) (T := TX9) (N := 40) E J hv rfl inX9 (by decide) q_5_17 dX9_findTree_41 ?_
  refine lv_icmp_ge (tgt := 234) hx hb dX9_findTree_44 (by decide) (fun hc => ?_) (fun hc => ?_)
  · have hM := e_ip hc hM
    obtain rfl := e_so hM
    exact e_vret E J dX9_findTree_234
  · have hM := e_in hc hM
    refine lv_aload_n hx hb dX9_findTree_47 rfl (lv_at hl 0 rfl) ?_
    refine lv_iload_n hx hb dX9_findTree_48 rfl (lv_at hl 2 rfl) ?_
    obtain ⟨v2, hv, hM⟩ := e_bs hM
    obtain ⟨fs_, hk, -⟩ := e_bs hv
    refine e_callV (ci := 9) (As := [.int l2]) (rest := []) (n := 1) E J hk rfl (mX9_timesOf (l := l) (G := G) l0 l2 h _ hv) q_6_25 q_6_27 q_p_29 q_1_9 q_6_28 (by decide +kernel) rfl ⟨Nat.le_of_ble_eq_true rfl, Nat.le_of_ble_eq_true rfl⟩ (st0 := [.int l2, .ref (e_ad G l0)]) (st1 := [.int v2]) rfl rfl hl.1 (Nat.le_of_ble_eq_true rfl) dX9_findTree_49 ⟨Nat.le_refl _, Nat.le_refl _⟩ (fun H locs J => ?_)
    refine lv_istore_n (lv' := [(3, .int v2), (0, .ref (e_ad G l0)), (1, .int l1), (2, .int l2)]) hx hb dX9_findTree_52 rfl hl (by decide) rfl (fun ls hl => ?_)
    refine lv_aload_n hx hb dX9_findTree_53 rfl (lv_at hl 1 rfl) ?_
    refine lv_dup hx hb dX9_findTree_54 rfl ?_
    obtain ⟨v3, hv, hM⟩ := e_bs hM
    refine e_getI (C := RX9) (T := TX9) (N := 40) E J hv rfl inX9 (by decide) q_5_18 dX9_findTree_55 ?_
    refine lv_iload_n hx hb dX9_findTree_58 rfl (lv_at hl 0 rfl) ?_
    refine lv_iload_n hx hb dX9_findTree_59 rfl (lv_at hl 0 rfl) ?_
    refine lv_iconst (v := nI 1) hx hb dX9_findTree_60 (by decide) ?_
    refine lv_isub hx hb dX9_findTree_61 ?_
    refine lv_imul hx hb dX9_findTree_62 ?_
    refine lv_iconst (v := nI 2) hx hb dX9_findTree_63 (by decide) ?_
    refine lv_idiv hx hb dX9_findTree_64 (by decide) ?_
    refine lv_iadd hx hb dX9_findTree_65 ?_
    obtain ⟨h4, hv, hM⟩ := e_bs hM
    refine e_putv (C := RX9) (T := TX9) (N := 40) E J hv rfl rfl inX9 tyX9 tyX9_ok nmX9 (by decide) q_5_18 rfl rfl rfl rfl dX9_findTree_66 (fun H locs J => ?_)
    refine lv_aload_n hx hb dX9_findTree_69 rfl (lv_at hl 1 rfl) ?_
    obtain ⟨v5, hv, hM⟩ := e_bs hM
    refine e_getI (C := RX9) (T := TX9) (N := 40) E J hv rfl inX9 (by decide) q_5_17 dX9_findTree_70 ?_
    refine lv_istore (lv' := [(4, .int v5), (3, .int v2), (0, .ref (e_ad G l0)), (1, .int l1), (2, .int l2)]) hx hb dX9_findTree_73 hl (by decide) rfl (fun ls hl => ?_)
    refine lv_bipush (v := -5) hx hb dX9_findTree_75 (by decide) ?_
    refine lv_istore (lv' := [(5, .int (-5 : Int32)), (4, .int v5), (3, .int v2), (0, .ref (e_ad G l0)), (1, .int l1), (2, .int l2)]) hx hb dX9_findTree_77 hl (by decide) rfl (fun ls hl => ?_)
    exact mX9_findTree_L79 E K39 200 l0 l1 l2 v2 v5 (-5 : Int32) h4 hM J (lv_sub hl [3, 4, 5, 2, 1, 0] rfl)
set_option maxRecDepth 100000 in
set_option maxHeartbeats 4000000 in
theorem mX9_findTree_L39 {p : Program} {l : Launch} {e : Env} {s : State} {m : MethodId} {args : Array Value} {below : List Frame} {meth : Method} {c : Code} {G : e_G} {res : e_H} (E : e_M G p s args m meth c cX9_findTree 6 none RX9) (n : Nat) (l0 : Nat) (l1 : Int32) (l2 : Int32) (h : e_H) (hM : fX9_findTree_L39 n l0 l1 l2 h = some res) {H : Heap} {locs : List Loc} (J : e_J G s h H locs) {ls : Array Slot} (hl : lv_has ls 6 [(0, .ref (e_ad G l0)), (1, .int l1), (2, .int l2)]) : W p l e (e_rm 3 75) s m args below meth c H locs 0 0 (MQ below (e_Q G res (none)) args s 0 0 (e_A G)) (F0 m 39 ls []) := by
  induction n generalizing l0 l1 l2 h H locs ls with
  | zero => exact e_no hM
  | succ n ih => exact mX9_findTree_b39 (k39 := (fX9_findTree_L39 n)) E   (fun l0 l1 l2 h hM H locs J ls hl => ih l0 l1 l2 h hM J hl) l0 l1 l2 h hM J hl
set_option maxRecDepth 100000 in
set_option maxHeartbeats 4000000 in
theorem mX9_findTree_b17 {p : Program} {l : Launch} {e : Env} {s : State} {m : MethodId} {args : Array Value} {below : List Frame} {meth : Method} {c : Code} {G : e_G} {res : e_H} (E : e_M G p s args m meth c cX9_findTree 6 none RX9) (l0 : Nat) (l1 : Int32) (t0 : Int32) (t1 : Nat) (h : e_H) (hM : fX9_findTree_b17 l0 l1 t0 t1 h = some res) {H : Heap} {locs : List Loc} (J : e_J G s h H locs) {ls : Array Slot} (hl : lv_has ls 6 [(0, .ref (e_ad G l0)), (1, .int l1)]) : W p l e (e_rm 3 75) s m args below meth c H locs 0 0 (MQ below (e_Q G res (none)) args s 0 0 (e_A G)) (F0 m 17 ls [.int t0, .ref (e_ad G t1)]) := by
  obtain ⟨hx, hb, hr, hml, hown, hts, hlocks, hES, hbs⟩ := id E
  unfold fX9_findTree_b17 at hM
  obtain ⟨h1, hv, hM⟩ := e_bs hM
  refine e_putv (C := RX9) (T := TX9) (N := 40) E J hv rfl rfl inX9 tyX9 tyX9_ok nmX9 (by decide) q_5_17 rfl rfl rfl rfl dX9_findTree_17 (fun H locs J => ?_)
  refine lv_aload_n hx hb dX9_findTree_20 rfl (lv_at hl 0 rfl) ?_
  refine lv_iconst (v := nI 0) hx hb dX9_findTree_21 (by decide) ?_
  obtain ⟨h2, hv, hM⟩ := e_bs hM
  refine e_putv (C := RX9) (T := TX9) (N := 40) E J hv rfl rfl inX9 tyX9 tyX9_ok nmX9 (by decide) q_5_18 rfl rfl rfl rfl dX9_findTree_22 (fun H locs J => ?_)
  refine lv_aload_n hx hb dX9_findTree_25 rfl (lv_at hl 0 rfl) ?_
  refine lv_iconst (v := nI 0) hx hb dX9_findTree_26 (by decide) ?_
  obtain ⟨h3, hv, hM⟩ := e_bs hM
  refine e_putv (C := RX9) (T := TX9) (N := 40) E J hv rfl rfl inX9 tyX9 tyX9_ok nmX9 (by decide) q_5_19 rfl rfl rfl rfl dX9_findTree_27 (fun H locs J => ?_)
  refine lv_aload_n hx hb dX9_findTree_30 rfl (lv_at hl 0 rfl) ?_
  obtain ⟨v4, hv, hM⟩ := e_bs hM
  refine e_getR (C := RX9) (T := TX9) (N := 40) E J hv rfl inX9 (by decide) q_5_20 dX9_findTree_31 ?_
  rcases v4 with _ | a5
  · have hM := e_on0 hM
    refine W.eq (g2 := F0 m 34 ls [.null]) rfl ?_
    refine lv_iconst (v := nI 0) hx hb dX9_findTree_34 (by decide) ?_
    refine lv_iconst (v := nI 1) hx hb dX9_findTree_35 (by decide) ?_
    exact e_no hM
  · have hM := e_on1 hM
    refine W.eq (g2 := F0 m 34 ls [.ref (e_ad G a5)]) rfl ?_
    refine lv_iconst (v := nI 0) hx hb dX9_findTree_34 (by decide) ?_
    refine lv_iconst (v := nI 1) hx hb dX9_findTree_35 (by decide) ?_
    obtain ⟨h7, hv, hM⟩ := e_bs hM
    refine e_iast E J hv dX9_findTree_36 (fun H locs J => ?_)
    refine lv_iconst (v := nI 0) hx hb dX9_findTree_37 (by decide) ?_
    refine lv_istore_n (lv' := [(2, .int (nI 0)), (0, .ref (e_ad G l0)), (1, .int l1)]) hx hb dX9_findTree_38 rfl hl (by decide) rfl (fun ls hl => ?_)
    exact mX9_findTree_L39 E 200 l0 l1 (nI 0) h7 hM J (lv_sub hl [1, 2, 0] rfl)
set_option maxRecDepth 100000 in
set_option maxHeartbeats 4000000 in
theorem mX9_findTree {l : Launch} {G : e_G} (l0 : Nat) (l1 : Int32) (h : e_H) (res : e_H) (hM : fX9_findTree l0 l1 h = some res) : Met l yX9_findTree (e_W yX9_findTree cX9_findTree 6 none) (e_rm 3 75) (e_Pc G h [.ref (e_ad G l0), .int l1]) (e_Q G res (none)) 0 0 (e_A G) := by
  refine Met.ofW (cc := cX9_findTree) (maxL := 6) (ret := none) (by decide) rfl ?_
  intro p e s m args below meth c s₁ B hml hv
  obtain ⟨rfl, hS, hP⟩ := hv
  have E := e_enter (own := RX9) (ret := none) B hml rfl hS hP
  have J : e_J G s h s.heap [] := ⟨hP, va_S.rf⟩
  have hl := lv_entry ([.ref (e_ad G l0), .int l1]) (n := 6) (Nat.le_of_ble_eq_true rfl)
  rw [lg_entry_eq]
  generalize (lg_sl ([.ref (e_ad G l0), .int l1]) ++ List.replicate (6 - (lg_sl ([.ref (e_ad G l0), .int l1])).length) Slot.unset).toArray = ls at hl ⊢
  have hl : lv_has ls 6 [(0, .ref (e_ad G l0)), (1, .int l1)] := hl
  obtain ⟨hx, hb, hr, hml, hown, hts, hlocks, hES, hbs⟩ := id E
  unfold fX9_findTree at hM
  obtain ⟨fs_, hk_, hM⟩ := e_bs hM
  refine lv_aload_n hx hb dX9_findTree_0 rfl (lv_at hl 0 rfl) ?_
  refine lv_aload_n hx hb dX9_findTree_1 rfl (lv_at hl 0 rfl) ?_
  refine lv_iconst (v := nI 0) hx hb dX9_findTree_2 (by decide) ?_
  obtain ⟨v1, hv, hM⟩ := e_bs hM
  obtain ⟨fs_, hk, -⟩ := e_bs hv
  refine e_callV (ci := 9) (As := [.int (nI 0)]) (rest := [.ref (e_ad G l0)]) (n := 1) E J hk rfl (mX9_timesOf (l := l) (G := G) l0 (nI 0) h _ hv) q_6_25 q_6_27 q_p_29 q_1_9 q_6_28 (by decide +kernel) rfl ⟨Nat.le_of_ble_eq_true rfl, Nat.le_of_ble_eq_true rfl⟩ (st0 := [.int (nI 0), .ref (e_ad G l0), .ref (e_ad G l0)]) (st1 := [.int v1, .ref (e_ad G l0)]) rfl rfl hl.1 (Nat.le_of_ble_eq_true rfl) dX9_findTree_3 ⟨Nat.le_refl _, Nat.le_refl _⟩ (fun H locs J => ?_)
  obtain ⟨v2, hv, hM⟩ := e_bs hM
  refine e_callS (As := [.int v1]) (rest := [.ref (e_ad G l0)]) (n := 1) E J (mX9_isSome (l := l) (G := G) v1 h _ hv) q_6_37 q_6_38 q_1_9 q_6_39 (by decide +kernel) rfl ⟨Nat.le_of_ble_eq_true rfl, Nat.le_of_ble_eq_true rfl⟩ (st0 := [.int v1, .ref (e_ad G l0)]) (st1 := [.int (e_b v2), .ref (e_ad G l0)]) rfl rfl hl.1 (Nat.le_of_ble_eq_true rfl) dX9_findTree_6 ⟨Nat.le_refl _, Nat.le_refl _⟩ (fun H locs J => ?_)
  refine lv_if_eq (tgt := 16) hx hb dX9_findTree_9 (by decide) (fun hc => ?_) (fun hc => ?_)
  · have hM := e_ip hc hM
    refine lv_iconst (v := nI 0) hx hb dX9_findTree_16 (by decide) ?_
    exact mX9_findTree_b17 E l0 l1 (nI 0) l0 h hM J (lv_sub hl [0, 1] rfl)
  · have hM := e_in hc hM
    refine lv_iconst (v := nI 1) hx hb dX9_findTree_12 (by decide) ?_
    refine lv_goto (tgt := 17) hx hb dX9_findTree_13 (by decide) ?_
    exact mX9_findTree_b17 E l0 l1 (nI 1) l0 h hM J (lv_sub hl [0, 1] rfl)
set_option maxRecDepth 100000 in
set_option maxHeartbeats 4000000 in
theorem mX9_tree {l : Launch} {G : e_G} (l0 : Nat) (l1 : Int32) (l2 : Int32) (l3 : Int32) (l4 : Int32) (h : e_H) (res : (Int32 × e_H)) (hM : fX9_tree l0 l1 l2 l3 l4 h = some res) : Met l yX9_tree (e_W yX9_tree cX9_tree 5 (some FieldType.int)) (e_rm 6 142) (e_Pc G h [.ref (e_ad G l0), .int l1, .int l2, .int l3, .int l4]) (e_Q G res.2 (some (.int res.1))) 0 0 (e_A G) := by
  refine Met.ofW (cc := cX9_tree) (maxL := 5) (ret := (some FieldType.int)) (by decide) rfl ?_
  intro p e s m args below meth c s₁ B hml hv
  obtain ⟨rfl, hS, hP⟩ := hv
  have E := e_enter (own := RX9) (ret := (some FieldType.int)) B hml rfl hS hP
  have J : e_J G s h s.heap [] := ⟨hP, va_S.rf⟩
  have hl := lv_entry ([.ref (e_ad G l0), .int l1, .int l2, .int l3, .int l4]) (n := 5) (Nat.le_of_ble_eq_true rfl)
  rw [lg_entry_eq]
  generalize (lg_sl ([.ref (e_ad G l0), .int l1, .int l2, .int l3, .int l4]) ++ List.replicate (5 - (lg_sl ([.ref (e_ad G l0), .int l1, .int l2, .int l3, .int l4])).length) Slot.unset).toArray = ls at hl ⊢
  have hl : lv_has ls 5 [(0, .ref (e_ad G l0)), (1, .int l1), (2, .int l2), (3, .int l3), (4, .int l4)] := hl
  obtain ⟨hx, hb, hr, hml, hown, hts, hlocks, hES, hbs⟩ := id E
  unfold fX9_tree at hM
  obtain ⟨fs_, hk_, hM⟩ := e_bs hM
  refine lv_aload_n hx hb dX9_tree_0 rfl (lv_at hl 0 rfl) ?_
  refine lv_iload_n hx hb dX9_tree_1 rfl (lv_at hl 1 rfl) ?_
  obtain ⟨v1, hv, hM⟩ := e_bs hM
  obtain ⟨fs_, hk, -⟩ := e_bs hv
  refine e_callV (ci := 9) (As := [.int l1]) (rest := []) (n := 1) E J hk rfl (mX9_isCurve (l := l) (G := G) l0 l1 h _ hv) q_5_150 q_5_152 q_p_16 q_1_9 q_5_153 (by decide +kernel) rfl ⟨Nat.le_of_ble_eq_true rfl, Nat.le_of_ble_eq_true rfl⟩ (st0 := [.int l1, .ref (e_ad G l0)]) (st1 := [.int (e_b v1)]) rfl rfl hl.1 (Nat.le_of_ble_eq_true rfl) dX9_tree_2 ⟨Nat.le_refl _, Nat.le_refl _⟩ (fun H locs J => ?_)
  refine lv_if_eq (tgt := 34) hx hb dX9_tree_5 (by decide) (fun hc => ?_) (fun hc => ?_)
  · have hM := e_ip hc hM
    refine lv_ldc (v := -1000000001) hx hb hown (hts _ q_5_140) dX9_tree_34 ?_
    obtain rfl := e_so hM
    exact e_iret E J dX9_tree_36
  · have hM := e_in hc hM
    refine lv_iload_n hx hb dX9_tree_8 rfl (lv_at hl 2 rfl) ?_
    obtain ⟨v2, hv, hM⟩ := e_bs hM
    refine e_callS (As := [.int l2]) (rest := []) (n := 1) E J (mX9_isPlace (l := l) (G := G) l2 h _ hv) q_6_11 q_6_12 q_1_9 q_6_13 (by decide +kernel) rfl ⟨Nat.le_of_ble_eq_true rfl, Nat.le_of_ble_eq_true rfl⟩ (st0 := [.int l2]) (st1 := [.int (e_b v2)]) rfl rfl hl.1 (Nat.le_of_ble_eq_true rfl) dX9_tree_9 ⟨Nat.le_refl _, Nat.le_refl _⟩ (fun H locs J => ?_)
    refine lv_if_eq (tgt := 34) hx hb dX9_tree_12 (by decide) (fun hc => ?_) (fun hc => ?_)
    · have hM := e_ip hc hM
      refine lv_ldc (v := -1000000001) hx hb hown (hts _ q_5_140) dX9_tree_34 ?_
      obtain rfl := e_so hM
      exact e_iret E J dX9_tree_36
    · have hM := e_in hc hM
      refine lv_iload_n hx hb dX9_tree_15 rfl (lv_at hl 3 rfl) ?_
      refine lv_iconst (v := nI 1) hx hb dX9_tree_16 (by decide) ?_
      refine lv_iconst (v := nI 3) hx hb dX9_tree_17 (by decide) ?_
      obtain ⟨v3, hv, hM⟩ := e_bs hM
      refine e_callS (As := [.int l3, .int (nI 1), .int (nI 3)]) (rest := []) (n := 3) E J (mX9_in (l := l) (G := G) l3 (nI 1) (nI 3) h _ hv) q_5_137 q_5_138 q_1_9 q_5_139 (by decide +kernel) rfl ⟨Nat.le_of_ble_eq_true rfl, Nat.le_of_ble_eq_true rfl⟩ (st0 := [.int (nI 3), .int (nI 1), .int l3]) (st1 := [.int (e_b v3)]) rfl rfl hl.1 (Nat.le_of_ble_eq_true rfl) dX9_tree_18 ⟨Nat.le_refl _, Nat.le_refl _⟩ (fun H locs J => ?_)
      refine lv_if_eq (tgt := 34) hx hb dX9_tree_21 (by decide) (fun hc => ?_) (fun hc => ?_)
      · have hM := e_ip hc hM
        refine lv_ldc (v := -1000000001) hx hb hown (hts _ q_5_140) dX9_tree_34 ?_
        obtain rfl := e_so hM
        exact e_iret E J dX9_tree_36
      · have hM := e_in hc hM
        refine lv_iload hx hb dX9_tree_24 (lv_at hl 4 rfl) ?_
        refine lv_iconst (v := nI 0) hx hb dX9_tree_26 (by decide) ?_
        refine lv_iconst (v := nI 2) hx hb dX9_tree_27 (by decide) ?_
        obtain ⟨v4, hv, hM⟩ := e_bs hM
        refine e_callS (As := [.int l4, .int (nI 0), .int (nI 2)]) (rest := []) (n := 3) E J (mX9_in (l := l) (G := G) l4 (nI 0) (nI 2) h _ hv) q_5_137 q_5_138 q_1_9 q_5_139 (by decide +kernel) rfl ⟨Nat.le_of_ble_eq_true rfl, Nat.le_of_ble_eq_true rfl⟩ (st0 := [.int (nI 2), .int (nI 0), .int l4]) (st1 := [.int (e_b v4)]) rfl rfl hl.1 (Nat.le_of_ble_eq_true rfl) dX9_tree_28 ⟨Nat.le_refl _, Nat.le_refl _⟩ (fun H locs J => ?_)
        refine lv_if_ne (tgt := 37) hx hb dX9_tree_31 (by decide) (fun hc => ?_) (fun hc => ?_)
        · have hM := e_in hc hM
          refine lv_aload_n hx hb dX9_tree_37 rfl (lv_at hl 0 rfl) ?_
          refine lv_iload_n hx hb dX9_tree_38 rfl (lv_at hl 1 rfl) ?_
          refine lv_iload_n hx hb dX9_tree_39 rfl (lv_at hl 2 rfl) ?_
          obtain ⟨h5, hv, hM⟩ := e_bs hM
          obtain ⟨fs_, hk, -⟩ := e_bs hv
          refine e_callV (ci := 9) (As := [.int l1, .int l2]) (rest := []) (n := 2) E J hk rfl (mX9_findPlace (l := l) (G := G) l0 l1 l2 h _ hv) q_6_14 q_6_16 q_p_27 q_1_9 q_6_17 (by decide +kernel) rfl ⟨Nat.le_of_ble_eq_true rfl, Nat.le_of_ble_eq_true rfl⟩ (st0 := [.int l2, .int l1, .ref (e_ad G l0)]) (st1 := []) rfl rfl hl.1 (Nat.le_of_ble_eq_true rfl) dX9_tree_40 ⟨Nat.le_refl _, Nat.le_refl _⟩ (fun H locs J => ?_)
          refine lv_aload_n hx hb dX9_tree_43 rfl (lv_at hl 0 rfl) ?_
          refine lv_iload_n hx hb dX9_tree_44 rfl (lv_at hl 3 rfl) ?_
          obtain ⟨h6, hv, hM⟩ := e_bs hM
          obtain ⟨fs_, hk, -⟩ := e_bs hv
          refine e_callV (ci := 9) (As := [.int l3]) (rest := []) (n := 1) E J hk rfl (mX9_findTree (l := l) (G := G) l0 l3 h5 _ hv) q_6_78 q_6_80 q_p_35 q_1_9 q_6_81 (by decide +kernel) rfl ⟨Nat.le_of_ble_eq_true rfl, Nat.le_of_ble_eq_true rfl⟩ (st0 := [.int l3, .ref (e_ad G l0)]) (st1 := []) rfl rfl hl.1 (Nat.le_of_ble_eq_true rfl) dX9_tree_45 ⟨Nat.le_refl _, Nat.le_refl _⟩ (fun H locs J => ?_)
          refine lv_iload hx hb dX9_tree_48 (lv_at hl 4 rfl) ?_
          refine lv_if_ne (tgt := 60) hx hb dX9_tree_50 (by decide) (fun hc => ?_) (fun hc => ?_)
          · have hM := e_in hc hM
            refine lv_iload hx hb dX9_tree_60 (lv_at hl 4 rfl) ?_
            refine lv_iconst (v := nI 1) hx hb dX9_tree_62 (by decide) ?_
            refine lv_icmp_ne (tgt := 73) hx hb dX9_tree_63 (by decide) (fun hc => ?_) (fun hc => ?_)
            · have hM := e_in hc hM
              refine lv_aload_n hx hb dX9_tree_73 rfl (lv_at hl 0 rfl) ?_
              obtain ⟨v9, hv, hM⟩ := e_bs hM
              refine e_getI (C := RX9) (T := TX9) (N := 40) E J hv rfl inX9 (by decide) q_5_19 dX9_tree_74 ?_
              obtain rfl := e_so hM
              exact e_iret E J dX9_tree_77
            · have hM := e_ip hc hM
              refine lv_aload_n hx hb dX9_tree_66 rfl (lv_at hl 0 rfl) ?_
              obtain ⟨v8, hv, hM⟩ := e_bs hM
              refine e_getI (C := RX9) (T := TX9) (N := 40) E J hv rfl inX9 (by decide) q_5_18 dX9_tree_67 ?_
              refine lv_goto (tgt := 77) hx hb dX9_tree_70 (by decide) ?_
              obtain rfl := e_so hM
              exact e_iret E J dX9_tree_77
          · have hM := e_ip hc hM
            refine lv_aload_n hx hb dX9_tree_53 rfl (lv_at hl 0 rfl) ?_
            obtain ⟨v7, hv, hM⟩ := e_bs hM
            refine e_getI (C := RX9) (T := TX9) (N := 40) E J hv rfl inX9 (by decide) q_5_17 dX9_tree_54 ?_
            refine lv_goto (tgt := 77) hx hb dX9_tree_57 (by decide) ?_
            obtain rfl := e_so hM
            exact e_iret E J dX9_tree_77
        · have hM := e_ip hc hM
          refine lv_ldc (v := -1000000001) hx hb hown (hts _ q_5_140) dX9_tree_34 ?_
          obtain rfl := e_so hM
          exact e_iret E J dX9_tree_36
set_option maxRecDepth 100000 in
set_option maxHeartbeats 4000000 in
theorem mX9_cornerOf_b2 {p : Program} {l : Launch} {e : Env} {s : State} {m : MethodId} {args : Array Value} {below : List Frame} {meth : Method} {c : Code} {G : e_G} {res : Int32} {k2 : Nat → Int32 → Int32 → Option Int32} (E : e_M G p s args m meth c cX9_cornerOf 3 (some FieldType.int) RX9) (h : e_H) (K2 : ∀ (l0 : Nat) (l1 : Int32) (l2 : Int32), k2 l0 l1 l2 = some res → ∀ (H : Heap) (locs : List Loc), e_J G s h H locs → ∀ (ls : Array Slot), lv_has ls 3 [(0, .ref (e_ad G l0)), (1, .int l1), (2, .int l2)] → W p l e (e_rm 0 0) s m args below meth c H locs 0 0 (MQ below (e_Q G h (some (.int res))) args s 0 0 (e_A G)) (F0 m 2 ls [])) (l0 : Nat) (l1 : Int32) (l2 : Int32) (hM : fX9_cornerOf_b2 h k2 l0 l1 l2 = some res) {H : Heap} {locs : List Loc} (J : e_J G s h H locs) {ls : Array Slot} (hl : lv_has ls 3 [(0, .ref (e_ad G l0)), (1, .int l1), (2, .int l2)]) : W p l e (e_rm 0 0) s m args below meth c H locs 0 0 (MQ below (e_Q G h (some (.int res))) args s 0 0 (e_A G)) (F0 m 2 ls []) := by
  obtain ⟨hx, hb, hr, hml, hown, hts, hlocks, hES, hbs⟩ := id E
  unfold fX9_cornerOf_b2 at hM
  refine lv_iload_n hx hb dX9_cornerOf_2 rfl (lv_at hl 2 rfl) ?_
  refine lv_bipush (v := nI 17) hx hb dX9_cornerOf_3 (by decide) ?_
  refine lv_icmp_ge (tgt := 29) hx hb dX9_cornerOf_5 (by decide) (fun hc => ?_) (fun hc => ?_)
  · have hM := e_ip hc hM
    refine lv_iload_n hx hb dX9_cornerOf_29 rfl (lv_at hl 2 rfl) ?_
    obtain rfl := e_so hM
    exact e_iret E J dX9_cornerOf_30
  · have hM := e_in hc hM
    refine lv_aload_n hx hb dX9_cornerOf_8 rfl (lv_at hl 0 rfl) ?_
    obtain ⟨v1, hv, hM⟩ := e_bs hM
    refine e_getR (C := RX9) (T := TX9) (N := 40) E J hv rfl inX9 (by decide) q_5_15 dX9_cornerOf_9 ?_
    rcases v1 with _ | a2
    · have hM := e_on0 hM
      refine W.eq (g2 := F0 m 12 ls [.null]) rfl ?_
      refine lv_iconst (v := nI 5) hx hb dX9_cornerOf_12 (by decide) ?_
      refine lv_iload_n hx hb dX9_cornerOf_13 rfl (lv_at hl 2 rfl) ?_
      refine lv_imul hx hb dX9_cornerOf_14 ?_
      refine lv_iload_n hx hb dX9_cornerOf_15 rfl (lv_at hl 1 rfl) ?_
      refine lv_iadd hx hb dX9_cornerOf_16 ?_
      exact e_no hM
    · have hM := e_on1 hM
      refine W.eq (g2 := F0 m 12 ls [.ref (e_ad G a2)]) rfl ?_
      refine lv_iconst (v := nI 5) hx hb dX9_cornerOf_12 (by decide) ?_
      refine lv_iload_n hx hb dX9_cornerOf_13 rfl (lv_at hl 2 rfl) ?_
      refine lv_imul hx hb dX9_cornerOf_14 ?_
      refine lv_iload_n hx hb dX9_cornerOf_15 rfl (lv_at hl 1 rfl) ?_
      refine lv_iadd hx hb dX9_cornerOf_16 ?_
      obtain ⟨v4, hv, hM⟩ := e_bs hM
      refine e_lald E J hv dX9_cornerOf_17 ?_
      refine lv_lconst (v := 0) hx hb dX9_cornerOf_18 (by decide) ?_
      refine W.lcmp hx hb dX9_cornerOf_19 ?_
      refine lv_if_ne (tgt := 29) hx hb dX9_cornerOf_20 (by decide) (fun hc => ?_) (fun hc => ?_)
      · have hM := e_in hc hM
        refine lv_iload_n hx hb dX9_cornerOf_29 rfl (lv_at hl 2 rfl) ?_
        obtain rfl := e_so hM
        exact e_iret E J dX9_cornerOf_30
      · have hM := e_ip hc hM
        refine lv_iinc (v := (l2 + (nI 1))) (lv' := [(2, .int (l2 + (nI 1))), (0, .ref (e_ad G l0)), (1, .int l1)]) hx hb dX9_cornerOf_23 hl (k := 2) rfl rfl (by decide) rfl (fun ls hl => ?_)
        refine lv_goto (tgt := 2) hx hb dX9_cornerOf_26 (by decide) ?_
        exact K2 l0 l1 (l2 + (nI 1)) hM _ _ J _ (lv_sub hl [1, 2, 0] rfl)
set_option maxRecDepth 100000 in
set_option maxHeartbeats 4000000 in
theorem mX9_cornerOf_L2 {p : Program} {l : Launch} {e : Env} {s : State} {m : MethodId} {args : Array Value} {below : List Frame} {meth : Method} {c : Code} {G : e_G} {res : Int32} (E : e_M G p s args m meth c cX9_cornerOf 3 (some FieldType.int) RX9) (h : e_H) (n : Nat) (l0 : Nat) (l1 : Int32) (l2 : Int32) (hM : fX9_cornerOf_L2 h n l0 l1 l2 = some res) {H : Heap} {locs : List Loc} (J : e_J G s h H locs) {ls : Array Slot} (hl : lv_has ls 3 [(0, .ref (e_ad G l0)), (1, .int l1), (2, .int l2)]) : W p l e (e_rm 0 0) s m args below meth c H locs 0 0 (MQ below (e_Q G h (some (.int res))) args s 0 0 (e_A G)) (F0 m 2 ls []) := by
  induction n generalizing l0 l1 l2 H locs ls with
  | zero => exact e_no hM
  | succ n ih => exact mX9_cornerOf_b2 (k2 := (fX9_cornerOf_L2 h n)) E h  (fun l0 l1 l2 hM H locs J ls hl => ih l0 l1 l2 hM J hl) l0 l1 l2 hM J hl
set_option maxRecDepth 100000 in
set_option maxHeartbeats 4000000 in
theorem mX9_cornerOf {l : Launch} {G : e_G} (l0 : Nat) (l1 : Int32) (h : e_H) (res : Int32) (hM : fX9_cornerOf l0 l1 h = some res) : Met l yX9_cornerOf (e_W yX9_cornerOf cX9_cornerOf 3 (some FieldType.int)) (e_rm 0 0) (e_Pc G h [.ref (e_ad G l0), .int l1]) (e_Q G h (some (.int res))) 0 0 (e_A G) := by
  refine Met.ofW (cc := cX9_cornerOf) (maxL := 3) (ret := (some FieldType.int)) (by decide) rfl ?_
  intro p e s m args below meth c s₁ B hml hv
  obtain ⟨rfl, hS, hP⟩ := hv
  have E := e_enter (own := RX9) (ret := (some FieldType.int)) B hml rfl hS hP
  have J : e_J G s h s.heap [] := ⟨hP, va_S.rf⟩
  have hl := lv_entry ([.ref (e_ad G l0), .int l1]) (n := 3) (Nat.le_of_ble_eq_true rfl)
  rw [lg_entry_eq]
  generalize (lg_sl ([.ref (e_ad G l0), .int l1]) ++ List.replicate (3 - (lg_sl ([.ref (e_ad G l0), .int l1])).length) Slot.unset).toArray = ls at hl ⊢
  have hl : lv_has ls 3 [(0, .ref (e_ad G l0)), (1, .int l1)] := hl
  obtain ⟨hx, hb, hr, hml, hown, hts, hlocks, hES, hbs⟩ := id E
  unfold fX9_cornerOf at hM
  obtain ⟨fs_, hk_, hM⟩ := e_bs hM
  refine lv_iconst (v := nI 0) hx hb dX9_cornerOf_0 (by decide) ?_
  refine lv_istore_n (lv' := [(2, .int (nI 0)), (0, .ref (e_ad G l0)), (1, .int l1)]) hx hb dX9_cornerOf_1 rfl hl (by decide) rfl (fun ls hl => ?_)
  exact mX9_cornerOf_L2 E h 200 l0 l1 (nI 0) hM J (lv_sub hl [1, 2, 0] rfl)
set_option maxRecDepth 100000 in
set_option maxHeartbeats 4000000 in
theorem mX9_corner {l : Launch} {G : e_G} (l0 : Nat) (l1 : Int32) (l2 : Int32) (l3 : Int32) (h : e_H) (res : (Int32 × e_H)) (hM : fX9_corner l0 l1 l2 l3 h = some res) : Met l yX9_corner (e_W yX9_corner cX9_corner 5 (some FieldType.int)) (e_rm 6 142) (e_Pc G h [.ref (e_ad G l0), .int l1, .int l2, .int l3]) (e_Q G res.2 (some (.int res.1))) 0 0 (e_A G) := by
  refine Met.ofW (cc := cX9_corner) (maxL := 5) (ret := (some FieldType.int)) (by decide) rfl ?_
  intro p e s m args below meth c s₁ B hml hv
  obtain ⟨rfl, hS, hP⟩ := hv
  have E := e_enter (own := RX9) (ret := (some FieldType.int)) B hml rfl hS hP
  have J : e_J G s h s.heap [] := ⟨hP, va_S.rf⟩
  have hl := lv_entry ([.ref (e_ad G l0), .int l1, .int l2, .int l3]) (n := 5) (Nat.le_of_ble_eq_true rfl)
  rw [lg_entry_eq]
  generalize (lg_sl ([.ref (e_ad G l0), .int l1, .int l2, .int l3]) ++ List.replicate (5 - (lg_sl ([.ref (e_ad G l0), .int l1, .int l2, .int l3])).length) Slot.unset).toArray = ls at hl ⊢
  have hl : lv_has ls 5 [(0, .ref (e_ad G l0)), (1, .int l1), (2, .int l2), (3, .int l3)] := hl
  obtain ⟨hx, hb, hr, hml, hown, hts, hlocks, hES, hbs⟩ := id E
  unfold fX9_corner at hM
  obtain ⟨fs_, hk_, hM⟩ := e_bs hM
  refine lv_aload_n hx hb dX9_corner_0 rfl (lv_at hl 0 rfl) ?_
  refine lv_iload_n hx hb dX9_corner_1 rfl (lv_at hl 1 rfl) ?_
  obtain ⟨v1, hv, hM⟩ := e_bs hM
  obtain ⟨fs_, hk, -⟩ := e_bs hv
  refine e_callV (ci := 9) (As := [.int l1]) (rest := []) (n := 1) E J hk rfl (mX9_isCurve (l := l) (G := G) l0 l1 h _ hv) q_5_150 q_5_152 q_p_16 q_1_9 q_5_153 (by decide +kernel) rfl ⟨Nat.le_of_ble_eq_true rfl, Nat.le_of_ble_eq_true rfl⟩ (st0 := [.int l1, .ref (e_ad G l0)]) (st1 := [.int (e_b v1)]) rfl rfl hl.1 (Nat.le_of_ble_eq_true rfl) dX9_corner_2 ⟨Nat.le_refl _, Nat.le_refl _⟩ (fun H locs J => ?_)
  refine lv_if_eq (tgt := 24) hx hb dX9_corner_5 (by decide) (fun hc => ?_) (fun hc => ?_)
  · have hM := e_ip hc hM
    refine lv_ldc (v := -1000000001) hx hb hown (hts _ q_5_140) dX9_corner_24 ?_
    obtain rfl := e_so hM
    exact e_iret E J dX9_corner_26
  · have hM := e_in hc hM
    refine lv_iload_n hx hb dX9_corner_8 rfl (lv_at hl 2 rfl) ?_
    obtain ⟨v2, hv, hM⟩ := e_bs hM
    refine e_callS (As := [.int l2]) (rest := []) (n := 1) E J (mX9_isPlace (l := l) (G := G) l2 h _ hv) q_6_11 q_6_12 q_1_9 q_6_13 (by decide +kernel) rfl ⟨Nat.le_of_ble_eq_true rfl, Nat.le_of_ble_eq_true rfl⟩ (st0 := [.int l2]) (st1 := [.int (e_b v2)]) rfl rfl hl.1 (Nat.le_of_ble_eq_true rfl) dX9_corner_9 ⟨Nat.le_refl _, Nat.le_refl _⟩ (fun H locs J => ?_)
    refine lv_if_eq (tgt := 24) hx hb dX9_corner_12 (by decide) (fun hc => ?_) (fun hc => ?_)
    · have hM := e_ip hc hM
      refine lv_ldc (v := -1000000001) hx hb hown (hts _ q_5_140) dX9_corner_24 ?_
      obtain rfl := e_so hM
      exact e_iret E J dX9_corner_26
    · have hM := e_in hc hM
      refine lv_iload_n hx hb dX9_corner_15 rfl (lv_at hl 3 rfl) ?_
      refine lv_iconst (v := nI 0) hx hb dX9_corner_16 (by decide) ?_
      refine lv_iconst (v := nI 4) hx hb dX9_corner_17 (by decide) ?_
      obtain ⟨v3, hv, hM⟩ := e_bs hM
      refine e_callS (As := [.int l3, .int (nI 0), .int (nI 4)]) (rest := []) (n := 3) E J (mX9_in (l := l) (G := G) l3 (nI 0) (nI 4) h _ hv) q_5_137 q_5_138 q_1_9 q_5_139 (by decide +kernel) rfl ⟨Nat.le_of_ble_eq_true rfl, Nat.le_of_ble_eq_true rfl⟩ (st0 := [.int (nI 4), .int (nI 0), .int l3]) (st1 := [.int (e_b v3)]) rfl rfl hl.1 (Nat.le_of_ble_eq_true rfl) dX9_corner_18 ⟨Nat.le_refl _, Nat.le_refl _⟩ (fun H locs J => ?_)
      refine lv_if_ne (tgt := 27) hx hb dX9_corner_21 (by decide) (fun hc => ?_) (fun hc => ?_)
      · have hM := e_in hc hM
        refine lv_aload_n hx hb dX9_corner_27 rfl (lv_at hl 0 rfl) ?_
        refine lv_iload_n hx hb dX9_corner_28 rfl (lv_at hl 1 rfl) ?_
        refine lv_iload_n hx hb dX9_corner_29 rfl (lv_at hl 2 rfl) ?_
        obtain ⟨h4, hv, hM⟩ := e_bs hM
        obtain ⟨fs_, hk, -⟩ := e_bs hv
        refine e_callV (ci := 9) (As := [.int l1, .int l2]) (rest := []) (n := 2) E J hk rfl (mX9_findPlace (l := l) (G := G) l0 l1 l2 h _ hv) q_6_14 q_6_16 q_p_27 q_1_9 q_6_17 (by decide +kernel) rfl ⟨Nat.le_of_ble_eq_true rfl, Nat.le_of_ble_eq_true rfl⟩ (st0 := [.int l2, .int l1, .ref (e_ad G l0)]) (st1 := []) rfl rfl hl.1 (Nat.le_of_ble_eq_true rfl) dX9_corner_30 ⟨Nat.le_refl _, Nat.le_refl _⟩ (fun H locs J => ?_)
        refine lv_aload_n hx hb dX9_corner_33 rfl (lv_at hl 0 rfl) ?_
        refine lv_iload_n hx hb dX9_corner_34 rfl (lv_at hl 3 rfl) ?_
        obtain ⟨v5, hv, hM⟩ := e_bs hM
        obtain ⟨fs_, hk, -⟩ := e_bs hv
        refine e_callV (ci := 9) (As := [.int l3]) (rest := []) (n := 1) E J hk rfl (mX9_cornerOf (l := l) (G := G) l0 l3 h4 _ hv) q_6_86 q_6_88 q_p_36 q_1_9 q_6_89 (by decide +kernel) rfl ⟨Nat.le_of_ble_eq_true rfl, Nat.le_of_ble_eq_true rfl⟩ (st0 := [.int l3, .ref (e_ad G l0)]) (st1 := [.int v5]) rfl rfl hl.1 (Nat.le_of_ble_eq_true rfl) dX9_corner_35 ⟨Nat.le_refl _, Nat.le_refl _⟩ (fun H locs J => ?_)
        refine lv_istore (lv' := [(4, .int v5), (0, .ref (e_ad G l0)), (1, .int l1), (2, .int l2), (3, .int l3)]) hx hb dX9_corner_38 hl (by decide) rfl (fun ls hl => ?_)
        refine lv_iload hx hb dX9_corner_40 (lv_at hl 0 rfl) ?_
        refine lv_bipush (v := nI 17) hx hb dX9_corner_42 (by decide) ?_
        refine lv_icmp_ne (tgt := 52) hx hb dX9_corner_44 (by decide) (fun hc => ?_) (fun hc => ?_)
        · have hM := e_in hc hM
          refine lv_iload hx hb dX9_corner_52 (lv_at hl 0 rfl) ?_
          obtain rfl := e_so hM
          exact e_iret E J dX9_corner_54
        · have hM := e_ip hc hM
          refine lv_ldc (v := -1000000005) hx hb hown (hts _ q_6_90) dX9_corner_47 ?_
          refine lv_goto (tgt := 54) hx hb dX9_corner_49 (by decide) ?_
          obtain rfl := e_so hM
          exact e_iret E J dX9_corner_54
      · have hM := e_ip hc hM
        refine lv_ldc (v := -1000000001) hx hb hown (hts _ q_5_140) dX9_corner_24 ?_
        obtain rfl := e_so hM
        exact e_iret E J dX9_corner_26
set_option maxRecDepth 100000 in
set_option maxHeartbeats 4000000 in
theorem mX9_divisor_b13 {p : Program} {l : Launch} {e : Env} {s : State} {m : MethodId} {args : Array Value} {below : List Frame} {meth : Method} {c : Code} {G : e_G} {res : Int32} {k13 : Int32 → Int32 → Option Int32} (E : e_M G p s args m meth c cX9_divisor 5 (some FieldType.int) RX9) (h : e_H) (K13 : ∀ (l2 : Int32) (l3 : Int32), k13 l2 l3 = some res → ∀ (H : Heap) (locs : List Loc), e_J G s h H locs → ∀ (ls : Array Slot), lv_has ls 5 [(2, .int l2), (3, .int l3)] → W p l e (e_rm 0 0) s m args below meth c H locs 0 0 (MQ below (e_Q G h (some (.int res))) args s 0 0 (e_A G)) (F0 m 13 ls [])) (l2 : Int32) (l3 : Int32) (hM : fX9_divisor_b13 k13 l2 l3 = some res) {H : Heap} {locs : List Loc} (J : e_J G s h H locs) {ls : Array Slot} (hl : lv_has ls 5 [(2, .int l2), (3, .int l3)]) : W p l e (e_rm 0 0) s m args below meth c H locs 0 0 (MQ below (e_Q G h (some (.int res))) args s 0 0 (e_A G)) (F0 m 13 ls []) := by
  obtain ⟨hx, hb, hr, hml, hown, hts, hlocks, hES, hbs⟩ := id E
  unfold fX9_divisor_b13 at hM
  refine lv_iload_n hx hb dX9_divisor_13 rfl (lv_at hl 1 rfl) ?_
  refine lv_if_le (tgt := 30) hx hb dX9_divisor_14 (by decide) (fun hc => ?_) (fun hc => ?_)
  · have hM := e_ip hc hM
    refine lv_iload_n hx hb dX9_divisor_30 rfl (lv_at hl 0 rfl) ?_
    obtain rfl := e_so hM
    exact e_iret E J dX9_divisor_31
  · have hM := e_in hc hM
    refine lv_iload_n hx hb dX9_divisor_17 rfl (lv_at hl 0 rfl) ?_
    refine lv_iload_n hx hb dX9_divisor_18 rfl (lv_at hl 1 rfl) ?_
    obtain ⟨hz, hM⟩ := e_if0 hM
    refine lv_irem hx hb dX9_divisor_19 hz ?_
    refine lv_istore (lv' := [(4, .int (l2 - l2 / l3 * l3)), (2, .int l2), (3, .int l3)]) hx hb dX9_divisor_20 hl (by decide) rfl (fun ls hl => ?_)
    refine lv_iload_n hx hb dX9_divisor_22 rfl (lv_at hl 2 rfl) ?_
    refine lv_istore_n (lv' := [(2, .int l3), (4, .int (l2 - l2 / l3 * l3)), (3, .int l3)]) hx hb dX9_divisor_23 rfl hl (by decide) rfl (fun ls hl => ?_)
    refine lv_iload hx hb dX9_divisor_24 (lv_at hl 1 rfl) ?_
    refine lv_istore_n (lv' := [(3, .int (l2 - l2 / l3 * l3)), (2, .int l3), (4, .int (l2 - l2 / l3 * l3))]) hx hb dX9_divisor_26 rfl hl (by decide) rfl (fun ls hl => ?_)
    refine lv_goto (tgt := 13) hx hb dX9_divisor_27 (by decide) ?_
    exact K13 l3 (l2 - l2 / l3 * l3) hM _ _ J _ (lv_sub hl [1, 0] rfl)
set_option maxRecDepth 100000 in
set_option maxHeartbeats 4000000 in
theorem mX9_divisor_L13 {p : Program} {l : Launch} {e : Env} {s : State} {m : MethodId} {args : Array Value} {below : List Frame} {meth : Method} {c : Code} {G : e_G} {res : Int32} (E : e_M G p s args m meth c cX9_divisor 5 (some FieldType.int) RX9) (h : e_H) (n : Nat) (l2 : Int32) (l3 : Int32) (hM : fX9_divisor_L13 n l2 l3 = some res) {H : Heap} {locs : List Loc} (J : e_J G s h H locs) {ls : Array Slot} (hl : lv_has ls 5 [(2, .int l2), (3, .int l3)]) : W p l e (e_rm 0 0) s m args below meth c H locs 0 0 (MQ below (e_Q G h (some (.int res))) args s 0 0 (e_A G)) (F0 m 13 ls []) := by
  induction n generalizing l2 l3 H locs ls with
  | zero => exact e_no hM
  | succ n ih => exact mX9_divisor_b13 (k13 := (fX9_divisor_L13 n)) E h  (fun l2 l3 hM H locs J ls hl => ih l2 l3 hM J hl) l2 l3 hM J hl
set_option maxRecDepth 100000 in
set_option maxHeartbeats 4000000 in
theorem mX9_divisor_b10 {p : Program} {l : Launch} {e : Env} {s : State} {m : MethodId} {args : Array Value} {below : List Frame} {meth : Method} {c : Code} {G : e_G} {res : Int32} (E : e_M G p s args m meth c cX9_divisor 5 (some FieldType.int) RX9) (h : e_H) (l1 : Int32) (t0 : Int32) (hM : fX9_divisor_b10 l1 t0 = some res) {H : Heap} {locs : List Loc} (J : e_J G s h H locs) {ls : Array Slot} (hl : lv_has ls 5 [(1, .int l1)]) : W p l e (e_rm 0 0) s m args below meth c H locs 0 0 (MQ below (e_Q G h (some (.int res))) args s 0 0 (e_A G)) (F0 m 10 ls [.int t0]) := by
  obtain ⟨hx, hb, hr, hml, hown, hts, hlocks, hES, hbs⟩ := id E
  unfold fX9_divisor_b10 at hM
  refine lv_istore_n (lv' := [(2, .int t0), (1, .int l1)]) hx hb dX9_divisor_10 rfl hl (by decide) rfl (fun ls hl => ?_)
  refine lv_iload_n hx hb dX9_divisor_11 rfl (lv_at hl 1 rfl) ?_
  refine lv_istore_n (lv' := [(3, .int l1), (2, .int t0), (1, .int l1)]) hx hb dX9_divisor_12 rfl hl (by decide) rfl (fun ls hl => ?_)
  exact mX9_divisor_L13 E h 200 t0 l1 hM J (lv_sub hl [1, 0] rfl)
set_option maxRecDepth 100000 in
set_option maxHeartbeats 4000000 in
theorem mX9_divisor {l : Launch} {G : e_G} (l0 : Int32) (l1 : Int32) (h : e_H) (res : Int32) (hM : fX9_divisor l0 l1 = some res) : Met l yX9_divisor (e_W yX9_divisor cX9_divisor 5 (some FieldType.int)) (e_rm 0 0) (e_Pc G h [.int l0, .int l1]) (e_Q G h (some (.int res))) 0 0 (e_A G) := by
  refine Met.ofW (cc := cX9_divisor) (maxL := 5) (ret := (some FieldType.int)) (by decide) rfl ?_
  intro p e s m args below meth c s₁ B hml hv
  obtain ⟨rfl, hS, hP⟩ := hv
  have E := e_enter (own := RX9) (ret := (some FieldType.int)) B hml rfl hS hP
  have J : e_J G s h s.heap [] := ⟨hP, va_S.rf⟩
  have hl := lv_entry ([.int l0, .int l1]) (n := 5) (Nat.le_of_ble_eq_true rfl)
  rw [lg_entry_eq]
  generalize (lg_sl ([.int l0, .int l1]) ++ List.replicate (5 - (lg_sl ([.int l0, .int l1])).length) Slot.unset).toArray = ls at hl ⊢
  have hl : lv_has ls 5 [(0, .int l0), (1, .int l1)] := hl
  obtain ⟨hx, hb, hr, hml, hown, hts, hlocks, hES, hbs⟩ := id E
  unfold fX9_divisor at hM
  refine lv_iload_n hx hb dX9_divisor_0 rfl (lv_at hl 0 rfl) ?_
  refine lv_if_ge (tgt := 9) hx hb dX9_divisor_1 (by decide) (fun hc => ?_) (fun hc => ?_)
  · have hM := e_ip hc hM
    refine lv_iload_n hx hb dX9_divisor_9 rfl (lv_at hl 0 rfl) ?_
    exact mX9_divisor_b10 E h l1 l0 hM J (lv_sub hl [1] rfl)
  · have hM := e_in hc hM
    refine lv_iload_n hx hb dX9_divisor_4 rfl (lv_at hl 0 rfl) ?_
    refine lv_ineg hx hb dX9_divisor_5 ?_
    refine lv_goto (tgt := 10) hx hb dX9_divisor_6 (by decide) ?_
    exact mX9_divisor_b10 E h l1 (-l0) hM J (lv_sub hl [1] rfl)
set_option maxRecDepth 100000 in
set_option maxHeartbeats 4000000 in
theorem mX9_power_b163 {p : Program} {l : Launch} {e : Env} {s : State} {m : MethodId} {args : Array Value} {below : List Frame} {meth : Method} {c : Code} {G : e_G} {res : (Int32 × e_H)} {k71 : Nat → Int32 → Int32 → Int32 → Int32 → Int32 → e_H → Option (Int32 × e_H)} (E : e_M G p s args m meth c cX9_power 11 (some FieldType.int) RX9) (K71 : ∀ (l0 : Nat) (l3 : Int32) (l4 : Int32) (l5 : Int32) (l6 : Int32) (l7 : Int32) (h : e_H), k71 l0 l3 l4 l5 l6 l7 h = some res → ∀ (H : Heap) (locs : List Loc), e_J G s h H locs → ∀ (ls : Array Slot), lv_has ls 11 [(0, .ref (e_ad G l0)), (3, .int l3), (4, .int l4), (5, .int l5), (6, .int l6), (7, .int l7)] → W p l e (e_rm 6 142) s m args below meth c H locs 0 0 (MQ below (e_Q G res.2 (some (.int res.1))) args s 0 0 (e_A G)) (F0 m 71 ls [])) (l0 : Nat) (l3 : Int32) (l4 : Int32) (l5 : Int32) (l6 : Int32) (l7 : Int32) (h : e_H) (hM : fX9_power_b163 k71 l0 l3 l4 l5 l6 l7 h = some res) {H : Heap} {locs : List Loc} (J : e_J G s h H locs) {ls : Array Slot} (hl : lv_has ls 11 [(0, .ref (e_ad G l0)), (3, .int l3), (4, .int l4), (5, .int l5), (6, .int l6), (7, .int l7)]) : W p l e (e_rm 6 142) s m args below meth c H locs 0 0 (MQ below (e_Q G res.2 (some (.int res.1))) args s 0 0 (e_A G)) (F0 m 163 ls []) := by
  obtain ⟨hx, hb, hr, hml, hown, hts, hlocks, hES, hbs⟩ := id E
  unfold fX9_power_b163 at hM
  refine lv_iinc (v := (l7 + (nI 1))) (lv' := [(7, .int (l7 + (nI 1))), (0, .ref (e_ad G l0)), (3, .int l3), (4, .int l4), (5, .int l5), (6, .int l6)]) hx hb dX9_power_163 hl (k := 5) rfl rfl (by decide) rfl (fun ls hl => ?_)
  refine lv_goto (tgt := 71) hx hb dX9_power_166 (by decide) ?_
  exact K71 l0 l3 l4 l5 l6 (l7 + (nI 1)) h hM _ _ J _ (lv_sub hl [1, 2, 3, 4, 5, 0] rfl)
set_option maxRecDepth 100000 in
set_option maxHeartbeats 4000000 in
theorem mX9_power_b161 {p : Program} {l : Launch} {e : Env} {s : State} {m : MethodId} {args : Array Value} {below : List Frame} {meth : Method} {c : Code} {G : e_G} {res : (Int32 × e_H)} {k71 : Nat → Int32 → Int32 → Int32 → Int32 → Int32 → e_H → Option (Int32 × e_H)} (E : e_M G p s args m meth c cX9_power 11 (some FieldType.int) RX9) (K71 : ∀ (l0 : Nat) (l3 : Int32) (l4 : Int32) (l5 : Int32) (l6 : Int32) (l7 : Int32) (h : e_H), k71 l0 l3 l4 l5 l6 l7 h = some res → ∀ (H : Heap) (locs : List Loc), e_J G s h H locs → ∀ (ls : Array Slot), lv_has ls 11 [(0, .ref (e_ad G l0)), (3, .int l3), (4, .int l4), (5, .int l5), (6, .int l6), (7, .int l7)] → W p l e (e_rm 6 142) s m args below meth c H locs 0 0 (MQ below (e_Q G res.2 (some (.int res.1))) args s 0 0 (e_A G)) (F0 m 71 ls [])) (l0 : Nat) (l3 : Int32) (l4 : Int32) (l5 : Int32) (l7 : Int32) (t0 : Int32) (h : e_H) (hM : fX9_power_b161 k71 l0 l3 l4 l5 l7 t0 h = some res) {H : Heap} {locs : List Loc} (J : e_J G s h H locs) {ls : Array Slot} (hl : lv_has ls 11 [(0, .ref (e_ad G l0)), (3, .int l3), (4, .int l4), (5, .int l5), (7, .int l7)]) : W p l e (e_rm 6 142) s m args below meth c H locs 0 0 (MQ below (e_Q G res.2 (some (.int res.1))) args s 0 0 (e_A G)) (F0 m 161 ls [.int t0]) := by
  obtain ⟨hx, hb, hr, hml, hown, hts, hlocks, hES, hbs⟩ := id E
  unfold fX9_power_b161 at hM
  refine lv_istore (lv' := [(6, .int t0), (0, .ref (e_ad G l0)), (3, .int l3), (4, .int l4), (5, .int l5), (7, .int l7)]) hx hb dX9_power_161 hl (by decide) rfl (fun ls hl => ?_)
  exact mX9_power_b163 E K71 l0 l3 l4 l5 t0 l7 h hM J (lv_sub hl [1, 2, 3, 4, 0, 5] rfl)
set_option maxRecDepth 100000 in
set_option maxHeartbeats 4000000 in
theorem mX9_power_b147 {p : Program} {l : Launch} {e : Env} {s : State} {m : MethodId} {args : Array Value} {below : List Frame} {meth : Method} {c : Code} {G : e_G} {res : (Int32 × e_H)} {k71 : Nat → Int32 → Int32 → Int32 → Int32 → Int32 → e_H → Option (Int32 × e_H)} (E : e_M G p s args m meth c cX9_power 11 (some FieldType.int) RX9) (K71 : ∀ (l0 : Nat) (l3 : Int32) (l4 : Int32) (l5 : Int32) (l6 : Int32) (l7 : Int32) (h : e_H), k71 l0 l3 l4 l5 l6 l7 h = some res → ∀ (H : Heap) (locs : List Loc), e_J G s h H locs → ∀ (ls : Array Slot), lv_has ls 11 [(0, .ref (e_ad G l0)), (3, .int l3), (4, .int l4), (5, .int l5), (6, .int l6), (7, .int l7)] → W p l e (e_rm 6 142) s m args below meth c H locs 0 0 (MQ below (e_Q G res.2 (some (.int res.1))) args s 0 0 (e_A G)) (F0 m 71 ls [])) (l0 : Nat) (l3 : Int32) (l4 : Int32) (l6 : Int32) (l7 : Int32) (l9 : Int32) (l10 : Int32) (t0 : Int32) (h : e_H) (hM : fX9_power_b147 k71 l0 l3 l4 l6 l7 l9 l10 t0 h = some res) {H : Heap} {locs : List Loc} (J : e_J G s h H locs) {ls : Array Slot} (hl : lv_has ls 11 [(0, .ref (e_ad G l0)), (3, .int l3), (4, .int l4), (6, .int l6), (7, .int l7), (9, .int l9), (10, .int l10)]) : W p l e (e_rm 6 142) s m args below meth c H locs 0 0 (MQ below (e_Q G res.2 (some (.int res.1))) args s 0 0 (e_A G)) (F0 m 147 ls [.int t0]) := by
  obtain ⟨hx, hb, hr, hml, hown, hts, hlocks, hES, hbs⟩ := id E
  unfold fX9_power_b147 at hM
  refine lv_istore (lv' := [(5, .int t0), (0, .ref (e_ad G l0)), (3, .int l3), (4, .int l4), (6, .int l6), (7, .int l7), (9, .int l9), (10, .int l10)]) hx hb dX9_power_147 hl (by decide) rfl (fun ls hl => ?_)
  refine lv_iload hx hb dX9_power_149 (lv_at hl 7 rfl) ?_
  refine lv_if_eq (tgt := 159) hx hb dX9_power_151 (by decide) (fun hc => ?_) (fun hc => ?_)
  · have hM := e_ip hc hM
    refine lv_iload hx hb dX9_power_159 (lv_at hl 4 rfl) ?_
    exact mX9_power_b161 E K71 l0 l3 l4 t0 l7 l6 h hM J (lv_sub hl [1, 2, 3, 0, 5] rfl)
  · have hM := e_in hc hM
    refine lv_iload hx hb dX9_power_154 (lv_at hl 6 rfl) ?_
    refine lv_goto (tgt := 161) hx hb dX9_power_156 (by decide) ?_
    exact mX9_power_b161 E K71 l0 l3 l4 t0 l7 l9 h hM J (lv_sub hl [1, 2, 3, 0, 5] rfl)
set_option maxRecDepth 100000 in
set_option maxHeartbeats 4000000 in
theorem mX9_power_b133 {p : Program} {l : Launch} {e : Env} {s : State} {m : MethodId} {args : Array Value} {below : List Frame} {meth : Method} {c : Code} {G : e_G} {res : (Int32 × e_H)} {k71 : Nat → Int32 → Int32 → Int32 → Int32 → Int32 → e_H → Option (Int32 × e_H)} (E : e_M G p s args m meth c cX9_power 11 (some FieldType.int) RX9) (K71 : ∀ (l0 : Nat) (l3 : Int32) (l4 : Int32) (l5 : Int32) (l6 : Int32) (l7 : Int32) (h : e_H), k71 l0 l3 l4 l5 l6 l7 h = some res → ∀ (H : Heap) (locs : List Loc), e_J G s h H locs → ∀ (ls : Array Slot), lv_has ls 11 [(0, .ref (e_ad G l0)), (3, .int l3), (4, .int l4), (5, .int l5), (6, .int l6), (7, .int l7)] → W p l e (e_rm 6 142) s m args below meth c H locs 0 0 (MQ below (e_Q G res.2 (some (.int res.1))) args s 0 0 (e_A G)) (F0 m 71 ls [])) (l0 : Nat) (l3 : Int32) (l4 : Int32) (l5 : Int32) (l6 : Int32) (l7 : Int32) (l8 : Int32) (l9 : Int32) (t0 : Int32) (h : e_H) (hM : fX9_power_b133 k71 l0 l3 l4 l5 l6 l7 l8 l9 t0 h = some res) {H : Heap} {locs : List Loc} (J : e_J G s h H locs) {ls : Array Slot} (hl : lv_has ls 11 [(0, .ref (e_ad G l0)), (3, .int l3), (4, .int l4), (5, .int l5), (6, .int l6), (7, .int l7), (8, .int l8), (9, .int l9)]) : W p l e (e_rm 6 142) s m args below meth c H locs 0 0 (MQ below (e_Q G res.2 (some (.int res.1))) args s 0 0 (e_A G)) (F0 m 133 ls [.int t0]) := by
  obtain ⟨hx, hb, hr, hml, hown, hts, hlocks, hES, hbs⟩ := id E
  unfold fX9_power_b133 at hM
  refine lv_istore (lv' := [(10, .int t0), (0, .ref (e_ad G l0)), (3, .int l3), (4, .int l4), (5, .int l5), (6, .int l6), (7, .int l7), (8, .int l8), (9, .int l9)]) hx hb dX9_power_133 hl (by decide) rfl (fun ls hl => ?_)
  refine lv_iload hx hb dX9_power_135 (lv_at hl 0 rfl) ?_
  refine lv_if_eq (tgt := 145) hx hb dX9_power_137 (by decide) (fun hc => ?_) (fun hc => ?_)
  · have hM := e_ip hc hM
    refine lv_iload hx hb dX9_power_145 (lv_at hl 4 rfl) ?_
    exact mX9_power_b147 E K71 l0 l3 l4 l6 l7 l9 t0 l5 h hM J (lv_sub hl [1, 2, 3, 5, 6, 8, 0] rfl)
  · have hM := e_in hc hM
    refine lv_iload hx hb dX9_power_140 (lv_at hl 7 rfl) ?_
    refine lv_goto (tgt := 147) hx hb dX9_power_142 (by decide) ?_
    exact mX9_power_b147 E K71 l0 l3 l4 l6 l7 l9 t0 l8 h hM J (lv_sub hl [1, 2, 3, 5, 6, 8, 0] rfl)
set_option maxRecDepth 100000 in
set_option maxHeartbeats 4000000 in
theorem mX9_power_b128 {p : Program} {l : Launch} {e : Env} {s : State} {m : MethodId} {args : Array Value} {below : List Frame} {meth : Method} {c : Code} {G : e_G} {res : (Int32 × e_H)} {k71 : Nat → Int32 → Int32 → Int32 → Int32 → Int32 → e_H → Option (Int32 × e_H)} (E : e_M G p s args m meth c cX9_power 11 (some FieldType.int) RX9) (K71 : ∀ (l0 : Nat) (l3 : Int32) (l4 : Int32) (l5 : Int32) (l6 : Int32) (l7 : Int32) (h : e_H), k71 l0 l3 l4 l5 l6 l7 h = some res → ∀ (H : Heap) (locs : List Loc), e_J G s h H locs → ∀ (ls : Array Slot), lv_has ls 11 [(0, .ref (e_ad G l0)), (3, .int l3), (4, .int l4), (5, .int l5), (6, .int l6), (7, .int l7)] → W p l e (e_rm 6 142) s m args below meth c H locs 0 0 (MQ below (e_Q G res.2 (some (.int res.1))) args s 0 0 (e_A G)) (F0 m 71 ls [])) (l0 : Nat) (l3 : Int32) (l4 : Int32) (l5 : Int32) (l6 : Int32) (l7 : Int32) (l8 : Int32) (l9 : Int32) (h : e_H) (hM : fX9_power_b128 k71 l0 l3 l4 l5 l6 l7 l8 l9 h = some res) {H : Heap} {locs : List Loc} (J : e_J G s h H locs) {ls : Array Slot} (hl : lv_has ls 11 [(0, .ref (e_ad G l0)), (3, .int l3), (4, .int l4), (5, .int l5), (6, .int l6), (7, .int l7), (8, .int l8), (9, .int l9)]) : W p l e (e_rm 6 142) s m args below meth c H locs 0 0 (MQ below (e_Q G res.2 (some (.int res.1))) args s 0 0 (e_A G)) (F0 m 128 ls []) := by
  obtain ⟨hx, hb, hr, hml, hown, hts, hlocks, hES, hbs⟩ := id E
  unfold fX9_power_b128 at hM
  refine lv_iconst (v := nI 1) hx hb dX9_power_128 (by decide) ?_
  refine lv_goto (tgt := 133) hx hb dX9_power_129 (by decide) ?_
  exact mX9_power_b133 E K71 l0 l3 l4 l5 l6 l7 l8 l9 (nI 1) h hM J (lv_sub hl [0, 1, 2, 3, 4, 5, 6, 7] rfl)
set_option maxRecDepth 100000 in
set_option maxHeartbeats 4000000 in
theorem mX9_power_b71 {p : Program} {l : Launch} {e : Env} {s : State} {m : MethodId} {args : Array Value} {below : List Frame} {meth : Method} {c : Code} {G : e_G} {res : (Int32 × e_H)} {k71 : Nat → Int32 → Int32 → Int32 → Int32 → Int32 → e_H → Option (Int32 × e_H)} (E : e_M G p s args m meth c cX9_power 11 (some FieldType.int) RX9) (K71 : ∀ (l0 : Nat) (l3 : Int32) (l4 : Int32) (l5 : Int32) (l6 : Int32) (l7 : Int32) (h : e_H), k71 l0 l3 l4 l5 l6 l7 h = some res → ∀ (H : Heap) (locs : List Loc), e_J G s h H locs → ∀ (ls : Array Slot), lv_has ls 11 [(0, .ref (e_ad G l0)), (3, .int l3), (4, .int l4), (5, .int l5), (6, .int l6), (7, .int l7)] → W p l e (e_rm 6 142) s m args below meth c H locs 0 0 (MQ below (e_Q G res.2 (some (.int res.1))) args s 0 0 (e_A G)) (F0 m 71 ls [])) (l0 : Nat) (l3 : Int32) (l4 : Int32) (l5 : Int32) (l6 : Int32) (l7 : Int32) (h : e_H) (hM : fX9_power_b71 k71 l0 l3 l4 l5 l6 l7 h = some res) {H : Heap} {locs : List Loc} (J : e_J G s h H locs) {ls : Array Slot} (hl : lv_has ls 11 [(0, .ref (e_ad G l0)), (3, .int l3), (4, .int l4), (5, .int l5), (6, .int l6), (7, .int l7)]) : W p l e (e_rm 6 142) s m args below meth c H locs 0 0 (MQ below (e_Q G res.2 (some (.int res.1))) args s 0 0 (e_A G)) (F0 m 71 ls []) := by
  obtain ⟨hx, hb, hr, hml, hown, hts, hlocks, hES, hbs⟩ := id E
  unfold fX9_power_b71 at hM
  refine lv_iload hx hb dX9_power_71 (lv_at hl 5 rfl) ?_
  refine lv_iconst (v := nI 5) hx hb dX9_power_73 (by decide) ?_
  refine lv_icmp_ge (tgt := 169) hx hb dX9_power_74 (by decide) (fun hc => ?_) (fun hc => ?_)
  · have hM := e_ip hc hM
    refine lv_iload hx hb dX9_power_169 (lv_at hl 4 rfl) ?_
    refine lv_if_ne (tgt := 177) hx hb dX9_power_171 (by decide) (fun hc => ?_) (fun hc => ?_)
    · have hM := e_in hc hM
      refine lv_iload hx hb dX9_power_177 (lv_at hl 3 rfl) ?_
      refine lv_iload hx hb dX9_power_179 (lv_at hl 4 rfl) ?_
      obtain ⟨v1, hv, hM⟩ := e_bs hM
      refine e_callS (As := [.int l5, .int l6]) (rest := []) (n := 2) E J (mX9_divisor (l := l) (G := G) l5 l6 h _ hv) q_6_95 q_6_96 q_1_9 q_6_97 (by decide +kernel) rfl ⟨Nat.le_of_ble_eq_true rfl, Nat.le_of_ble_eq_true rfl⟩ (st0 := [.int l6, .int l5]) (st1 := [.int v1]) rfl rfl hl.1 (Nat.le_of_ble_eq_true rfl) dX9_power_181 ⟨Nat.le_refl _, Nat.le_refl _⟩ (fun H locs J => ?_)
      refine lv_istore (lv' := [(7, .int v1), (0, .ref (e_ad G l0)), (3, .int l3), (4, .int l4), (5, .int l5), (6, .int l6)]) hx hb dX9_power_184 hl (by decide) rfl (fun ls hl => ?_)
      refine lv_iload_n hx hb dX9_power_186 rfl (lv_at hl 2 rfl) ?_
      refine lv_if_ne (tgt := 198) hx hb dX9_power_187 (by decide) (fun hc => ?_) (fun hc => ?_)
      · have hM := e_in hc hM
        refine lv_iload hx hb dX9_power_198 (lv_at hl 5 rfl) ?_
        refine lv_iload hx hb dX9_power_200 (lv_at hl 0 rfl) ?_
        obtain ⟨hz, hM⟩ := e_if0 hM
        refine lv_idiv hx hb dX9_power_202 hz ?_
        obtain rfl := e_so hM
        exact e_iret E J dX9_power_203
      · have hM := e_ip hc hM
        refine lv_iload hx hb dX9_power_190 (lv_at hl 4 rfl) ?_
        refine lv_iload hx hb dX9_power_192 (lv_at hl 0 rfl) ?_
        obtain ⟨hz, hM⟩ := e_if0 hM
        refine lv_idiv hx hb dX9_power_194 hz ?_
        refine lv_goto (tgt := 203) hx hb dX9_power_195 (by decide) ?_
        obtain rfl := e_so hM
        exact e_iret E J dX9_power_203
    · have hM := e_ip hc hM
      refine lv_ldc (v := -1000000005) hx hb hown (hts _ q_6_90) dX9_power_174 ?_
      obtain rfl := e_so hM
      exact e_iret E J dX9_power_176
  · have hM := e_in hc hM
    refine lv_aload_n hx hb dX9_power_77 rfl (lv_at hl 0 rfl) ?_
    refine lv_iload hx hb dX9_power_78 (lv_at hl 5 rfl) ?_
    obtain ⟨v2, hv, hM⟩ := e_bs hM
    obtain ⟨fs_, hk, -⟩ := e_bs hv
    refine e_callV (ci := 9) (As := [.int l7]) (rest := []) (n := 1) E J hk rfl (mX9_cornerOf (l := l) (G := G) l0 l7 h _ hv) q_6_86 q_6_88 q_p_36 q_1_9 q_6_89 (by decide +kernel) rfl ⟨Nat.le_of_ble_eq_true rfl, Nat.le_of_ble_eq_true rfl⟩ (st0 := [.int l7, .ref (e_ad G l0)]) (st1 := [.int v2]) rfl rfl hl.1 (Nat.le_of_ble_eq_true rfl) dX9_power_80 ⟨Nat.le_refl _, Nat.le_refl _⟩ (fun H locs J => ?_)
    refine lv_bipush (v := nI 17) hx hb dX9_power_83 (by decide) ?_
    refine lv_icmp_ge (tgt := 163) hx hb dX9_power_85 (by decide) (fun hc => ?_) (fun hc => ?_)
    · have hM := e_ip hc hM
      exact mX9_power_b163 E K71 l0 l3 l4 l5 l6 l7 h hM J (lv_sub hl [0, 1, 2, 3, 4, 5] rfl)
    · have hM := e_in hc hM
      refine lv_aload_n hx hb dX9_power_88 rfl (lv_at hl 0 rfl) ?_
      refine lv_iload hx hb dX9_power_89 (lv_at hl 2 rfl) ?_
      obtain ⟨v3, hv, hM⟩ := e_bs hM
      obtain ⟨fs_, hk, -⟩ := e_bs hv
      refine e_callV (ci := 9) (As := [.int l4]) (rest := []) (n := 1) E J hk rfl (mX9_cornerOf (l := l) (G := G) l0 l4 h _ hv) q_6_86 q_6_88 q_p_36 q_1_9 q_6_89 (by decide +kernel) rfl ⟨Nat.le_of_ble_eq_true rfl, Nat.le_of_ble_eq_true rfl⟩ (st0 := [.int l4, .ref (e_ad G l0)]) (st1 := [.int v3]) rfl rfl hl.1 (Nat.le_of_ble_eq_true rfl) dX9_power_91 ⟨Nat.le_refl _, Nat.le_refl _⟩ (fun H locs J => ?_)
      refine lv_aload_n hx hb dX9_power_94 rfl (lv_at hl 0 rfl) ?_
      refine lv_iload hx hb dX9_power_95 (lv_at hl 5 rfl) ?_
      obtain ⟨v4, hv, hM⟩ := e_bs hM
      obtain ⟨fs_, hk, -⟩ := e_bs hv
      refine e_callV (ci := 9) (As := [.int l7]) (rest := [.int v3]) (n := 1) E J hk rfl (mX9_cornerOf (l := l) (G := G) l0 l7 h _ hv) q_6_86 q_6_88 q_p_36 q_1_9 q_6_89 (by decide +kernel) rfl ⟨Nat.le_of_ble_eq_true rfl, Nat.le_of_ble_eq_true rfl⟩ (st0 := [.int l7, .ref (e_ad G l0), .int v3]) (st1 := [.int v4, .int v3]) rfl rfl hl.1 (Nat.le_of_ble_eq_true rfl) dX9_power_97 ⟨Nat.le_refl _, Nat.le_refl _⟩ (fun H locs J => ?_)
      refine lv_isub hx hb dX9_power_100 ?_
      refine lv_istore (lv' := [(8, .int (v3 - v4)), (0, .ref (e_ad G l0)), (3, .int l3), (4, .int l4), (5, .int l5), (6, .int l6), (7, .int l7)]) hx hb dX9_power_101 hl (by decide) rfl (fun ls hl => ?_)
      refine lv_iload hx hb dX9_power_103 (lv_at hl 6 rfl) ?_
      refine lv_iload hx hb dX9_power_105 (lv_at hl 3 rfl) ?_
      refine lv_isub hx hb dX9_power_107 ?_
      refine lv_istore (lv' := [(9, .int (l7 - l4)), (8, .int (v3 - v4)), (0, .ref (e_ad G l0)), (3, .int l3), (4, .int l4), (5, .int l5), (6, .int l6), (7, .int l7)]) hx hb dX9_power_108 hl (by decide) rfl (fun ls hl => ?_)
      refine lv_iload hx hb dX9_power_110 (lv_at hl 6 rfl) ?_
      refine lv_if_eq (tgt := 128) hx hb dX9_power_112 (by decide) (fun hc => ?_) (fun hc => ?_)
      · have hM := e_ip hc hM
        exact mX9_power_b128 E K71 l0 l3 l4 l5 l6 l7 (v3 - v4) (l7 - l4) h hM J (lv_sub hl [2, 3, 4, 5, 6, 7, 1, 0] rfl)
      · have hM := e_in hc hM
        refine lv_iload hx hb dX9_power_115 (lv_at hl 1 rfl) ?_
        refine lv_iload hx hb dX9_power_117 (lv_at hl 6 rfl) ?_
        refine lv_imul hx hb dX9_power_119 ?_
        refine lv_iload hx hb dX9_power_120 (lv_at hl 5 rfl) ?_
        refine lv_iload hx hb dX9_power_122 (lv_at hl 0 rfl) ?_
        refine lv_imul hx hb dX9_power_124 ?_
        refine lv_icmp_lt (tgt := 132) hx hb dX9_power_125 (by decide) (fun hc => ?_) (fun hc => ?_)
        · have hM := e_ip hc hM
          refine lv_iconst (v := nI 0) hx hb dX9_power_132 (by decide) ?_
          exact mX9_power_b133 E K71 l0 l3 l4 l5 l6 l7 (v3 - v4) (l7 - l4) (nI 0) h hM J (lv_sub hl [2, 3, 4, 5, 6, 7, 1, 0] rfl)
        · have hM := e_in hc hM
          exact mX9_power_b128 E K71 l0 l3 l4 l5 l6 l7 (v3 - v4) (l7 - l4) h hM J (lv_sub hl [2, 3, 4, 5, 6, 7, 1, 0] rfl)
set_option maxRecDepth 100000 in
set_option maxHeartbeats 4000000 in
theorem mX9_power_L71 {p : Program} {l : Launch} {e : Env} {s : State} {m : MethodId} {args : Array Value} {below : List Frame} {meth : Method} {c : Code} {G : e_G} {res : (Int32 × e_H)} (E : e_M G p s args m meth c cX9_power 11 (some FieldType.int) RX9) (n : Nat) (l0 : Nat) (l3 : Int32) (l4 : Int32) (l5 : Int32) (l6 : Int32) (l7 : Int32) (h : e_H) (hM : fX9_power_L71 n l0 l3 l4 l5 l6 l7 h = some res) {H : Heap} {locs : List Loc} (J : e_J G s h H locs) {ls : Array Slot} (hl : lv_has ls 11 [(0, .ref (e_ad G l0)), (3, .int l3), (4, .int l4), (5, .int l5), (6, .int l6), (7, .int l7)]) : W p l e (e_rm 6 142) s m args below meth c H locs 0 0 (MQ below (e_Q G res.2 (some (.int res.1))) args s 0 0 (e_A G)) (F0 m 71 ls []) := by
  induction n generalizing l0 l3 l4 l5 l6 l7 h H locs ls with
  | zero => exact e_no hM
  | succ n ih => exact mX9_power_b71 (k71 := (fX9_power_L71 n)) E   (fun l0 l3 l4 l5 l6 l7 h hM H locs J ls hl => ih l0 l3 l4 l5 l6 l7 h hM J hl) l0 l3 l4 l5 l6 l7 h hM J hl
set_option maxRecDepth 100000 in
set_option maxHeartbeats 4000000 in
theorem mX9_power_b59 {p : Program} {l : Launch} {e : Env} {s : State} {m : MethodId} {args : Array Value} {below : List Frame} {meth : Method} {c : Code} {G : e_G} {res : (Int32 × e_H)} (E : e_M G p s args m meth c cX9_power 11 (some FieldType.int) RX9) (l0 : Nat) (l3 : Int32) (l4 : Int32) (h : e_H) (hM : fX9_power_b59 l0 l3 l4 h = some res) {H : Heap} {locs : List Loc} (J : e_J G s h H locs) {ls : Array Slot} (hl : lv_has ls 11 [(0, .ref (e_ad G l0)), (3, .int l3), (4, .int l4)]) : W p l e (e_rm 6 142) s m args below meth c H locs 0 0 (MQ below (e_Q G res.2 (some (.int res.1))) args s 0 0 (e_A G)) (F0 m 59 ls []) := by
  obtain ⟨hx, hb, hr, hml, hown, hts, hlocks, hES, hbs⟩ := id E
  unfold fX9_power_b59 at hM
  refine lv_iconst (v := nI 0) hx hb dX9_power_59 (by decide) ?_
  refine lv_istore (lv' := [(5, .int (nI 0)), (0, .ref (e_ad G l0)), (3, .int l3), (4, .int l4)]) hx hb dX9_power_60 hl (by decide) rfl (fun ls hl => ?_)
  refine lv_iconst (v := nI 0) hx hb dX9_power_62 (by decide) ?_
  refine lv_istore (lv' := [(6, .int (nI 0)), (5, .int (nI 0)), (0, .ref (e_ad G l0)), (3, .int l3), (4, .int l4)]) hx hb dX9_power_63 hl (by decide) rfl (fun ls hl => ?_)
  refine lv_iload hx hb dX9_power_65 (lv_at hl 4 rfl) ?_
  refine lv_iconst (v := nI 1) hx hb dX9_power_67 (by decide) ?_
  refine lv_iadd hx hb dX9_power_68 ?_
  refine lv_istore (lv' := [(7, .int (l4 + (nI 1))), (6, .int (nI 0)), (5, .int (nI 0)), (0, .ref (e_ad G l0)), (3, .int l3), (4, .int l4)]) hx hb dX9_power_69 hl (by decide) rfl (fun ls hl => ?_)
  exact mX9_power_L71 E 200 l0 l3 l4 (nI 0) (nI 0) (l4 + (nI 1)) h hM J (lv_sub hl [3, 4, 5, 2, 1, 0] rfl)
set_option maxRecDepth 100000 in
set_option maxHeartbeats 4000000 in
theorem mX9_power_b36 {p : Program} {l : Launch} {e : Env} {s : State} {m : MethodId} {args : Array Value} {below : List Frame} {meth : Method} {c : Code} {G : e_G} {res : (Int32 × e_H)} {k36 : Nat → Int32 → Int32 → e_H → Option (Int32 × e_H)} (E : e_M G p s args m meth c cX9_power 11 (some FieldType.int) RX9) (K36 : ∀ (l0 : Nat) (l3 : Int32) (l4 : Int32) (h : e_H), k36 l0 l3 l4 h = some res → ∀ (H : Heap) (locs : List Loc), e_J G s h H locs → ∀ (ls : Array Slot), lv_has ls 11 [(0, .ref (e_ad G l0)), (3, .int l3), (4, .int l4)] → W p l e (e_rm 6 142) s m args below meth c H locs 0 0 (MQ below (e_Q G res.2 (some (.int res.1))) args s 0 0 (e_A G)) (F0 m 36 ls [])) (l0 : Nat) (l3 : Int32) (l4 : Int32) (h : e_H) (hM : fX9_power_b36 k36 l0 l3 l4 h = some res) {H : Heap} {locs : List Loc} (J : e_J G s h H locs) {ls : Array Slot} (hl : lv_has ls 11 [(0, .ref (e_ad G l0)), (3, .int l3), (4, .int l4)]) : W p l e (e_rm 6 142) s m args below meth c H locs 0 0 (MQ below (e_Q G res.2 (some (.int res.1))) args s 0 0 (e_A G)) (F0 m 36 ls []) := by
  obtain ⟨hx, hb, hr, hml, hown, hts, hlocks, hES, hbs⟩ := id E
  unfold fX9_power_b36 at hM
  refine lv_iload hx hb dX9_power_36 (lv_at hl 2 rfl) ?_
  refine lv_iconst (v := nI 5) hx hb dX9_power_38 (by decide) ?_
  refine lv_icmp_ge (tgt := 59) hx hb dX9_power_39 (by decide) (fun hc => ?_) (fun hc => ?_)
  · have hM := e_ip hc hM
    exact mX9_power_b59 E l0 l3 l4 h hM J (lv_sub hl [0, 1, 2] rfl)
  · have hM := e_in hc hM
    refine lv_aload_n hx hb dX9_power_42 rfl (lv_at hl 0 rfl) ?_
    refine lv_iload hx hb dX9_power_43 (lv_at hl 2 rfl) ?_
    obtain ⟨v1, hv, hM⟩ := e_bs hM
    obtain ⟨fs_, hk, -⟩ := e_bs hv
    refine e_callV (ci := 9) (As := [.int l4]) (rest := []) (n := 1) E J hk rfl (mX9_cornerOf (l := l) (G := G) l0 l4 h _ hv) q_6_86 q_6_88 q_p_36 q_1_9 q_6_89 (by decide +kernel) rfl ⟨Nat.le_of_ble_eq_true rfl, Nat.le_of_ble_eq_true rfl⟩ (st0 := [.int l4, .ref (e_ad G l0)]) (st1 := [.int v1]) rfl rfl hl.1 (Nat.le_of_ble_eq_true rfl) dX9_power_45 ⟨Nat.le_refl _, Nat.le_refl _⟩ (fun H locs J => ?_)
    refine lv_bipush (v := nI 17) hx hb dX9_power_48 (by decide) ?_
    refine lv_icmp_ne (tgt := 59) hx hb dX9_power_50 (by decide) (fun hc => ?_) (fun hc => ?_)
    · have hM := e_in hc hM
      exact mX9_power_b59 E l0 l3 l4 h hM J (lv_sub hl [0, 1, 2] rfl)
    · have hM := e_ip hc hM
      refine lv_iinc (v := (l4 + (nI 1))) (lv' := [(4, .int (l4 + (nI 1))), (0, .ref (e_ad G l0)), (3, .int l3)]) hx hb dX9_power_53 hl (k := 2) rfl rfl (by decide) rfl (fun ls hl => ?_)
      refine lv_goto (tgt := 36) hx hb dX9_power_56 (by decide) ?_
      exact K36 l0 l3 (l4 + (nI 1)) h hM _ _ J _ (lv_sub hl [1, 2, 0] rfl)
set_option maxRecDepth 100000 in
set_option maxHeartbeats 4000000 in
theorem mX9_power_L36 {p : Program} {l : Launch} {e : Env} {s : State} {m : MethodId} {args : Array Value} {below : List Frame} {meth : Method} {c : Code} {G : e_G} {res : (Int32 × e_H)} (E : e_M G p s args m meth c cX9_power 11 (some FieldType.int) RX9) (n : Nat) (l0 : Nat) (l3 : Int32) (l4 : Int32) (h : e_H) (hM : fX9_power_L36 n l0 l3 l4 h = some res) {H : Heap} {locs : List Loc} (J : e_J G s h H locs) {ls : Array Slot} (hl : lv_has ls 11 [(0, .ref (e_ad G l0)), (3, .int l3), (4, .int l4)]) : W p l e (e_rm 6 142) s m args below meth c H locs 0 0 (MQ below (e_Q G res.2 (some (.int res.1))) args s 0 0 (e_A G)) (F0 m 36 ls []) := by
  induction n generalizing l0 l3 l4 h H locs ls with
  | zero => exact e_no hM
  | succ n ih => exact mX9_power_b36 (k36 := (fX9_power_L36 n)) E   (fun l0 l3 l4 h hM H locs J ls hl => ih l0 l3 l4 h hM J hl) l0 l3 l4 h hM J hl
set_option maxRecDepth 100000 in
set_option maxHeartbeats 4000000 in
theorem mX9_power {l : Launch} {G : e_G} (l0 : Nat) (l1 : Int32) (l2 : Int32) (l3 : Int32) (h : e_H) (res : (Int32 × e_H)) (hM : fX9_power l0 l1 l2 l3 h = some res) : Met l yX9_power (e_W yX9_power cX9_power 11 (some FieldType.int)) (e_rm 6 142) (e_Pc G h [.ref (e_ad G l0), .int l1, .int l2, .int l3]) (e_Q G res.2 (some (.int res.1))) 0 0 (e_A G) := by
  refine Met.ofW (cc := cX9_power) (maxL := 11) (ret := (some FieldType.int)) (by decide) rfl ?_
  intro p e s m args below meth c s₁ B hml hv
  obtain ⟨rfl, hS, hP⟩ := hv
  have E := e_enter (own := RX9) (ret := (some FieldType.int)) B hml rfl hS hP
  have J : e_J G s h s.heap [] := ⟨hP, va_S.rf⟩
  have hl := lv_entry ([.ref (e_ad G l0), .int l1, .int l2, .int l3]) (n := 11) (Nat.le_of_ble_eq_true rfl)
  rw [lg_entry_eq]
  generalize (lg_sl ([.ref (e_ad G l0), .int l1, .int l2, .int l3]) ++ List.replicate (11 - (lg_sl ([.ref (e_ad G l0), .int l1, .int l2, .int l3])).length) Slot.unset).toArray = ls at hl ⊢
  have hl : lv_has ls 11 [(0, .ref (e_ad G l0)), (1, .int l1), (2, .int l2), (3, .int l3)] := hl
  obtain ⟨hx, hb, hr, hml, hown, hts, hlocks, hES, hbs⟩ := id E
  unfold fX9_power at hM
  obtain ⟨fs_, hk_, hM⟩ := e_bs hM
  refine lv_aload_n hx hb dX9_power_0 rfl (lv_at hl 0 rfl) ?_
  refine lv_iload_n hx hb dX9_power_1 rfl (lv_at hl 1 rfl) ?_
  obtain ⟨v1, hv, hM⟩ := e_bs hM
  obtain ⟨fs_, hk, -⟩ := e_bs hv
  refine e_callV (ci := 9) (As := [.int l1]) (rest := []) (n := 1) E J hk rfl (mX9_isCurve (l := l) (G := G) l0 l1 h _ hv) q_5_150 q_5_152 q_p_16 q_1_9 q_5_153 (by decide +kernel) rfl ⟨Nat.le_of_ble_eq_true rfl, Nat.le_of_ble_eq_true rfl⟩ (st0 := [.int l1, .ref (e_ad G l0)]) (st1 := [.int (e_b v1)]) rfl rfl hl.1 (Nat.le_of_ble_eq_true rfl) dX9_power_2 ⟨Nat.le_refl _, Nat.le_refl _⟩ (fun H locs J => ?_)
  refine lv_if_eq (tgt := 24) hx hb dX9_power_5 (by decide) (fun hc => ?_) (fun hc => ?_)
  · have hM := e_ip hc hM
    refine lv_ldc (v := -1000000001) hx hb hown (hts _ q_5_140) dX9_power_24 ?_
    obtain rfl := e_so hM
    exact e_iret E J dX9_power_26
  · have hM := e_in hc hM
    refine lv_iload_n hx hb dX9_power_8 rfl (lv_at hl 2 rfl) ?_
    obtain ⟨v2, hv, hM⟩ := e_bs hM
    refine e_callS (As := [.int l2]) (rest := []) (n := 1) E J (mX9_isPlace (l := l) (G := G) l2 h _ hv) q_6_11 q_6_12 q_1_9 q_6_13 (by decide +kernel) rfl ⟨Nat.le_of_ble_eq_true rfl, Nat.le_of_ble_eq_true rfl⟩ (st0 := [.int l2]) (st1 := [.int (e_b v2)]) rfl rfl hl.1 (Nat.le_of_ble_eq_true rfl) dX9_power_9 ⟨Nat.le_refl _, Nat.le_refl _⟩ (fun H locs J => ?_)
    refine lv_if_eq (tgt := 24) hx hb dX9_power_12 (by decide) (fun hc => ?_) (fun hc => ?_)
    · have hM := e_ip hc hM
      refine lv_ldc (v := -1000000001) hx hb hown (hts _ q_5_140) dX9_power_24 ?_
      obtain rfl := e_so hM
      exact e_iret E J dX9_power_26
    · have hM := e_in hc hM
      refine lv_iload_n hx hb dX9_power_15 rfl (lv_at hl 3 rfl) ?_
      refine lv_iconst (v := nI 0) hx hb dX9_power_16 (by decide) ?_
      refine lv_iconst (v := nI 1) hx hb dX9_power_17 (by decide) ?_
      obtain ⟨v3, hv, hM⟩ := e_bs hM
      refine e_callS (As := [.int l3, .int (nI 0), .int (nI 1)]) (rest := []) (n := 3) E J (mX9_in (l := l) (G := G) l3 (nI 0) (nI 1) h _ hv) q_5_137 q_5_138 q_1_9 q_5_139 (by decide +kernel) rfl ⟨Nat.le_of_ble_eq_true rfl, Nat.le_of_ble_eq_true rfl⟩ (st0 := [.int (nI 1), .int (nI 0), .int l3]) (st1 := [.int (e_b v3)]) rfl rfl hl.1 (Nat.le_of_ble_eq_true rfl) dX9_power_18 ⟨Nat.le_refl _, Nat.le_refl _⟩ (fun H locs J => ?_)
      refine lv_if_ne (tgt := 27) hx hb dX9_power_21 (by decide) (fun hc => ?_) (fun hc => ?_)
      · have hM := e_in hc hM
        refine lv_aload_n hx hb dX9_power_27 rfl (lv_at hl 0 rfl) ?_
        refine lv_iload_n hx hb dX9_power_28 rfl (lv_at hl 1 rfl) ?_
        refine lv_iload_n hx hb dX9_power_29 rfl (lv_at hl 2 rfl) ?_
        obtain ⟨h4, hv, hM⟩ := e_bs hM
        obtain ⟨fs_, hk, -⟩ := e_bs hv
        refine e_callV (ci := 9) (As := [.int l1, .int l2]) (rest := []) (n := 2) E J hk rfl (mX9_findPlace (l := l) (G := G) l0 l1 l2 h _ hv) q_6_14 q_6_16 q_p_27 q_1_9 q_6_17 (by decide +kernel) rfl ⟨Nat.le_of_ble_eq_true rfl, Nat.le_of_ble_eq_true rfl⟩ (st0 := [.int l2, .int l1, .ref (e_ad G l0)]) (st1 := []) rfl rfl hl.1 (Nat.le_of_ble_eq_true rfl) dX9_power_30 ⟨Nat.le_refl _, Nat.le_refl _⟩ (fun H locs J => ?_)
        refine lv_iconst (v := nI 0) hx hb dX9_power_33 (by decide) ?_
        refine lv_istore (lv' := [(4, .int (nI 0)), (0, .ref (e_ad G l0)), (1, .int l1), (2, .int l2), (3, .int l3)]) hx hb dX9_power_34 hl (by decide) rfl (fun ls hl => ?_)
        exact mX9_power_L36 E 200 l0 l3 (nI 0) h4 hM J (lv_sub hl [1, 4, 0] rfl)
      · have hM := e_ip hc hM
        refine lv_ldc (v := -1000000001) hx hb hown (hts _ q_5_140) dX9_power_24 ?_
        obtain rfl := e_so hM
        exact e_iret E J dX9_power_26
set_option maxRecDepth 100000 in
set_option maxHeartbeats 4000000 in
theorem mX9_line_b137 {p : Program} {l : Launch} {e : Env} {s : State} {m : MethodId} {args : Array Value} {below : List Frame} {meth : Method} {c : Code} {G : e_G} {res : (Int32 × e_H)} {k38 : Nat → Int32 → Int32 → e_H → Option (Int32 × e_H)} (E : e_M G p s args m meth c cX9_line 8 (some FieldType.int) RX9) (K38 : ∀ (l0 : Nat) (l3 : Int32) (l4 : Int32) (h : e_H), k38 l0 l3 l4 h = some res → ∀ (H : Heap) (locs : List Loc), e_J G s h H locs → ∀ (ls : Array Slot), lv_has ls 8 [(0, .ref (e_ad G l0)), (3, .int l3), (4, .int l4)] → W p l e (e_rm 6 142) s m args below meth c H locs 0 0 (MQ below (e_Q G res.2 (some (.int res.1))) args s 0 0 (e_A G)) (F0 m 38 ls [])) (l0 : Nat) (l3 : Int32) (l4 : Int32) (l5 : Int64) (h : e_H) (hM : fX9_line_b137 k38 l0 l3 l4 l5 h = some res) {H : Heap} {locs : List Loc} (J : e_J G s h H locs) {ls : Array Slot} (hl : lv_has ls 8 [(0, .ref (e_ad G l0)), (3, .int l3), (4, .int l4), (5, .long l5)]) : W p l e (e_rm 6 142) s m args below meth c H locs 0 0 (MQ below (e_Q G res.2 (some (.int res.1))) args s 0 0 (e_A G)) (F0 m 137 ls []) := by
  obtain ⟨hx, hb, hr, hml, hown, hts, hlocks, hES, hbs⟩ := id E
  unfold fX9_line_b137 at hM
  refine lv_lload hx hb dX9_line_137 (lv_at hl 3 rfl) ?_
  refine lv_lconst (v := 0) hx hb dX9_line_139 (by decide) ?_
  refine W.lcmp hx hb dX9_line_140 ?_
  refine lv_if_eq (tgt := 147) hx hb dX9_line_141 (by decide) (fun hc => ?_) (fun hc => ?_)
  · have hM := e_ip hc hM
    refine lv_iinc (v := (l4 + (nI 1))) (lv' := [(4, .int (l4 + (nI 1))), (0, .ref (e_ad G l0)), (3, .int l3), (5, .long l5)]) hx hb dX9_line_147 hl (k := 2) rfl rfl (by decide) rfl (fun ls hl => ?_)
    refine lv_goto (tgt := 38) hx hb dX9_line_150 (by decide) ?_
    exact K38 l0 l3 (l4 + (nI 1)) h hM _ _ J _ (lv_sub hl [1, 2, 0] rfl)
  · have hM := e_in hc hM
    refine lv_iload hx hb dX9_line_144 (lv_at hl 2 rfl) ?_
    obtain rfl := e_so hM
    exact e_iret E J dX9_line_146
set_option maxRecDepth 100000 in
set_option maxHeartbeats 4000000 in
theorem mX9_line_b128 {p : Program} {l : Launch} {e : Env} {s : State} {m : MethodId} {args : Array Value} {below : List Frame} {meth : Method} {c : Code} {G : e_G} {res : (Int32 × e_H)} {k38 : Nat → Int32 → Int32 → e_H → Option (Int32 × e_H)} {k73 : Nat → Int32 → Int32 → Int64 → Int32 → e_H → Option (Int32 × e_H)} (E : e_M G p s args m meth c cX9_line 8 (some FieldType.int) RX9) (K38 : ∀ (l0 : Nat) (l3 : Int32) (l4 : Int32) (h : e_H), k38 l0 l3 l4 h = some res → ∀ (H : Heap) (locs : List Loc), e_J G s h H locs → ∀ (ls : Array Slot), lv_has ls 8 [(0, .ref (e_ad G l0)), (3, .int l3), (4, .int l4)] → W p l e (e_rm 6 142) s m args below meth c H locs 0 0 (MQ below (e_Q G res.2 (some (.int res.1))) args s 0 0 (e_A G)) (F0 m 38 ls [])) (K73 : ∀ (l0 : Nat) (l3 : Int32) (l4 : Int32) (l5 : Int64) (l7 : Int32) (h : e_H), k73 l0 l3 l4 l5 l7 h = some res → ∀ (H : Heap) (locs : List Loc), e_J G s h H locs → ∀ (ls : Array Slot), lv_has ls 8 [(0, .ref (e_ad G l0)), (3, .int l3), (4, .int l4), (5, .long l5), (7, .int l7)] → W p l e (e_rm 6 142) s m args below meth c H locs 0 0 (MQ below (e_Q G res.2 (some (.int res.1))) args s 0 0 (e_A G)) (F0 m 73 ls [])) (l0 : Nat) (l3 : Int32) (l4 : Int32) (l7 : Int32) (t0 : Int64) (t1 : Int64) (h : e_H) (hM : fX9_line_b128 k38 k73 l0 l3 l4 l7 t0 t1 h = some res) {H : Heap} {locs : List Loc} (J : e_J G s h H locs) {ls : Array Slot} (hl : lv_has ls 8 [(0, .ref (e_ad G l0)), (3, .int l3), (4, .int l4), (7, .int l7)]) : W p l e (e_rm 6 142) s m args below meth c H locs 0 0 (MQ below (e_Q G res.2 (some (.int res.1))) args s 0 0 (e_A G)) (F0 m 128 ls [.long t0, .long t1]) := by
  obtain ⟨hx, hb, hr, hml, hown, hts, hlocks, hES, hbs⟩ := id E
  unfold fX9_line_b128 at hM
  refine lv_ladd hx hb dX9_line_128 ?_
  refine lv_lstore (lv' := [(5, .long (t1 + t0)), (0, .ref (e_ad G l0)), (3, .int l3), (4, .int l4), (7, .int l7)]) hx hb dX9_line_129 hl (by decide) rfl (fun ls hl => ?_)
  refine lv_iinc (v := (l7 + (nI 1))) (lv' := [(7, .int (l7 + (nI 1))), (5, .long (t1 + t0)), (0, .ref (e_ad G l0)), (3, .int l3), (4, .int l4)]) hx hb dX9_line_131 hl (k := 4) rfl rfl (by decide) rfl (fun ls hl => ?_)
  refine lv_goto (tgt := 73) hx hb dX9_line_134 (by decide) ?_
  exact K73 l0 l3 l4 (t1 + t0) (l7 + (nI 1)) h hM _ _ J _ (lv_sub hl [2, 3, 4, 1, 0] rfl)
set_option maxRecDepth 100000 in
set_option maxHeartbeats 4000000 in
theorem mX9_line_b73 {p : Program} {l : Launch} {e : Env} {s : State} {m : MethodId} {args : Array Value} {below : List Frame} {meth : Method} {c : Code} {G : e_G} {res : (Int32 × e_H)} {k38 : Nat → Int32 → Int32 → e_H → Option (Int32 × e_H)} {k73 : Nat → Int32 → Int32 → Int64 → Int32 → e_H → Option (Int32 × e_H)} (E : e_M G p s args m meth c cX9_line 8 (some FieldType.int) RX9) (K38 : ∀ (l0 : Nat) (l3 : Int32) (l4 : Int32) (h : e_H), k38 l0 l3 l4 h = some res → ∀ (H : Heap) (locs : List Loc), e_J G s h H locs → ∀ (ls : Array Slot), lv_has ls 8 [(0, .ref (e_ad G l0)), (3, .int l3), (4, .int l4)] → W p l e (e_rm 6 142) s m args below meth c H locs 0 0 (MQ below (e_Q G res.2 (some (.int res.1))) args s 0 0 (e_A G)) (F0 m 38 ls [])) (K73 : ∀ (l0 : Nat) (l3 : Int32) (l4 : Int32) (l5 : Int64) (l7 : Int32) (h : e_H), k73 l0 l3 l4 l5 l7 h = some res → ∀ (H : Heap) (locs : List Loc), e_J G s h H locs → ∀ (ls : Array Slot), lv_has ls 8 [(0, .ref (e_ad G l0)), (3, .int l3), (4, .int l4), (5, .long l5), (7, .int l7)] → W p l e (e_rm 6 142) s m args below meth c H locs 0 0 (MQ below (e_Q G res.2 (some (.int res.1))) args s 0 0 (e_A G)) (F0 m 73 ls [])) (l0 : Nat) (l3 : Int32) (l4 : Int32) (l5 : Int64) (l7 : Int32) (h : e_H) (hM : fX9_line_b73 k38 k73 l0 l3 l4 l5 l7 h = some res) {H : Heap} {locs : List Loc} (J : e_J G s h H locs) {ls : Array Slot} (hl : lv_has ls 8 [(0, .ref (e_ad G l0)), (3, .int l3), (4, .int l4), (5, .long l5), (7, .int l7)]) : W p l e (e_rm 6 142) s m args below meth c H locs 0 0 (MQ below (e_Q G res.2 (some (.int res.1))) args s 0 0 (e_A G)) (F0 m 73 ls []) := by
  obtain ⟨hx, hb, hr, hml, hown, hts, hlocks, hES, hbs⟩ := id E
  unfold fX9_line_b73 at hM
  refine lv_iload hx hb dX9_line_73 (lv_at hl 4 rfl) ?_
  refine lv_iconst (v := nI 5) hx hb dX9_line_75 (by decide) ?_
  refine lv_icmp_ge (tgt := 137) hx hb dX9_line_76 (by decide) (fun hc => ?_) (fun hc => ?_)
  · have hM := e_ip hc hM
    exact mX9_line_b137 E K38 l0 l3 l4 l5 h hM J (lv_sub hl [0, 1, 2, 3] rfl)
  · have hM := e_in hc hM
    refine lv_iload_n hx hb dX9_line_79 rfl (lv_at hl 1 rfl) ?_
    refine lv_bipush (v := nI 6) hx hb dX9_line_80 (by decide) ?_
    refine lv_icmp_ge (tgt := 137) hx hb dX9_line_82 (by decide) (fun hc => ?_) (fun hc => ?_)
    · have hM := e_ip hc hM
      exact mX9_line_b137 E K38 l0 l3 l4 l5 h hM J (lv_sub hl [0, 1, 2, 3] rfl)
    · have hM := e_in hc hM
      refine lv_lload hx hb dX9_line_85 (lv_at hl 3 rfl) ?_
      refine lv_iload hx hb dX9_line_87 (lv_at hl 2 rfl) ?_
      refine lv_iload hx hb dX9_line_89 (lv_at hl 4 rfl) ?_
      refine lv_isub hx hb dX9_line_91 ?_
      refine lv_iconst (v := nI 0) hx hb dX9_line_92 (by decide) ?_
      refine lv_bipush (v := nI 16) hx hb dX9_line_93 (by decide) ?_
      obtain ⟨v1, hv, hM⟩ := e_bs hM
      refine e_callS (As := [.int (l4 - l7), .int (nI 0), .int (nI 16)]) (rest := [.long l5]) (n := 3) E J (mX9_in (l := l) (G := G) (l4 - l7) (nI 0) (nI 16) h _ hv) q_5_137 q_5_138 q_1_9 q_5_139 (by decide +kernel) rfl ⟨Nat.le_of_ble_eq_true rfl, Nat.le_of_ble_eq_true rfl⟩ (st0 := [.int (nI 16), .int (nI 0), .int (l4 - l7), .long l5]) (st1 := [.int (e_b v1), .long l5]) rfl rfl hl.1 (Nat.le_of_ble_eq_true rfl) dX9_line_95 ⟨Nat.le_refl _, Nat.le_refl _⟩ (fun H locs J => ?_)
      refine lv_if_eq (tgt := 127) hx hb dX9_line_98 (by decide) (fun hc => ?_) (fun hc => ?_)
      · have hM := e_ip hc hM
        refine lv_lconst (v := 0) hx hb dX9_line_127 (by decide) ?_
        exact mX9_line_b128 E K38 K73 l0 l3 l4 l7 (0 : Int64) l5 h hM J (lv_sub hl [0, 1, 2, 4] rfl)
      · have hM := e_in hc hM
        refine lv_aload_n hx hb dX9_line_101 rfl (lv_at hl 0 rfl) ?_
        obtain ⟨v2, hv, hM⟩ := e_bs hM
        refine e_getR (C := RX9) (T := TX9) (N := 40) E J hv rfl inX9 (by decide) q_5_15 dX9_line_102 ?_
        rcases v2 with _ | a3
        · have hM := e_on0 hM
          refine W.eq (g2 := F0 m 105 ls [.null, .long l5]) rfl ?_
          refine lv_iconst (v := nI 5) hx hb dX9_line_105 (by decide) ?_
          refine lv_iload hx hb dX9_line_106 (lv_at hl 2 rfl) ?_
          refine lv_iload hx hb dX9_line_108 (lv_at hl 4 rfl) ?_
          refine lv_isub hx hb dX9_line_110 ?_
          refine lv_imul hx hb dX9_line_111 ?_
          refine lv_iload hx hb dX9_line_112 (lv_at hl 4 rfl) ?_
          refine lv_iadd hx hb dX9_line_114 ?_
          exact e_no hM
        · have hM := e_on1 hM
          refine W.eq (g2 := F0 m 105 ls [.ref (e_ad G a3), .long l5]) rfl ?_
          refine lv_iconst (v := nI 5) hx hb dX9_line_105 (by decide) ?_
          refine lv_iload hx hb dX9_line_106 (lv_at hl 2 rfl) ?_
          refine lv_iload hx hb dX9_line_108 (lv_at hl 4 rfl) ?_
          refine lv_isub hx hb dX9_line_110 ?_
          refine lv_imul hx hb dX9_line_111 ?_
          refine lv_iload hx hb dX9_line_112 (lv_at hl 4 rfl) ?_
          refine lv_iadd hx hb dX9_line_114 ?_
          obtain ⟨v5, hv, hM⟩ := e_bs hM
          refine e_lald E J hv dX9_line_115 ?_
          refine lv_iload_n hx hb dX9_line_116 rfl (lv_at hl 1 rfl) ?_
          refine lv_i2l hx hb dX9_line_117 rfl ?_
          refine lv_iload hx hb dX9_line_118 (lv_at hl 4 rfl) ?_
          obtain ⟨v6, hv, hM⟩ := e_bs hM
          refine e_callS (As := [.long (l3).toInt64, .int l7]) (rest := [.long v5, .long l5]) (n := 2) E J (mX9_raised (l := l) (G := G) (l3).toInt64 l7 h _ hv) q_6_4 q_6_5 q_1_9 q_6_6 (by decide +kernel) rfl ⟨Nat.le_of_ble_eq_true rfl, Nat.le_of_ble_eq_true rfl⟩ (st0 := [.int l7, .long (l3).toInt64, .long v5, .long l5]) (st1 := [.long v6, .long v5, .long l5]) rfl rfl hl.1 (Nat.le_of_ble_eq_true rfl) dX9_line_120 ⟨Nat.le_refl _, Nat.le_refl _⟩ (fun H locs J => ?_)
          refine lv_lmul hx hb dX9_line_123 ?_
          refine lv_goto (tgt := 128) hx hb dX9_line_124 (by decide) ?_
          exact mX9_line_b128 E K38 K73 l0 l3 l4 l7 (v5 * v6) l5 h hM J (lv_sub hl [0, 1, 2, 4] rfl)
set_option maxRecDepth 100000 in
set_option maxHeartbeats 4000000 in
theorem mX9_line_L73 {p : Program} {l : Launch} {e : Env} {s : State} {m : MethodId} {args : Array Value} {below : List Frame} {meth : Method} {c : Code} {G : e_G} {res : (Int32 × e_H)} {k38 : Nat → Int32 → Int32 → e_H → Option (Int32 × e_H)} (E : e_M G p s args m meth c cX9_line 8 (some FieldType.int) RX9) (K38 : ∀ (l0 : Nat) (l3 : Int32) (l4 : Int32) (h : e_H), k38 l0 l3 l4 h = some res → ∀ (H : Heap) (locs : List Loc), e_J G s h H locs → ∀ (ls : Array Slot), lv_has ls 8 [(0, .ref (e_ad G l0)), (3, .int l3), (4, .int l4)] → W p l e (e_rm 6 142) s m args below meth c H locs 0 0 (MQ below (e_Q G res.2 (some (.int res.1))) args s 0 0 (e_A G)) (F0 m 38 ls [])) (n : Nat) (l0 : Nat) (l3 : Int32) (l4 : Int32) (l5 : Int64) (l7 : Int32) (h : e_H) (hM : fX9_line_L73 k38 n l0 l3 l4 l5 l7 h = some res) {H : Heap} {locs : List Loc} (J : e_J G s h H locs) {ls : Array Slot} (hl : lv_has ls 8 [(0, .ref (e_ad G l0)), (3, .int l3), (4, .int l4), (5, .long l5), (7, .int l7)]) : W p l e (e_rm 6 142) s m args below meth c H locs 0 0 (MQ below (e_Q G res.2 (some (.int res.1))) args s 0 0 (e_A G)) (F0 m 73 ls []) := by
  induction n generalizing l0 l3 l4 l5 l7 h H locs ls with
  | zero => exact e_no hM
  | succ n ih => exact mX9_line_b73 (k73 := (fX9_line_L73 k38 n)) E  K38 (fun l0 l3 l4 l5 l7 h hM H locs J ls hl => ih l0 l3 l4 l5 l7 h hM J hl) l0 l3 l4 l5 l7 h hM J hl
set_option maxRecDepth 100000 in
set_option maxHeartbeats 4000000 in
theorem mX9_line_b68 {p : Program} {l : Launch} {e : Env} {s : State} {m : MethodId} {args : Array Value} {below : List Frame} {meth : Method} {c : Code} {G : e_G} {res : (Int32 × e_H)} {k38 : Nat → Int32 → Int32 → e_H → Option (Int32 × e_H)} (E : e_M G p s args m meth c cX9_line 8 (some FieldType.int) RX9) (K38 : ∀ (l0 : Nat) (l3 : Int32) (l4 : Int32) (h : e_H), k38 l0 l3 l4 h = some res → ∀ (H : Heap) (locs : List Loc), e_J G s h H locs → ∀ (ls : Array Slot), lv_has ls 8 [(0, .ref (e_ad G l0)), (3, .int l3), (4, .int l4)] → W p l e (e_rm 6 142) s m args below meth c H locs 0 0 (MQ below (e_Q G res.2 (some (.int res.1))) args s 0 0 (e_A G)) (F0 m 38 ls [])) (l0 : Nat) (l3 : Int32) (l4 : Int32) (t0 : Int64) (h : e_H) (hM : fX9_line_b68 k38 l0 l3 l4 t0 h = some res) {H : Heap} {locs : List Loc} (J : e_J G s h H locs) {ls : Array Slot} (hl : lv_has ls 8 [(0, .ref (e_ad G l0)), (3, .int l3), (4, .int l4)]) : W p l e (e_rm 6 142) s m args below meth c H locs 0 0 (MQ below (e_Q G res.2 (some (.int res.1))) args s 0 0 (e_A G)) (F0 m 68 ls [.long t0]) := by
  obtain ⟨hx, hb, hr, hml, hown, hts, hlocks, hES, hbs⟩ := id E
  unfold fX9_line_b68 at hM
  refine lv_lstore (lv' := [(5, .long t0), (0, .ref (e_ad G l0)), (3, .int l3), (4, .int l4)]) hx hb dX9_line_68 hl (by decide) rfl (fun ls hl => ?_)
  refine lv_iconst (v := nI 0) hx hb dX9_line_70 (by decide) ?_
  refine lv_istore (lv' := [(7, .int (nI 0)), (5, .long t0), (0, .ref (e_ad G l0)), (3, .int l3), (4, .int l4)]) hx hb dX9_line_71 hl (by decide) rfl (fun ls hl => ?_)
  exact mX9_line_L73 E K38 200 l0 l3 l4 t0 (nI 0) h hM J (lv_sub hl [2, 3, 4, 1, 0] rfl)
set_option maxRecDepth 100000 in
set_option maxHeartbeats 4000000 in
theorem mX9_line_b67 {p : Program} {l : Launch} {e : Env} {s : State} {m : MethodId} {args : Array Value} {below : List Frame} {meth : Method} {c : Code} {G : e_G} {res : (Int32 × e_H)} {k38 : Nat → Int32 → Int32 → e_H → Option (Int32 × e_H)} (E : e_M G p s args m meth c cX9_line 8 (some FieldType.int) RX9) (K38 : ∀ (l0 : Nat) (l3 : Int32) (l4 : Int32) (h : e_H), k38 l0 l3 l4 h = some res → ∀ (H : Heap) (locs : List Loc), e_J G s h H locs → ∀ (ls : Array Slot), lv_has ls 8 [(0, .ref (e_ad G l0)), (3, .int l3), (4, .int l4)] → W p l e (e_rm 6 142) s m args below meth c H locs 0 0 (MQ below (e_Q G res.2 (some (.int res.1))) args s 0 0 (e_A G)) (F0 m 38 ls [])) (l0 : Nat) (l3 : Int32) (l4 : Int32) (h : e_H) (hM : fX9_line_b67 k38 l0 l3 l4 h = some res) {H : Heap} {locs : List Loc} (J : e_J G s h H locs) {ls : Array Slot} (hl : lv_has ls 8 [(0, .ref (e_ad G l0)), (3, .int l3), (4, .int l4)]) : W p l e (e_rm 6 142) s m args below meth c H locs 0 0 (MQ below (e_Q G res.2 (some (.int res.1))) args s 0 0 (e_A G)) (F0 m 67 ls []) := by
  obtain ⟨hx, hb, hr, hml, hown, hts, hlocks, hES, hbs⟩ := id E
  unfold fX9_line_b67 at hM
  refine lv_lconst (v := 0) hx hb dX9_line_67 (by decide) ?_
  exact mX9_line_b68 E K38 l0 l3 l4 (0 : Int64) h hM J (lv_sub hl [0, 1, 2] rfl)
set_option maxRecDepth 100000 in
set_option maxHeartbeats 4000000 in
theorem mX9_line_b38 {p : Program} {l : Launch} {e : Env} {s : State} {m : MethodId} {args : Array Value} {below : List Frame} {meth : Method} {c : Code} {G : e_G} {res : (Int32 × e_H)} {k38 : Nat → Int32 → Int32 → e_H → Option (Int32 × e_H)} (E : e_M G p s args m meth c cX9_line 8 (some FieldType.int) RX9) (K38 : ∀ (l0 : Nat) (l3 : Int32) (l4 : Int32) (h : e_H), k38 l0 l3 l4 h = some res → ∀ (H : Heap) (locs : List Loc), e_J G s h H locs → ∀ (ls : Array Slot), lv_has ls 8 [(0, .ref (e_ad G l0)), (3, .int l3), (4, .int l4)] → W p l e (e_rm 6 142) s m args below meth c H locs 0 0 (MQ below (e_Q G res.2 (some (.int res.1))) args s 0 0 (e_A G)) (F0 m 38 ls [])) (l0 : Nat) (l3 : Int32) (l4 : Int32) (h : e_H) (hM : fX9_line_b38 k38 l0 l3 l4 h = some res) {H : Heap} {locs : List Loc} (J : e_J G s h H locs) {ls : Array Slot} (hl : lv_has ls 8 [(0, .ref (e_ad G l0)), (3, .int l3), (4, .int l4)]) : W p l e (e_rm 6 142) s m args below meth c H locs 0 0 (MQ below (e_Q G res.2 (some (.int res.1))) args s 0 0 (e_A G)) (F0 m 38 ls []) := by
  obtain ⟨hx, hb, hr, hml, hown, hts, hlocks, hES, hbs⟩ := id E
  unfold fX9_line_b38 at hM
  refine lv_iload hx hb dX9_line_38 (lv_at hl 2 rfl) ?_
  refine lv_bipush (v := nI 21) hx hb dX9_line_40 (by decide) ?_
  refine lv_icmp_ge (tgt := 153) hx hb dX9_line_42 (by decide) (fun hc => ?_) (fun hc => ?_)
  · have hM := e_ip hc hM
    refine lv_iconst (v := -1) hx hb dX9_line_153 (by decide) ?_
    obtain rfl := e_so hM
    exact e_iret E J dX9_line_154
  · have hM := e_in hc hM
    refine lv_iload_n hx hb dX9_line_45 rfl (lv_at hl 1 rfl) ?_
    refine lv_bipush (v := nI 6) hx hb dX9_line_46 (by decide) ?_
    refine lv_icmp_ne (tgt := 67) hx hb dX9_line_48 (by decide) (fun hc => ?_) (fun hc => ?_)
    · have hM := e_in hc hM
      exact mX9_line_b67 E K38 l0 l3 l4 h hM J (lv_sub hl [0, 1, 2] rfl)
    · have hM := e_ip hc hM
      refine lv_iload hx hb dX9_line_51 (lv_at hl 2 rfl) ?_
      refine lv_iconst (v := nI 5) hx hb dX9_line_53 (by decide) ?_
      refine lv_icmp_ge (tgt := 67) hx hb dX9_line_54 (by decide) (fun hc => ?_) (fun hc => ?_)
      · have hM := e_ip hc hM
        exact mX9_line_b67 E K38 l0 l3 l4 h hM J (lv_sub hl [0, 1, 2] rfl)
      · have hM := e_in hc hM
        refine lv_aload_n hx hb dX9_line_57 rfl (lv_at hl 0 rfl) ?_
        obtain ⟨v1, hv, hM⟩ := e_bs hM
        refine e_getR (C := RX9) (T := TX9) (N := 40) E J hv rfl inX9 (by decide) q_5_15 dX9_line_58 ?_
        rcases v1 with _ | a2
        · have hM := e_on0 hM
          refine W.eq (g2 := F0 m 61 ls [.null]) rfl ?_
          refine lv_iload hx hb dX9_line_61 (lv_at hl 2 rfl) ?_
          exact e_no hM
        · have hM := e_on1 hM
          refine W.eq (g2 := F0 m 61 ls [.ref (e_ad G a2)]) rfl ?_
          refine lv_iload hx hb dX9_line_61 (lv_at hl 2 rfl) ?_
          obtain ⟨v4, hv, hM⟩ := e_bs hM
          refine e_lald E J hv dX9_line_63 ?_
          refine lv_goto (tgt := 68) hx hb dX9_line_64 (by decide) ?_
          exact mX9_line_b68 E K38 l0 l3 l4 v4 h hM J (lv_sub hl [0, 1, 2] rfl)
set_option maxRecDepth 100000 in
set_option maxHeartbeats 4000000 in
theorem mX9_line_L38 {p : Program} {l : Launch} {e : Env} {s : State} {m : MethodId} {args : Array Value} {below : List Frame} {meth : Method} {c : Code} {G : e_G} {res : (Int32 × e_H)} (E : e_M G p s args m meth c cX9_line 8 (some FieldType.int) RX9) (n : Nat) (l0 : Nat) (l3 : Int32) (l4 : Int32) (h : e_H) (hM : fX9_line_L38 n l0 l3 l4 h = some res) {H : Heap} {locs : List Loc} (J : e_J G s h H locs) {ls : Array Slot} (hl : lv_has ls 8 [(0, .ref (e_ad G l0)), (3, .int l3), (4, .int l4)]) : W p l e (e_rm 6 142) s m args below meth c H locs 0 0 (MQ below (e_Q G res.2 (some (.int res.1))) args s 0 0 (e_A G)) (F0 m 38 ls []) := by
  induction n generalizing l0 l3 l4 h H locs ls with
  | zero => exact e_no hM
  | succ n ih => exact mX9_line_b38 (k38 := (fX9_line_L38 n)) E   (fun l0 l3 l4 h hM H locs J ls hl => ih l0 l3 l4 h hM J hl) l0 l3 l4 h hM J hl
set_option maxRecDepth 100000 in
set_option maxHeartbeats 4000000 in
theorem mX9_line {l : Launch} {G : e_G} (l0 : Nat) (l1 : Int32) (l2 : Int32) (l3 : Int32) (h : e_H) (res : (Int32 × e_H)) (hM : fX9_line l0 l1 l2 l3 h = some res) : Met l yX9_line (e_W yX9_line cX9_line 8 (some FieldType.int)) (e_rm 6 142) (e_Pc G h [.ref (e_ad G l0), .int l1, .int l2, .int l3]) (e_Q G res.2 (some (.int res.1))) 0 0 (e_A G) := by
  refine Met.ofW (cc := cX9_line) (maxL := 8) (ret := (some FieldType.int)) (by decide) rfl ?_
  intro p e s m args below meth c s₁ B hml hv
  obtain ⟨rfl, hS, hP⟩ := hv
  have E := e_enter (own := RX9) (ret := (some FieldType.int)) B hml rfl hS hP
  have J : e_J G s h s.heap [] := ⟨hP, va_S.rf⟩
  have hl := lv_entry ([.ref (e_ad G l0), .int l1, .int l2, .int l3]) (n := 8) (Nat.le_of_ble_eq_true rfl)
  rw [lg_entry_eq]
  generalize (lg_sl ([.ref (e_ad G l0), .int l1, .int l2, .int l3]) ++ List.replicate (8 - (lg_sl ([.ref (e_ad G l0), .int l1, .int l2, .int l3])).length) Slot.unset).toArray = ls at hl ⊢
  have hl : lv_has ls 8 [(0, .ref (e_ad G l0)), (1, .int l1), (2, .int l2), (3, .int l3)] := hl
  obtain ⟨hx, hb, hr, hml, hown, hts, hlocks, hES, hbs⟩ := id E
  unfold fX9_line at hM
  obtain ⟨fs_, hk_, hM⟩ := e_bs hM
  refine lv_aload_n hx hb dX9_line_0 rfl (lv_at hl 0 rfl) ?_
  refine lv_iload_n hx hb dX9_line_1 rfl (lv_at hl 1 rfl) ?_
  obtain ⟨v1, hv, hM⟩ := e_bs hM
  obtain ⟨fs_, hk, -⟩ := e_bs hv
  refine e_callV (ci := 9) (As := [.int l1]) (rest := []) (n := 1) E J hk rfl (mX9_isCurve (l := l) (G := G) l0 l1 h _ hv) q_5_150 q_5_152 q_p_16 q_1_9 q_5_153 (by decide +kernel) rfl ⟨Nat.le_of_ble_eq_true rfl, Nat.le_of_ble_eq_true rfl⟩ (st0 := [.int l1, .ref (e_ad G l0)]) (st1 := [.int (e_b v1)]) rfl rfl hl.1 (Nat.le_of_ble_eq_true rfl) dX9_line_2 ⟨Nat.le_refl _, Nat.le_refl _⟩ (fun H locs J => ?_)
  refine lv_if_eq (tgt := 26) hx hb dX9_line_5 (by decide) (fun hc => ?_) (fun hc => ?_)
  · have hM := e_ip hc hM
    refine lv_ldc (v := -1000000001) hx hb hown (hts _ q_5_140) dX9_line_26 ?_
    obtain rfl := e_so hM
    exact e_iret E J dX9_line_28
  · have hM := e_in hc hM
    refine lv_iload_n hx hb dX9_line_8 rfl (lv_at hl 2 rfl) ?_
    obtain ⟨v2, hv, hM⟩ := e_bs hM
    refine e_callS (As := [.int l2]) (rest := []) (n := 1) E J (mX9_isPlace (l := l) (G := G) l2 h _ hv) q_6_11 q_6_12 q_1_9 q_6_13 (by decide +kernel) rfl ⟨Nat.le_of_ble_eq_true rfl, Nat.le_of_ble_eq_true rfl⟩ (st0 := [.int l2]) (st1 := [.int (e_b v2)]) rfl rfl hl.1 (Nat.le_of_ble_eq_true rfl) dX9_line_9 ⟨Nat.le_refl _, Nat.le_refl _⟩ (fun H locs J => ?_)
    refine lv_if_eq (tgt := 26) hx hb dX9_line_12 (by decide) (fun hc => ?_) (fun hc => ?_)
    · have hM := e_ip hc hM
      refine lv_ldc (v := -1000000001) hx hb hown (hts _ q_5_140) dX9_line_26 ?_
      obtain rfl := e_so hM
      exact e_iret E J dX9_line_28
    · have hM := e_in hc hM
      refine lv_iload_n hx hb dX9_line_15 rfl (lv_at hl 3 rfl) ?_
      refine lv_bipush (v := -5) hx hb dX9_line_16 (by decide) ?_
      refine lv_bipush (v := nI 6) hx hb dX9_line_18 (by decide) ?_
      obtain ⟨v3, hv, hM⟩ := e_bs hM
      refine e_callS (As := [.int l3, .int (-5 : Int32), .int (nI 6)]) (rest := []) (n := 3) E J (mX9_in (l := l) (G := G) l3 (-5 : Int32) (nI 6) h _ hv) q_5_137 q_5_138 q_1_9 q_5_139 (by decide +kernel) rfl ⟨Nat.le_of_ble_eq_true rfl, Nat.le_of_ble_eq_true rfl⟩ (st0 := [.int (nI 6), .int (-5 : Int32), .int l3]) (st1 := [.int (e_b v3)]) rfl rfl hl.1 (Nat.le_of_ble_eq_true rfl) dX9_line_20 ⟨Nat.le_refl _, Nat.le_refl _⟩ (fun H locs J => ?_)
      refine lv_if_ne (tgt := 29) hx hb dX9_line_23 (by decide) (fun hc => ?_) (fun hc => ?_)
      · have hM := e_in hc hM
        refine lv_aload_n hx hb dX9_line_29 rfl (lv_at hl 0 rfl) ?_
        refine lv_iload_n hx hb dX9_line_30 rfl (lv_at hl 1 rfl) ?_
        refine lv_iload_n hx hb dX9_line_31 rfl (lv_at hl 2 rfl) ?_
        obtain ⟨h4, hv, hM⟩ := e_bs hM
        obtain ⟨fs_, hk, -⟩ := e_bs hv
        refine e_callV (ci := 9) (As := [.int l1, .int l2]) (rest := []) (n := 2) E J hk rfl (mX9_findPlace (l := l) (G := G) l0 l1 l2 h _ hv) q_6_14 q_6_16 q_p_27 q_1_9 q_6_17 (by decide +kernel) rfl ⟨Nat.le_of_ble_eq_true rfl, Nat.le_of_ble_eq_true rfl⟩ (st0 := [.int l2, .int l1, .ref (e_ad G l0)]) (st1 := []) rfl rfl hl.1 (Nat.le_of_ble_eq_true rfl) dX9_line_32 ⟨Nat.le_refl _, Nat.le_refl _⟩ (fun H locs J => ?_)
        refine lv_iconst (v := nI 0) hx hb dX9_line_35 (by decide) ?_
        refine lv_istore (lv' := [(4, .int (nI 0)), (0, .ref (e_ad G l0)), (1, .int l1), (2, .int l2), (3, .int l3)]) hx hb dX9_line_36 hl (by decide) rfl (fun ls hl => ?_)
        exact mX9_line_L38 E 200 l0 l3 (nI 0) h4 hM J (lv_sub hl [1, 4, 0] rfl)
      · have hM := e_ip hc hM
        refine lv_ldc (v := -1000000001) hx hb hown (hts _ q_5_140) dX9_line_26 ?_
        obtain rfl := e_so hM
        exact e_iret E J dX9_line_28
set_option maxRecDepth 100000 in
set_option maxHeartbeats 4000000 in
theorem mX9_all_b162 {p : Program} {l : Launch} {e : Env} {s : State} {m : MethodId} {args : Array Value} {below : List Frame} {meth : Method} {c : Code} {G : e_G} {res : (Int32 × e_H)} {k39 : Nat → Int32 → Int32 → Int32 → Int32 → e_H → Option (Int32 × e_H)} (E : e_M G p s args m meth c cX9_all 9 (some FieldType.int) RX9) (K39 : ∀ (l0 : Nat) (l2 : Int32) (l4 : Int32) (l5 : Int32) (l6 : Int32) (h : e_H), k39 l0 l2 l4 l5 l6 h = some res → ∀ (H : Heap) (locs : List Loc), e_J G s h H locs → ∀ (ls : Array Slot), lv_has ls 9 [(0, .ref (e_ad G l0)), (2, .int l2), (4, .int l4), (5, .int l5), (6, .int l6)] → W p l e (e_rm 5 119) s m args below meth c H locs 0 0 (MQ below (e_Q G res.2 (some (.int res.1))) args s 0 0 (e_A G)) (F0 m 39 ls [])) (l0 : Nat) (l2 : Int32) (l4 : Int32) (l6 : Int32) (t0 : Int32) (t1 : Int32) (h : e_H) (hM : fX9_all_b162 k39 l0 l2 l4 l6 t0 t1 h = some res) {H : Heap} {locs : List Loc} (J : e_J G s h H locs) {ls : Array Slot} (hl : lv_has ls 9 [(0, .ref (e_ad G l0)), (2, .int l2), (4, .int l4), (6, .int l6)]) : W p l e (e_rm 5 119) s m args below meth c H locs 0 0 (MQ below (e_Q G res.2 (some (.int res.1))) args s 0 0 (e_A G)) (F0 m 162 ls [.int t0, .int t1]) := by
  obtain ⟨hx, hb, hr, hml, hown, hts, hlocks, hES, hbs⟩ := id E
  unfold fX9_all_b162 at hM
  refine lv_iadd hx hb dX9_all_162 ?_
  refine lv_istore (lv' := [(5, .int (t1 + t0)), (0, .ref (e_ad G l0)), (2, .int l2), (4, .int l4), (6, .int l6)]) hx hb dX9_all_163 hl (by decide) rfl (fun ls hl => ?_)
  refine lv_iinc (v := (l6 + (nI 1))) (lv' := [(6, .int (l6 + (nI 1))), (5, .int (t1 + t0)), (0, .ref (e_ad G l0)), (2, .int l2), (4, .int l4)]) hx hb dX9_all_165 hl (k := 4) rfl rfl (by decide) rfl (fun ls hl => ?_)
  refine lv_goto (tgt := 39) hx hb dX9_all_168 (by decide) ?_
  exact K39 l0 l2 l4 (t1 + t0) (l6 + (nI 1)) h hM _ _ J _ (lv_sub hl [2, 3, 4, 1, 0] rfl)
set_option maxRecDepth 100000 in
set_option maxHeartbeats 4000000 in
theorem mX9_all_b147 {p : Program} {l : Launch} {e : Env} {s : State} {m : MethodId} {args : Array Value} {below : List Frame} {meth : Method} {c : Code} {G : e_G} {res : (Int32 × e_H)} {k39 : Nat → Int32 → Int32 → Int32 → Int32 → e_H → Option (Int32 × e_H)} (E : e_M G p s args m meth c cX9_all 9 (some FieldType.int) RX9) (K39 : ∀ (l0 : Nat) (l2 : Int32) (l4 : Int32) (l5 : Int32) (l6 : Int32) (h : e_H), k39 l0 l2 l4 l5 l6 h = some res → ∀ (H : Heap) (locs : List Loc), e_J G s h H locs → ∀ (ls : Array Slot), lv_has ls 9 [(0, .ref (e_ad G l0)), (2, .int l2), (4, .int l4), (5, .int l5), (6, .int l6)] → W p l e (e_rm 5 119) s m args below meth c H locs 0 0 (MQ below (e_Q G res.2 (some (.int res.1))) args s 0 0 (e_A G)) (F0 m 39 ls [])) (l0 : Nat) (l2 : Int32) (l4 : Int32) (l5 : Int32) (l6 : Int32) (l7 : Int32) (t0 : Int32) (h : e_H) (hM : fX9_all_b147 k39 l0 l2 l4 l5 l6 l7 t0 h = some res) {H : Heap} {locs : List Loc} (J : e_J G s h H locs) {ls : Array Slot} (hl : lv_has ls 9 [(0, .ref (e_ad G l0)), (2, .int l2), (4, .int l4), (5, .int l5), (6, .int l6), (7, .int l7)]) : W p l e (e_rm 5 119) s m args below meth c H locs 0 0 (MQ below (e_Q G res.2 (some (.int res.1))) args s 0 0 (e_A G)) (F0 m 147 ls [.int t0]) := by
  obtain ⟨hx, hb, hr, hml, hown, hts, hlocks, hES, hbs⟩ := id E
  unfold fX9_all_b147 at hM
  refine lv_istore (lv' := [(8, .int t0), (0, .ref (e_ad G l0)), (2, .int l2), (4, .int l4), (5, .int l5), (6, .int l6), (7, .int l7)]) hx hb dX9_all_147 hl (by decide) rfl (fun ls hl => ?_)
  refine lv_iload hx hb dX9_all_149 (lv_at hl 4 rfl) ?_
  refine lv_iload hx hb dX9_all_151 (lv_at hl 6 rfl) ?_
  refine lv_if_le (tgt := 161) hx hb dX9_all_153 (by decide) (fun hc => ?_) (fun hc => ?_)
  · have hM := e_ip hc hM
    refine lv_iconst (v := nI 0) hx hb dX9_all_161 (by decide) ?_
    exact mX9_all_b162 E K39 l0 l2 l4 l6 (nI 0) l5 h hM J (lv_sub hl [1, 2, 3, 5] rfl)
  · have hM := e_in hc hM
    refine lv_iload hx hb dX9_all_156 (lv_at hl 0 rfl) ?_
    refine lv_goto (tgt := 162) hx hb dX9_all_158 (by decide) ?_
    exact mX9_all_b162 E K39 l0 l2 l4 l6 t0 l5 h hM J (lv_sub hl [1, 2, 3, 5] rfl)
set_option maxRecDepth 100000 in
set_option maxHeartbeats 4000000 in
theorem mX9_all_b39 {p : Program} {l : Launch} {e : Env} {s : State} {m : MethodId} {args : Array Value} {below : List Frame} {meth : Method} {c : Code} {G : e_G} {res : (Int32 × e_H)} {k39 : Nat → Int32 → Int32 → Int32 → Int32 → e_H → Option (Int32 × e_H)} (E : e_M G p s args m meth c cX9_all 9 (some FieldType.int) RX9) (K39 : ∀ (l0 : Nat) (l2 : Int32) (l4 : Int32) (l5 : Int32) (l6 : Int32) (h : e_H), k39 l0 l2 l4 l5 l6 h = some res → ∀ (H : Heap) (locs : List Loc), e_J G s h H locs → ∀ (ls : Array Slot), lv_has ls 9 [(0, .ref (e_ad G l0)), (2, .int l2), (4, .int l4), (5, .int l5), (6, .int l6)] → W p l e (e_rm 5 119) s m args below meth c H locs 0 0 (MQ below (e_Q G res.2 (some (.int res.1))) args s 0 0 (e_A G)) (F0 m 39 ls [])) (l0 : Nat) (l2 : Int32) (l4 : Int32) (l5 : Int32) (l6 : Int32) (h : e_H) (hM : fX9_all_b39 k39 l0 l2 l4 l5 l6 h = some res) {H : Heap} {locs : List Loc} (J : e_J G s h H locs) {ls : Array Slot} (hl : lv_has ls 9 [(0, .ref (e_ad G l0)), (2, .int l2), (4, .int l4), (5, .int l5), (6, .int l6)]) : W p l e (e_rm 5 119) s m args below meth c H locs 0 0 (MQ below (e_Q G res.2 (some (.int res.1))) args s 0 0 (e_A G)) (F0 m 39 ls []) := by
  obtain ⟨hx, hb, hr, hml, hown, hts, hlocks, hES, hbs⟩ := id E
  unfold fX9_all_b39 at hM
  refine lv_iload hx hb dX9_all_39 (lv_at hl 4 rfl) ?_
  refine lv_bipush (v := nI 121) hx hb dX9_all_41 (by decide) ?_
  refine lv_icmp_ge (tgt := 171) hx hb dX9_all_43 (by decide) (fun hc => ?_) (fun hc => ?_)
  · have hM := e_ip hc hM
    refine lv_iload hx hb dX9_all_171 (lv_at hl 3 rfl) ?_
    obtain rfl := e_so hM
    exact e_iret E J dX9_all_173
  · have hM := e_in hc hM
    refine lv_aload_n hx hb dX9_all_46 rfl (lv_at hl 0 rfl) ?_
    refine lv_iload hx hb dX9_all_47 (lv_at hl 4 rfl) ?_
    refine lv_bipush (v := nI 11) hx hb dX9_all_49 (by decide) ?_
    refine lv_idiv hx hb dX9_all_51 (by decide) ?_
    refine lv_iconst (v := nI 5) hx hb dX9_all_52 (by decide) ?_
    refine lv_isub hx hb dX9_all_53 ?_
    refine lv_iload hx hb dX9_all_54 (lv_at hl 4 rfl) ?_
    refine lv_bipush (v := nI 11) hx hb dX9_all_56 (by decide) ?_
    refine lv_irem hx hb dX9_all_58 (by decide) ?_
    refine lv_iconst (v := nI 5) hx hb dX9_all_59 (by decide) ?_
    refine lv_isub hx hb dX9_all_60 ?_
    obtain ⟨h1, hv, hM⟩ := e_bs hM
    obtain ⟨fs_, hk, -⟩ := e_bs hv
    refine e_callV (ci := 9) (As := [.int ((l6 / (nI 11)) - (nI 5)), .int ((l6 - l6 / (nI 11) * (nI 11)) - (nI 5))]) (rest := []) (n := 2) E J hk rfl (mX9_findShape (l := l) (G := G) l0 ((l6 / (nI 11)) - (nI 5)) ((l6 - l6 / (nI 11) * (nI 11)) - (nI 5)) h _ hv) q_6_18 q_6_20 q_p_28 q_1_9 q_6_21 (by decide +kernel) rfl ⟨Nat.le_of_ble_eq_true rfl, Nat.le_of_ble_eq_true rfl⟩ (st0 := [.int ((l6 - l6 / (nI 11) * (nI 11)) - (nI 5)), .int ((l6 / (nI 11)) - (nI 5)), .ref (e_ad G l0)]) (st1 := []) rfl rfl hl.1 (Nat.le_of_ble_eq_true rfl) dX9_all_61 ⟨Nat.le_refl _, Nat.le_refl _⟩ (fun H locs J => ?_)
    refine lv_aload_n hx hb dX9_all_64 rfl (lv_at hl 0 rfl) ?_
    refine lv_iconst (v := nI 0) hx hb dX9_all_65 (by decide) ?_
    obtain ⟨v2, hv, hM⟩ := e_bs hM
    obtain ⟨fs_, hk, -⟩ := e_bs hv
    refine e_callV (ci := 9) (As := [.int (nI 0)]) (rest := []) (n := 1) E J hk rfl (mX9_timesOf (l := l) (G := G) l0 (nI 0) h1 _ hv) q_6_25 q_6_27 q_p_29 q_1_9 q_6_28 (by decide +kernel) rfl ⟨Nat.le_of_ble_eq_true rfl, Nat.le_of_ble_eq_true rfl⟩ (st0 := [.int (nI 0), .ref (e_ad G l0)]) (st1 := [.int v2]) rfl rfl hl.1 (Nat.le_of_ble_eq_true rfl) dX9_all_66 ⟨Nat.le_refl _, Nat.le_refl _⟩ (fun H locs J => ?_)
    refine lv_istore (lv' := [(7, .int v2), (0, .ref (e_ad G l0)), (2, .int l2), (4, .int l4), (5, .int l5), (6, .int l6)]) hx hb dX9_all_69 hl (by decide) rfl (fun ls hl => ?_)
    refine lv_aload_n hx hb dX9_all_71 rfl (lv_at hl 1 rfl) ?_
    obtain ⟨v3, hv, hM⟩ := e_bs hM
    refine e_getR (C := RX9) (T := TX9) (N := 40) E J hv rfl inX9 (by decide) q_5_39 dX9_all_72 ?_
    rcases v3 with _ | a4
    · have hM := e_on0 hM
      refine W.eq (g2 := F0 m 75 ls [.null]) rfl ?_
      refine lv_iconst (v := nI 0) hx hb dX9_all_75 (by decide) ?_
      refine lv_iload hx hb dX9_all_76 (lv_at hl 5 rfl) ?_
      refine lv_bipush (v := nI 11) hx hb dX9_all_78 (by decide) ?_
      refine lv_idiv hx hb dX9_all_80 (by decide) ?_
      refine lv_iconst (v := nI 5) hx hb dX9_all_81 (by decide) ?_
      refine lv_isub hx hb dX9_all_82 ?_
      exact e_no hM
    · have hM := e_on1 hM
      refine W.eq (g2 := F0 m 75 ls [.ref (e_ad G a4)]) rfl ?_
      refine lv_iconst (v := nI 0) hx hb dX9_all_75 (by decide) ?_
      refine lv_iload hx hb dX9_all_76 (lv_at hl 5 rfl) ?_
      refine lv_bipush (v := nI 11) hx hb dX9_all_78 (by decide) ?_
      refine lv_idiv hx hb dX9_all_80 (by decide) ?_
      refine lv_iconst (v := nI 5) hx hb dX9_all_81 (by decide) ?_
      refine lv_isub hx hb dX9_all_82 ?_
      obtain ⟨h6, hv, hM⟩ := e_bs hM
      refine e_iast E J hv dX9_all_83 (fun H locs J => ?_)
      refine lv_aload_n hx hb dX9_all_84 rfl (lv_at hl 1 rfl) ?_
      obtain ⟨v7, hv, hM⟩ := e_bs hM
      refine e_getR (C := RX9) (T := TX9) (N := 40) E J hv rfl inX9 (by decide) q_5_39 dX9_all_85 ?_
      rcases v7 with _ | a8
      · have hM := e_on0 hM
        refine W.eq (g2 := F0 m 88 ls [.null]) rfl ?_
        refine lv_iconst (v := nI 1) hx hb dX9_all_88 (by decide) ?_
        refine lv_iload hx hb dX9_all_89 (lv_at hl 5 rfl) ?_
        refine lv_bipush (v := nI 11) hx hb dX9_all_91 (by decide) ?_
        refine lv_irem hx hb dX9_all_93 (by decide) ?_
        refine lv_iconst (v := nI 5) hx hb dX9_all_94 (by decide) ?_
        refine lv_isub hx hb dX9_all_95 ?_
        exact e_no hM
      · have hM := e_on1 hM
        refine W.eq (g2 := F0 m 88 ls [.ref (e_ad G a8)]) rfl ?_
        refine lv_iconst (v := nI 1) hx hb dX9_all_88 (by decide) ?_
        refine lv_iload hx hb dX9_all_89 (lv_at hl 5 rfl) ?_
        refine lv_bipush (v := nI 11) hx hb dX9_all_91 (by decide) ?_
        refine lv_irem hx hb dX9_all_93 (by decide) ?_
        refine lv_iconst (v := nI 5) hx hb dX9_all_94 (by decide) ?_
        refine lv_isub hx hb dX9_all_95 ?_
        obtain ⟨h10, hv, hM⟩ := e_bs hM
        refine e_iast E J hv dX9_all_96 (fun H locs J => ?_)
        refine lv_aload_n hx hb dX9_all_97 rfl (lv_at hl 1 rfl) ?_
        obtain ⟨v11, hv, hM⟩ := e_bs hM
        refine e_getR (C := RX9) (T := TX9) (N := 40) E J hv rfl inX9 (by decide) q_5_39 dX9_all_98 ?_
        rcases v11 with _ | a12
        · have hM := e_on0 hM
          refine W.eq (g2 := F0 m 101 ls [.null]) rfl ?_
          refine lv_iconst (v := nI 2) hx hb dX9_all_101 (by decide) ?_
          refine lv_iload hx hb dX9_all_102 (lv_at hl 0 rfl) ?_
          exact e_no hM
        · have hM := e_on1 hM
          refine W.eq (g2 := F0 m 101 ls [.ref (e_ad G a12)]) rfl ?_
          refine lv_iconst (v := nI 2) hx hb dX9_all_101 (by decide) ?_
          refine lv_iload hx hb dX9_all_102 (lv_at hl 0 rfl) ?_
          obtain ⟨h14, hv, hM⟩ := e_bs hM
          refine e_iast E J hv dX9_all_104 (fun H locs J => ?_)
          refine lv_iload_n hx hb dX9_all_105 rfl (lv_at hl 2 rfl) ?_
          refine lv_iconst (v := nI 2) hx hb dX9_all_106 (by decide) ?_
          refine lv_icmp_ge (tgt := 124) hx hb dX9_all_107 (by decide) (fun hc => ?_) (fun hc => ?_)
          · have hM := e_ip hc hM
            refine lv_iload hx hb dX9_all_124 (lv_at hl 3 rfl) ?_
            refine lv_if_ge (tgt := 134) hx hb dX9_all_126 (by decide) (fun hc => ?_) (fun hc => ?_)
            · have hM := e_ip hc hM
              refine lv_aload_n hx hb dX9_all_134 rfl (lv_at hl 1 rfl) ?_
              refine lv_iload hx hb dX9_all_135 (lv_at hl 3 rfl) ?_
              obtain ⟨p15, hv, hM⟩ := e_bs hM
              obtain ⟨fs_, hk, -⟩ := e_bs hv
              refine e_callV (ci := 9) (As := [.int l4]) (rest := []) (n := 1) E J hk rfl (mX9_worksOut (l := l) (G := G) l0 l4 h14 _ hv) q_5_180 q_5_182 q_p_21 q_1_9 q_5_183 (by decide +kernel) rfl ⟨Nat.le_of_ble_eq_true rfl, Nat.le_of_ble_eq_true rfl⟩ (st0 := [.int l4, .ref (e_ad G l0)]) (st1 := [.int p15.1]) rfl rfl hl.1 (Nat.le_of_ble_eq_true rfl) dX9_all_137 ⟨Nat.le_refl _, Nat.le_refl _⟩ (fun H locs J => ?_)
              refine lv_bipush (v := -99) hx hb dX9_all_140 (by decide) ?_
              refine lv_bipush (v := nI 99) hx hb dX9_all_142 (by decide) ?_
              obtain ⟨v16, hv, hM⟩ := e_bs hM
              refine e_callS (As := [.int p15.1, .int (-99 : Int32), .int (nI 99)]) (rest := []) (n := 3) E J (mX9_within (l := l) (G := G) p15.1 (-99 : Int32) (nI 99) p15.2 _ hv) q_5_187 q_5_188 q_1_9 q_5_189 (by decide +kernel) rfl ⟨Nat.le_of_ble_eq_true rfl, Nat.le_of_ble_eq_true rfl⟩ (st0 := [.int (nI 99), .int (-99 : Int32), .int p15.1]) (st1 := [.int v16]) rfl rfl hl.1 (Nat.le_of_ble_eq_true rfl) dX9_all_144 ⟨Nat.le_refl _, Nat.le_refl _⟩ (fun H locs J => ?_)
              exact mX9_all_b147 E K39 l0 l2 l4 l5 l6 v2 v16 p15.2 hM J (lv_sub hl [1, 2, 3, 4, 5, 0] rfl)
            · have hM := e_in hc hM
              refine lv_iload hx hb dX9_all_129 (lv_at hl 0 rfl) ?_
              refine lv_goto (tgt := 147) hx hb dX9_all_131 (by decide) ?_
              exact mX9_all_b147 E K39 l0 l2 l4 l5 l6 v2 v2 h14 hM J (lv_sub hl [1, 2, 3, 4, 5, 0] rfl)
          · have hM := e_in hc hM
            refine lv_iload hx hb dX9_all_110 (lv_at hl 0 rfl) ?_
            refine lv_iload_n hx hb dX9_all_112 rfl (lv_at hl 2 rfl) ?_
            refine lv_icmp_le (tgt := 120) hx hb dX9_all_113 (by decide) (fun hc => ?_) (fun hc => ?_)
            · have hM := e_ip hc hM
              refine lv_iconst (v := nI 0) hx hb dX9_all_120 (by decide) ?_
              refine lv_goto (tgt := 147) hx hb dX9_all_121 (by decide) ?_
              exact mX9_all_b147 E K39 l0 l2 l4 l5 l6 v2 (nI 0) h14 hM J (lv_sub hl [1, 2, 3, 4, 5, 0] rfl)
            · have hM := e_in hc hM
              refine lv_iconst (v := nI 1) hx hb dX9_all_116 (by decide) ?_
              refine lv_goto (tgt := 147) hx hb dX9_all_117 (by decide) ?_
              exact mX9_all_b147 E K39 l0 l2 l4 l5 l6 v2 (nI 1) h14 hM J (lv_sub hl [1, 2, 3, 4, 5, 0] rfl)
set_option maxRecDepth 100000 in
set_option maxHeartbeats 4000000 in
theorem mX9_all_L39 {p : Program} {l : Launch} {e : Env} {s : State} {m : MethodId} {args : Array Value} {below : List Frame} {meth : Method} {c : Code} {G : e_G} {res : (Int32 × e_H)} (E : e_M G p s args m meth c cX9_all 9 (some FieldType.int) RX9) (n : Nat) (l0 : Nat) (l2 : Int32) (l4 : Int32) (l5 : Int32) (l6 : Int32) (h : e_H) (hM : fX9_all_L39 n l0 l2 l4 l5 l6 h = some res) {H : Heap} {locs : List Loc} (J : e_J G s h H locs) {ls : Array Slot} (hl : lv_has ls 9 [(0, .ref (e_ad G l0)), (2, .int l2), (4, .int l4), (5, .int l5), (6, .int l6)]) : W p l e (e_rm 5 119) s m args below meth c H locs 0 0 (MQ below (e_Q G res.2 (some (.int res.1))) args s 0 0 (e_A G)) (F0 m 39 ls []) := by
  induction n generalizing l0 l2 l4 l5 l6 h H locs ls with
  | zero => exact e_no hM
  | succ n ih => exact mX9_all_b39 (k39 := (fX9_all_L39 n)) E   (fun l0 l2 l4 l5 l6 h hM H locs J ls hl => ih l0 l2 l4 l5 l6 h hM J hl) l0 l2 l4 l5 l6 h hM J hl
set_option maxRecDepth 100000 in
set_option maxHeartbeats 4000000 in
theorem mX9_all {l : Launch} {G : e_G} (l0 : Nat) (l1 : Int32) (l2 : Int32) (h : e_H) (res : (Int32 × e_H)) (hM : fX9_all l0 l1 l2 h = some res) : Met l yX9_all (e_W yX9_all cX9_all 9 (some FieldType.int)) (e_rm 5 119) (e_Pc G h [.ref (e_ad G l0), .int l1, .int l2]) (e_Q G res.2 (some (.int res.1))) 0 0 (e_A G) := by
  refine Met.ofW (cc := cX9_all) (maxL := 9) (ret := (some FieldType.int)) (by decide) rfl ?_
  intro p e s m args below meth c s₁ B hml hv
  obtain ⟨rfl, hS, hP⟩ := hv
  have E := e_enter (own := RX9) (ret := (some FieldType.int)) B hml rfl hS hP
  have J : e_J G s h s.heap [] := ⟨hP, va_S.rf⟩
  have hl := lv_entry ([.ref (e_ad G l0), .int l1, .int l2]) (n := 9) (Nat.le_of_ble_eq_true rfl)
  rw [lg_entry_eq]
  generalize (lg_sl ([.ref (e_ad G l0), .int l1, .int l2]) ++ List.replicate (9 - (lg_sl ([.ref (e_ad G l0), .int l1, .int l2])).length) Slot.unset).toArray = ls at hl ⊢
  have hl : lv_has ls 9 [(0, .ref (e_ad G l0)), (1, .int l1), (2, .int l2)] := hl
  obtain ⟨hx, hb, hr, hml, hown, hts, hlocks, hES, hbs⟩ := id E
  unfold fX9_all at hM
  obtain ⟨fs_, hk_, hM⟩ := e_bs hM
  refine lv_aload_n hx hb dX9_all_0 rfl (lv_at hl 0 rfl) ?_
  refine lv_iload_n hx hb dX9_all_1 rfl (lv_at hl 1 rfl) ?_
  obtain ⟨v1, hv, hM⟩ := e_bs hM
  obtain ⟨fs_, hk, -⟩ := e_bs hv
  refine e_callV (ci := 9) (As := [.int l1]) (rest := []) (n := 1) E J hk rfl (mX9_isCurve (l := l) (G := G) l0 l1 h _ hv) q_5_150 q_5_152 q_p_16 q_1_9 q_5_153 (by decide +kernel) rfl ⟨Nat.le_of_ble_eq_true rfl, Nat.le_of_ble_eq_true rfl⟩ (st0 := [.int l1, .ref (e_ad G l0)]) (st1 := [.int (e_b v1)]) rfl rfl hl.1 (Nat.le_of_ble_eq_true rfl) dX9_all_2 ⟨Nat.le_refl _, Nat.le_refl _⟩ (fun H locs J => ?_)
  refine lv_if_eq (tgt := 17) hx hb dX9_all_5 (by decide) (fun hc => ?_) (fun hc => ?_)
  · have hM := e_ip hc hM
    refine lv_ldc (v := -1000000001) hx hb hown (hts _ q_5_140) dX9_all_17 ?_
    obtain rfl := e_so hM
    exact e_iret E J dX9_all_19
  · have hM := e_in hc hM
    refine lv_iload_n hx hb dX9_all_8 rfl (lv_at hl 2 rfl) ?_
    refine lv_iconst (v := nI 0) hx hb dX9_all_9 (by decide) ?_
    refine lv_iconst (v := nI 2) hx hb dX9_all_10 (by decide) ?_
    obtain ⟨v2, hv, hM⟩ := e_bs hM
    refine e_callS (As := [.int l2, .int (nI 0), .int (nI 2)]) (rest := []) (n := 3) E J (mX9_in (l := l) (G := G) l2 (nI 0) (nI 2) h _ hv) q_5_137 q_5_138 q_1_9 q_5_139 (by decide +kernel) rfl ⟨Nat.le_of_ble_eq_true rfl, Nat.le_of_ble_eq_true rfl⟩ (st0 := [.int (nI 2), .int (nI 0), .int l2]) (st1 := [.int (e_b v2)]) rfl rfl hl.1 (Nat.le_of_ble_eq_true rfl) dX9_all_11 ⟨Nat.le_refl _, Nat.le_refl _⟩ (fun H locs J => ?_)
    refine lv_if_ne (tgt := 20) hx hb dX9_all_14 (by decide) (fun hc => ?_) (fun hc => ?_)
    · have hM := e_in hc hM
      refine lv_aload_n hx hb dX9_all_20 rfl (lv_at hl 0 rfl) ?_
      refine lv_iload_n hx hb dX9_all_21 rfl (lv_at hl 1 rfl) ?_
      obtain ⟨p3, hv, hM⟩ := e_bs hM
      obtain ⟨fs_, hk, -⟩ := e_bs hv
      refine e_callV (ci := 9) (As := [.int l1]) (rest := []) (n := 1) E J hk rfl (mX9_findTerms (l := l) (G := G) l0 l1 h _ hv) q_5_202 q_5_204 q_p_24 q_1_9 q_5_205 (by decide +kernel) rfl ⟨Nat.le_of_ble_eq_true rfl, Nat.le_of_ble_eq_true rfl⟩ (st0 := [.int l1, .ref (e_ad G l0)]) (st1 := [.int p3.1]) rfl rfl hl.1 (Nat.le_of_ble_eq_true rfl) dX9_all_22 ⟨Nat.le_refl _, Nat.le_refl _⟩ (fun H locs J => ?_)
      refine lv_istore_n (lv' := [(3, .int p3.1), (0, .ref (e_ad G l0)), (1, .int l1), (2, .int l2)]) hx hb dX9_all_25 rfl hl (by decide) rfl (fun ls hl => ?_)
      refine lv_aload_n hx hb dX9_all_26 rfl (lv_at hl 1 rfl) ?_
      refine lv_iconst (v := nI 2) hx hb dX9_all_27 (by decide) ?_
      obtain ⟨v4, hv, hM⟩ := e_bs hM
      obtain ⟨fs_, hk, -⟩ := e_bs hv
      refine e_callV (ci := 9) (As := [.int (nI 2)]) (rest := []) (n := 1) E J hk rfl (mX9_counts (l := l) (G := G) l0 (nI 2) p3.2 _ hv) q_5_176 q_5_178 q_p_20 q_1_9 q_5_179 (by decide +kernel) rfl ⟨Nat.le_of_ble_eq_true rfl, Nat.le_of_ble_eq_true rfl⟩ (st0 := [.int (nI 2), .ref (e_ad G l0)]) (st1 := [.int v4]) rfl rfl hl.1 (Nat.le_of_ble_eq_true rfl) dX9_all_28 ⟨Nat.le_refl _, Nat.le_refl _⟩ (fun H locs J => ?_)
      refine lv_istore (lv' := [(4, .int v4), (3, .int p3.1), (0, .ref (e_ad G l0)), (1, .int l1), (2, .int l2)]) hx hb dX9_all_31 hl (by decide) rfl (fun ls hl => ?_)
      refine lv_iconst (v := nI 0) hx hb dX9_all_33 (by decide) ?_
      refine lv_istore (lv' := [(5, .int (nI 0)), (4, .int v4), (3, .int p3.1), (0, .ref (e_ad G l0)), (1, .int l1), (2, .int l2)]) hx hb dX9_all_34 hl (by decide) rfl (fun ls hl => ?_)
      refine lv_iconst (v := nI 0) hx hb dX9_all_36 (by decide) ?_
      refine lv_istore (lv' := [(6, .int (nI 0)), (5, .int (nI 0)), (4, .int v4), (3, .int p3.1), (0, .ref (e_ad G l0)), (1, .int l1), (2, .int l2)]) hx hb dX9_all_37 hl (by decide) rfl (fun ls hl => ?_)
      exact mX9_all_L39 E 200 l0 l2 v4 (nI 0) (nI 0) p3.2 hM J (lv_sub hl [4, 6, 2, 1, 0] rfl)
    · have hM := e_ip hc hM
      refine lv_ldc (v := -1000000001) hx hb hown (hts _ q_5_140) dX9_all_17 ?_
      obtain rfl := e_so hM
      exact e_iret E J dX9_all_19
set_option maxRecDepth 100000 in
set_option maxHeartbeats 4000000 in
theorem mX9_on_b67 {p : Program} {l : Launch} {e : Env} {s : State} {m : MethodId} {args : Array Value} {below : List Frame} {meth : Method} {c : Code} {G : e_G} {res : (Int32 × e_H)} {k27 : Nat → Int32 → Int32 → Int32 → e_H → Option (Int32 × e_H)} (E : e_M G p s args m meth c cX9_on 6 (some FieldType.int) RX9) (K27 : ∀ (l0 : Nat) (l2 : Int32) (l4 : Int32) (l5 : Int32) (h : e_H), k27 l0 l2 l4 l5 h = some res → ∀ (H : Heap) (locs : List Loc), e_J G s h H locs → ∀ (ls : Array Slot), lv_has ls 6 [(0, .ref (e_ad G l0)), (2, .int l2), (4, .int l4), (5, .int l5)] → W p l e (e_rm 5 119) s m args below meth c H locs 0 0 (MQ below (e_Q G res.2 (some (.int res.1))) args s 0 0 (e_A G)) (F0 m 27 ls [])) (l0 : Nat) (l2 : Int32) (l5 : Int32) (t0 : Int32) (t1 : Int32) (h : e_H) (hM : fX9_on_b67 k27 l0 l2 l5 t0 t1 h = some res) {H : Heap} {locs : List Loc} (J : e_J G s h H locs) {ls : Array Slot} (hl : lv_has ls 6 [(0, .ref (e_ad G l0)), (2, .int l2), (5, .int l5)]) : W p l e (e_rm 5 119) s m args below meth c H locs 0 0 (MQ below (e_Q G res.2 (some (.int res.1))) args s 0 0 (e_A G)) (F0 m 67 ls [.int t0, .int t1]) := by
  obtain ⟨hx, hb, hr, hml, hown, hts, hlocks, hES, hbs⟩ := id E
  unfold fX9_on_b67 at hM
  refine lv_iadd hx hb dX9_on_67 ?_
  refine lv_istore (lv' := [(4, .int (t1 + t0)), (0, .ref (e_ad G l0)), (2, .int l2), (5, .int l5)]) hx hb dX9_on_68 hl (by decide) rfl (fun ls hl => ?_)
  refine lv_iload hx hb dX9_on_70 (lv_at hl 0 rfl) ?_
  refine lv_iload_n hx hb dX9_on_72 rfl (lv_at hl 2 rfl) ?_
  refine lv_icmp_ne (tgt := 91) hx hb dX9_on_73 (by decide) (fun hc => ?_) (fun hc => ?_)
  · have hM := e_in hc hM
    refine lv_iinc (v := (l5 + (nI 1))) (lv' := [(5, .int (l5 + (nI 1))), (4, .int (t1 + t0)), (0, .ref (e_ad G l0)), (2, .int l2)]) hx hb dX9_on_91 hl (k := 3) rfl rfl (by decide) rfl (fun ls hl => ?_)
    refine lv_goto (tgt := 27) hx hb dX9_on_94 (by decide) ?_
    exact K27 l0 l2 (t1 + t0) (l5 + (nI 1)) h hM _ _ J _ (lv_sub hl [2, 3, 1, 0] rfl)
  · have hM := e_ip hc hM
    refine lv_bipush (v := nI 100) hx hb dX9_on_76 (by decide) ?_
    refine lv_iload hx hb dX9_on_78 (lv_at hl 3 rfl) ?_
    refine lv_bipush (v := nI 11) hx hb dX9_on_80 (by decide) ?_
    refine lv_idiv hx hb dX9_on_82 (by decide) ?_
    refine lv_imul hx hb dX9_on_83 ?_
    refine lv_iload hx hb dX9_on_84 (lv_at hl 3 rfl) ?_
    refine lv_bipush (v := nI 11) hx hb dX9_on_86 (by decide) ?_
    refine lv_irem hx hb dX9_on_88 (by decide) ?_
    refine lv_iadd hx hb dX9_on_89 ?_
    obtain rfl := e_so hM
    exact e_iret E J dX9_on_90
set_option maxRecDepth 100000 in
set_option maxHeartbeats 4000000 in
theorem mX9_on_b27 {p : Program} {l : Launch} {e : Env} {s : State} {m : MethodId} {args : Array Value} {below : List Frame} {meth : Method} {c : Code} {G : e_G} {res : (Int32 × e_H)} {k27 : Nat → Int32 → Int32 → Int32 → e_H → Option (Int32 × e_H)} (E : e_M G p s args m meth c cX9_on 6 (some FieldType.int) RX9) (K27 : ∀ (l0 : Nat) (l2 : Int32) (l4 : Int32) (l5 : Int32) (h : e_H), k27 l0 l2 l4 l5 h = some res → ∀ (H : Heap) (locs : List Loc), e_J G s h H locs → ∀ (ls : Array Slot), lv_has ls 6 [(0, .ref (e_ad G l0)), (2, .int l2), (4, .int l4), (5, .int l5)] → W p l e (e_rm 5 119) s m args below meth c H locs 0 0 (MQ below (e_Q G res.2 (some (.int res.1))) args s 0 0 (e_A G)) (F0 m 27 ls [])) (l0 : Nat) (l2 : Int32) (l4 : Int32) (l5 : Int32) (h : e_H) (hM : fX9_on_b27 k27 l0 l2 l4 l5 h = some res) {H : Heap} {locs : List Loc} (J : e_J G s h H locs) {ls : Array Slot} (hl : lv_has ls 6 [(0, .ref (e_ad G l0)), (2, .int l2), (4, .int l4), (5, .int l5)]) : W p l e (e_rm 5 119) s m args below meth c H locs 0 0 (MQ below (e_Q G res.2 (some (.int res.1))) args s 0 0 (e_A G)) (F0 m 27 ls []) := by
  obtain ⟨hx, hb, hr, hml, hown, hts, hlocks, hES, hbs⟩ := id E
  unfold fX9_on_b27 at hM
  refine lv_iload hx hb dX9_on_27 (lv_at hl 3 rfl) ?_
  refine lv_bipush (v := nI 121) hx hb dX9_on_29 (by decide) ?_
  refine lv_icmp_ge (tgt := 97) hx hb dX9_on_31 (by decide) (fun hc => ?_) (fun hc => ?_)
  · have hM := e_ip hc hM
    refine lv_ldc (v := -1000000005) hx hb hown (hts _ q_6_90) dX9_on_97 ?_
    obtain rfl := e_so hM
    exact e_iret E J dX9_on_99
  · have hM := e_in hc hM
    refine lv_aload_n hx hb dX9_on_34 rfl (lv_at hl 0 rfl) ?_
    refine lv_iload hx hb dX9_on_35 (lv_at hl 3 rfl) ?_
    refine lv_bipush (v := nI 11) hx hb dX9_on_37 (by decide) ?_
    refine lv_idiv hx hb dX9_on_39 (by decide) ?_
    refine lv_iconst (v := nI 5) hx hb dX9_on_40 (by decide) ?_
    refine lv_isub hx hb dX9_on_41 ?_
    refine lv_iload hx hb dX9_on_42 (lv_at hl 3 rfl) ?_
    refine lv_bipush (v := nI 11) hx hb dX9_on_44 (by decide) ?_
    refine lv_irem hx hb dX9_on_46 (by decide) ?_
    refine lv_iconst (v := nI 5) hx hb dX9_on_47 (by decide) ?_
    refine lv_isub hx hb dX9_on_48 ?_
    obtain ⟨h1, hv, hM⟩ := e_bs hM
    obtain ⟨fs_, hk, -⟩ := e_bs hv
    refine e_callV (ci := 9) (As := [.int ((l5 / (nI 11)) - (nI 5)), .int ((l5 - l5 / (nI 11) * (nI 11)) - (nI 5))]) (rest := []) (n := 2) E J hk rfl (mX9_findShape (l := l) (G := G) l0 ((l5 / (nI 11)) - (nI 5)) ((l5 - l5 / (nI 11) * (nI 11)) - (nI 5)) h _ hv) q_6_18 q_6_20 q_p_28 q_1_9 q_6_21 (by decide +kernel) rfl ⟨Nat.le_of_ble_eq_true rfl, Nat.le_of_ble_eq_true rfl⟩ (st0 := [.int ((l5 - l5 / (nI 11) * (nI 11)) - (nI 5)), .int ((l5 / (nI 11)) - (nI 5)), .ref (e_ad G l0)]) (st1 := []) rfl rfl hl.1 (Nat.le_of_ble_eq_true rfl) dX9_on_49 ⟨Nat.le_refl _, Nat.le_refl _⟩ (fun H locs J => ?_)
    refine lv_iload hx hb dX9_on_52 (lv_at hl 2 rfl) ?_
    refine lv_aload_n hx hb dX9_on_54 rfl (lv_at hl 0 rfl) ?_
    refine lv_iconst (v := nI 0) hx hb dX9_on_55 (by decide) ?_
    obtain ⟨v2, hv, hM⟩ := e_bs hM
    obtain ⟨fs_, hk, -⟩ := e_bs hv
    refine e_callV (ci := 9) (As := [.int (nI 0)]) (rest := [.int l4]) (n := 1) E J hk rfl (mX9_timesOf (l := l) (G := G) l0 (nI 0) h1 _ hv) q_6_25 q_6_27 q_p_29 q_1_9 q_6_28 (by decide +kernel) rfl ⟨Nat.le_of_ble_eq_true rfl, Nat.le_of_ble_eq_true rfl⟩ (st0 := [.int (nI 0), .ref (e_ad G l0), .int l4]) (st1 := [.int v2, .int l4]) rfl rfl hl.1 (Nat.le_of_ble_eq_true rfl) dX9_on_56 ⟨Nat.le_refl _, Nat.le_refl _⟩ (fun H locs J => ?_)
    refine lv_if_le (tgt := 66) hx hb dX9_on_59 (by decide) (fun hc => ?_) (fun hc => ?_)
    · have hM := e_ip hc hM
      refine lv_iconst (v := nI 0) hx hb dX9_on_66 (by decide) ?_
      exact mX9_on_b67 E K27 l0 l2 l5 (nI 0) l4 h1 hM J (lv_sub hl [0, 1, 3] rfl)
    · have hM := e_in hc hM
      refine lv_iconst (v := nI 1) hx hb dX9_on_62 (by decide) ?_
      refine lv_goto (tgt := 67) hx hb dX9_on_63 (by decide) ?_
      exact mX9_on_b67 E K27 l0 l2 l5 (nI 1) l4 h1 hM J (lv_sub hl [0, 1, 3] rfl)
set_option maxRecDepth 100000 in
set_option maxHeartbeats 4000000 in
theorem mX9_on_L27 {p : Program} {l : Launch} {e : Env} {s : State} {m : MethodId} {args : Array Value} {below : List Frame} {meth : Method} {c : Code} {G : e_G} {res : (Int32 × e_H)} (E : e_M G p s args m meth c cX9_on 6 (some FieldType.int) RX9) (n : Nat) (l0 : Nat) (l2 : Int32) (l4 : Int32) (l5 : Int32) (h : e_H) (hM : fX9_on_L27 n l0 l2 l4 l5 h = some res) {H : Heap} {locs : List Loc} (J : e_J G s h H locs) {ls : Array Slot} (hl : lv_has ls 6 [(0, .ref (e_ad G l0)), (2, .int l2), (4, .int l4), (5, .int l5)]) : W p l e (e_rm 5 119) s m args below meth c H locs 0 0 (MQ below (e_Q G res.2 (some (.int res.1))) args s 0 0 (e_A G)) (F0 m 27 ls []) := by
  induction n generalizing l0 l2 l4 l5 h H locs ls with
  | zero => exact e_no hM
  | succ n ih => exact mX9_on_b27 (k27 := (fX9_on_L27 n)) E   (fun l0 l2 l4 l5 h hM H locs J ls hl => ih l0 l2 l4 l5 h hM J hl) l0 l2 l4 l5 h hM J hl
set_option maxRecDepth 100000 in
set_option maxHeartbeats 4000000 in
theorem mX9_on {l : Launch} {G : e_G} (l0 : Nat) (l1 : Int32) (l2 : Int32) (h : e_H) (res : (Int32 × e_H)) (hM : fX9_on l0 l1 l2 h = some res) : Met l yX9_on (e_W yX9_on cX9_on 6 (some FieldType.int)) (e_rm 5 119) (e_Pc G h [.ref (e_ad G l0), .int l1, .int l2]) (e_Q G res.2 (some (.int res.1))) 0 0 (e_A G) := by
  refine Met.ofW (cc := cX9_on) (maxL := 6) (ret := (some FieldType.int)) (by decide) rfl ?_
  intro p e s m args below meth c s₁ B hml hv
  obtain ⟨rfl, hS, hP⟩ := hv
  have E := e_enter (own := RX9) (ret := (some FieldType.int)) B hml rfl hS hP
  have J : e_J G s h s.heap [] := ⟨hP, va_S.rf⟩
  have hl := lv_entry ([.ref (e_ad G l0), .int l1, .int l2]) (n := 6) (Nat.le_of_ble_eq_true rfl)
  rw [lg_entry_eq]
  generalize (lg_sl ([.ref (e_ad G l0), .int l1, .int l2]) ++ List.replicate (6 - (lg_sl ([.ref (e_ad G l0), .int l1, .int l2])).length) Slot.unset).toArray = ls at hl ⊢
  have hl : lv_has ls 6 [(0, .ref (e_ad G l0)), (1, .int l1), (2, .int l2)] := hl
  obtain ⟨hx, hb, hr, hml, hown, hts, hlocks, hES, hbs⟩ := id E
  unfold fX9_on at hM
  obtain ⟨fs_, hk_, hM⟩ := e_bs hM
  refine lv_aload_n hx hb dX9_on_0 rfl (lv_at hl 0 rfl) ?_
  refine lv_iload_n hx hb dX9_on_1 rfl (lv_at hl 1 rfl) ?_
  obtain ⟨v1, hv, hM⟩ := e_bs hM
  obtain ⟨fs_, hk, -⟩ := e_bs hv
  refine e_callV (ci := 9) (As := [.int l1]) (rest := []) (n := 1) E J hk rfl (mX9_isCurve (l := l) (G := G) l0 l1 h _ hv) q_5_150 q_5_152 q_p_16 q_1_9 q_5_153 (by decide +kernel) rfl ⟨Nat.le_of_ble_eq_true rfl, Nat.le_of_ble_eq_true rfl⟩ (st0 := [.int l1, .ref (e_ad G l0)]) (st1 := [.int (e_b v1)]) rfl rfl hl.1 (Nat.le_of_ble_eq_true rfl) dX9_on_2 ⟨Nat.le_refl _, Nat.le_refl _⟩ (fun H locs J => ?_)
  refine lv_if_eq (tgt := 12) hx hb dX9_on_5 (by decide) (fun hc => ?_) (fun hc => ?_)
  · have hM := e_ip hc hM
    refine lv_ldc (v := -1000000001) hx hb hown (hts _ q_5_140) dX9_on_12 ?_
    obtain rfl := e_so hM
    exact e_iret E J dX9_on_14
  · have hM := e_in hc hM
    refine lv_iload_n hx hb dX9_on_8 rfl (lv_at hl 2 rfl) ?_
    refine lv_if_ge (tgt := 15) hx hb dX9_on_9 (by decide) (fun hc => ?_) (fun hc => ?_)
    · have hM := e_ip hc hM
      refine lv_aload_n hx hb dX9_on_15 rfl (lv_at hl 0 rfl) ?_
      refine lv_iload_n hx hb dX9_on_16 rfl (lv_at hl 1 rfl) ?_
      obtain ⟨p2, hv, hM⟩ := e_bs hM
      obtain ⟨fs_, hk, -⟩ := e_bs hv
      refine e_callV (ci := 9) (As := [.int l1]) (rest := []) (n := 1) E J hk rfl (mX9_findTerms (l := l) (G := G) l0 l1 h _ hv) q_5_202 q_5_204 q_p_24 q_1_9 q_5_205 (by decide +kernel) rfl ⟨Nat.le_of_ble_eq_true rfl, Nat.le_of_ble_eq_true rfl⟩ (st0 := [.int l1, .ref (e_ad G l0)]) (st1 := [.int p2.1]) rfl rfl hl.1 (Nat.le_of_ble_eq_true rfl) dX9_on_17 ⟨Nat.le_refl _, Nat.le_refl _⟩ (fun H locs J => ?_)
      refine lv_istore_n (lv' := [(3, .int p2.1), (0, .ref (e_ad G l0)), (1, .int l1), (2, .int l2)]) hx hb dX9_on_20 rfl hl (by decide) rfl (fun ls hl => ?_)
      refine lv_iconst (v := -1) hx hb dX9_on_21 (by decide) ?_
      refine lv_istore (lv' := [(4, .int (-1 : Int32)), (3, .int p2.1), (0, .ref (e_ad G l0)), (1, .int l1), (2, .int l2)]) hx hb dX9_on_22 hl (by decide) rfl (fun ls hl => ?_)
      refine lv_iconst (v := nI 0) hx hb dX9_on_24 (by decide) ?_
      refine lv_istore (lv' := [(5, .int (nI 0)), (4, .int (-1 : Int32)), (3, .int p2.1), (0, .ref (e_ad G l0)), (1, .int l1), (2, .int l2)]) hx hb dX9_on_25 hl (by decide) rfl (fun ls hl => ?_)
      exact mX9_on_L27 E 200 l0 l2 (-1 : Int32) (nI 0) p2.2 hM J (lv_sub hl [3, 5, 1, 0] rfl)
    · have hM := e_in hc hM
      refine lv_ldc (v := -1000000001) hx hb hown (hts _ q_5_140) dX9_on_12 ?_
      obtain rfl := e_so hM
      exact e_iret E J dX9_on_14
set_option maxRecDepth 100000 in
set_option maxHeartbeats 4000000 in
theorem mX9_genus_b91 {p : Program} {l : Launch} {e : Env} {s : State} {m : MethodId} {args : Array Value} {below : List Frame} {meth : Method} {c : Code} {G : e_G} {res : (Int32 × e_H)} {k43 : Nat → Int32 → Int32 → e_H → Option (Int32 × e_H)} (E : e_M G p s args m meth c cX9_genus 6 (some FieldType.int) RX9) (K43 : ∀ (l0 : Nat) (l4 : Int32) (l5 : Int32) (h : e_H), k43 l0 l4 l5 h = some res → ∀ (H : Heap) (locs : List Loc), e_J G s h H locs → ∀ (ls : Array Slot), lv_has ls 6 [(0, .ref (e_ad G l0)), (4, .int l4), (5, .int l5)] → W p l e (e_rm 5 119) s m args below meth c H locs 0 0 (MQ below (e_Q G res.2 (some (.int res.1))) args s 0 0 (e_A G)) (F0 m 43 ls [])) (l0 : Nat) (l4 : Int32) (l5 : Int32) (h : e_H) (hM : fX9_genus_b91 k43 l0 l4 l5 h = some res) {H : Heap} {locs : List Loc} (J : e_J G s h H locs) {ls : Array Slot} (hl : lv_has ls 6 [(0, .ref (e_ad G l0)), (4, .int l4), (5, .int l5)]) : W p l e (e_rm 5 119) s m args below meth c H locs 0 0 (MQ below (e_Q G res.2 (some (.int res.1))) args s 0 0 (e_A G)) (F0 m 91 ls []) := by
  obtain ⟨hx, hb, hr, hml, hown, hts, hlocks, hES, hbs⟩ := id E
  unfold fX9_genus_b91 at hM
  refine lv_iinc (v := (l5 + (nI 1))) (lv' := [(5, .int (l5 + (nI 1))), (0, .ref (e_ad G l0)), (4, .int l4)]) hx hb dX9_genus_91 hl (k := 2) rfl rfl (by decide) rfl (fun ls hl => ?_)
  refine lv_goto (tgt := 43) hx hb dX9_genus_94 (by decide) ?_
  exact K43 l0 l4 (l5 + (nI 1)) h hM _ _ J _ (lv_sub hl [1, 2, 0] rfl)
set_option maxRecDepth 100000 in
set_option maxHeartbeats 4000000 in
theorem mX9_genus_b43 {p : Program} {l : Launch} {e : Env} {s : State} {m : MethodId} {args : Array Value} {below : List Frame} {meth : Method} {c : Code} {G : e_G} {res : (Int32 × e_H)} {k43 : Nat → Int32 → Int32 → e_H → Option (Int32 × e_H)} (E : e_M G p s args m meth c cX9_genus 6 (some FieldType.int) RX9) (K43 : ∀ (l0 : Nat) (l4 : Int32) (l5 : Int32) (h : e_H), k43 l0 l4 l5 h = some res → ∀ (H : Heap) (locs : List Loc), e_J G s h H locs → ∀ (ls : Array Slot), lv_has ls 6 [(0, .ref (e_ad G l0)), (4, .int l4), (5, .int l5)] → W p l e (e_rm 5 119) s m args below meth c H locs 0 0 (MQ below (e_Q G res.2 (some (.int res.1))) args s 0 0 (e_A G)) (F0 m 43 ls [])) (l0 : Nat) (l4 : Int32) (l5 : Int32) (h : e_H) (hM : fX9_genus_b43 k43 l0 l4 l5 h = some res) {H : Heap} {locs : List Loc} (J : e_J G s h H locs) {ls : Array Slot} (hl : lv_has ls 6 [(0, .ref (e_ad G l0)), (4, .int l4), (5, .int l5)]) : W p l e (e_rm 5 119) s m args below meth c H locs 0 0 (MQ below (e_Q G res.2 (some (.int res.1))) args s 0 0 (e_A G)) (F0 m 43 ls []) := by
  obtain ⟨hx, hb, hr, hml, hown, hts, hlocks, hES, hbs⟩ := id E
  unfold fX9_genus_b43 at hM
  refine lv_iload hx hb dX9_genus_43 (lv_at hl 2 rfl) ?_
  refine lv_bipush (v := nI 121) hx hb dX9_genus_45 (by decide) ?_
  refine lv_icmp_ge (tgt := 97) hx hb dX9_genus_47 (by decide) (fun hc => ?_) (fun hc => ?_)
  · have hM := e_ip hc hM
    refine lv_iload hx hb dX9_genus_97 (lv_at hl 1 rfl) ?_
    obtain rfl := e_so hM
    exact e_iret E J dX9_genus_99
  · have hM := e_in hc hM
    refine lv_aload_n hx hb dX9_genus_50 rfl (lv_at hl 0 rfl) ?_
    refine lv_iload hx hb dX9_genus_51 (lv_at hl 2 rfl) ?_
    refine lv_bipush (v := nI 11) hx hb dX9_genus_53 (by decide) ?_
    refine lv_idiv hx hb dX9_genus_55 (by decide) ?_
    refine lv_iconst (v := nI 5) hx hb dX9_genus_56 (by decide) ?_
    refine lv_isub hx hb dX9_genus_57 ?_
    refine lv_iload hx hb dX9_genus_58 (lv_at hl 2 rfl) ?_
    refine lv_bipush (v := nI 11) hx hb dX9_genus_60 (by decide) ?_
    refine lv_irem hx hb dX9_genus_62 (by decide) ?_
    refine lv_iconst (v := nI 5) hx hb dX9_genus_63 (by decide) ?_
    refine lv_isub hx hb dX9_genus_64 ?_
    obtain ⟨h1, hv, hM⟩ := e_bs hM
    obtain ⟨fs_, hk, -⟩ := e_bs hv
    refine e_callV (ci := 9) (As := [.int ((l5 / (nI 11)) - (nI 5)), .int ((l5 - l5 / (nI 11) * (nI 11)) - (nI 5))]) (rest := []) (n := 2) E J hk rfl (mX9_findShape (l := l) (G := G) l0 ((l5 / (nI 11)) - (nI 5)) ((l5 - l5 / (nI 11) * (nI 11)) - (nI 5)) h _ hv) q_6_18 q_6_20 q_p_28 q_1_9 q_6_21 (by decide +kernel) rfl ⟨Nat.le_of_ble_eq_true rfl, Nat.le_of_ble_eq_true rfl⟩ (st0 := [.int ((l5 - l5 / (nI 11) * (nI 11)) - (nI 5)), .int ((l5 / (nI 11)) - (nI 5)), .ref (e_ad G l0)]) (st1 := []) rfl rfl hl.1 (Nat.le_of_ble_eq_true rfl) dX9_genus_65 ⟨Nat.le_refl _, Nat.le_refl _⟩ (fun H locs J => ?_)
    refine lv_aload_n hx hb dX9_genus_68 rfl (lv_at hl 0 rfl) ?_
    refine lv_iconst (v := nI 0) hx hb dX9_genus_69 (by decide) ?_
    obtain ⟨v2, hv, hM⟩ := e_bs hM
    obtain ⟨fs_, hk, -⟩ := e_bs hv
    refine e_callV (ci := 9) (As := [.int (nI 0)]) (rest := []) (n := 1) E J hk rfl (mX9_timesOf (l := l) (G := G) l0 (nI 0) h1 _ hv) q_6_25 q_6_27 q_p_29 q_1_9 q_6_28 (by decide +kernel) rfl ⟨Nat.le_of_ble_eq_true rfl, Nat.le_of_ble_eq_true rfl⟩ (st0 := [.int (nI 0), .ref (e_ad G l0)]) (st1 := [.int v2]) rfl rfl hl.1 (Nat.le_of_ble_eq_true rfl) dX9_genus_70 ⟨Nat.le_refl _, Nat.le_refl _⟩ (fun H locs J => ?_)
    refine lv_iconst (v := nI 1) hx hb dX9_genus_73 (by decide) ?_
    refine lv_icmp_le (tgt := 91) hx hb dX9_genus_74 (by decide) (fun hc => ?_) (fun hc => ?_)
    · have hM := e_ip hc hM
      exact mX9_genus_b91 E K43 l0 l4 l5 h1 hM J (lv_sub hl [0, 1, 2] rfl)
    · have hM := e_in hc hM
      refine lv_aload_n hx hb dX9_genus_77 rfl (lv_at hl 0 rfl) ?_
      refine lv_iconst (v := nI 3) hx hb dX9_genus_78 (by decide) ?_
      obtain ⟨h3, hv, hM⟩ := e_bs hM
      obtain ⟨fs_, hk, -⟩ := e_bs hv
      refine e_callV (ci := 9) (As := [.int (nI 3)]) (rest := []) (n := 1) E J hk rfl (mX9_findTree (l := l) (G := G) l0 (nI 3) h1 _ hv) q_6_78 q_6_80 q_p_35 q_1_9 q_6_81 (by decide +kernel) rfl ⟨Nat.le_of_ble_eq_true rfl, Nat.le_of_ble_eq_true rfl⟩ (st0 := [.int (nI 3), .ref (e_ad G l0)]) (st1 := []) rfl rfl hl.1 (Nat.le_of_ble_eq_true rfl) dX9_genus_79 ⟨Nat.le_refl _, Nat.le_refl _⟩ (fun H locs J => ?_)
      refine lv_iload hx hb dX9_genus_82 (lv_at hl 1 rfl) ?_
      refine lv_aload_n hx hb dX9_genus_84 rfl (lv_at hl 0 rfl) ?_
      obtain ⟨v4, hv, hM⟩ := e_bs hM
      refine e_getI (C := RX9) (T := TX9) (N := 40) E J hv rfl inX9 (by decide) q_5_18 dX9_genus_85 ?_
      refine lv_isub hx hb dX9_genus_88 ?_
      refine lv_istore (lv' := [(4, .int (l4 - v4)), (0, .ref (e_ad G l0)), (5, .int l5)]) hx hb dX9_genus_89 hl (by decide) rfl (fun ls hl => ?_)
      exact mX9_genus_b91 E K43 l0 (l4 - v4) l5 h3 hM J (lv_sub hl [1, 0, 2] rfl)
set_option maxRecDepth 100000 in
set_option maxHeartbeats 4000000 in
theorem mX9_genus_L43 {p : Program} {l : Launch} {e : Env} {s : State} {m : MethodId} {args : Array Value} {below : List Frame} {meth : Method} {c : Code} {G : e_G} {res : (Int32 × e_H)} (E : e_M G p s args m meth c cX9_genus 6 (some FieldType.int) RX9) (n : Nat) (l0 : Nat) (l4 : Int32) (l5 : Int32) (h : e_H) (hM : fX9_genus_L43 n l0 l4 l5 h = some res) {H : Heap} {locs : List Loc} (J : e_J G s h H locs) {ls : Array Slot} (hl : lv_has ls 6 [(0, .ref (e_ad G l0)), (4, .int l4), (5, .int l5)]) : W p l e (e_rm 5 119) s m args below meth c H locs 0 0 (MQ below (e_Q G res.2 (some (.int res.1))) args s 0 0 (e_A G)) (F0 m 43 ls []) := by
  induction n generalizing l0 l4 l5 h H locs ls with
  | zero => exact e_no hM
  | succ n ih => exact mX9_genus_b43 (k43 := (fX9_genus_L43 n)) E   (fun l0 l4 l5 h hM H locs J ls hl => ih l0 l4 l5 h hM J hl) l0 l4 l5 h hM J hl
set_option maxRecDepth 100000 in
set_option maxHeartbeats 4000000 in
theorem mX9_genus {l : Launch} {G : e_G} (l0 : Nat) (l1 : Int32) (h : e_H) (res : (Int32 × e_H)) (hM : fX9_genus l0 l1 h = some res) : Met l yX9_genus (e_W yX9_genus cX9_genus 6 (some FieldType.int)) (e_rm 5 119) (e_Pc G h [.ref (e_ad G l0), .int l1]) (e_Q G res.2 (some (.int res.1))) 0 0 (e_A G) := by
  refine Met.ofW (cc := cX9_genus) (maxL := 6) (ret := (some FieldType.int)) (by decide) rfl ?_
  intro p e s m args below meth c s₁ B hml hv
  obtain ⟨rfl, hS, hP⟩ := hv
  have E := e_enter (own := RX9) (ret := (some FieldType.int)) B hml rfl hS hP
  have J : e_J G s h s.heap [] := ⟨hP, va_S.rf⟩
  have hl := lv_entry ([.ref (e_ad G l0), .int l1]) (n := 6) (Nat.le_of_ble_eq_true rfl)
  rw [lg_entry_eq]
  generalize (lg_sl ([.ref (e_ad G l0), .int l1]) ++ List.replicate (6 - (lg_sl ([.ref (e_ad G l0), .int l1])).length) Slot.unset).toArray = ls at hl ⊢
  have hl : lv_has ls 6 [(0, .ref (e_ad G l0)), (1, .int l1)] := hl
  obtain ⟨hx, hb, hr, hml, hown, hts, hlocks, hES, hbs⟩ := id E
  unfold fX9_genus at hM
  obtain ⟨fs_, hk_, hM⟩ := e_bs hM
  refine lv_aload_n hx hb dX9_genus_0 rfl (lv_at hl 0 rfl) ?_
  refine lv_iload_n hx hb dX9_genus_1 rfl (lv_at hl 1 rfl) ?_
  obtain ⟨v1, hv, hM⟩ := e_bs hM
  obtain ⟨fs_, hk, -⟩ := e_bs hv
  refine e_callV (ci := 9) (As := [.int l1]) (rest := []) (n := 1) E J hk rfl (mX9_isCurve (l := l) (G := G) l0 l1 h _ hv) q_5_150 q_5_152 q_p_16 q_1_9 q_5_153 (by decide +kernel) rfl ⟨Nat.le_of_ble_eq_true rfl, Nat.le_of_ble_eq_true rfl⟩ (st0 := [.int l1, .ref (e_ad G l0)]) (st1 := [.int (e_b v1)]) rfl rfl hl.1 (Nat.le_of_ble_eq_true rfl) dX9_genus_2 ⟨Nat.le_refl _, Nat.le_refl _⟩ (fun H locs J => ?_)
  refine lv_if_ne (tgt := 11) hx hb dX9_genus_5 (by decide) (fun hc => ?_) (fun hc => ?_)
  · have hM := e_in hc hM
    refine lv_aload_n hx hb dX9_genus_11 rfl (lv_at hl 0 rfl) ?_
    refine lv_iload_n hx hb dX9_genus_12 rfl (lv_at hl 1 rfl) ?_
    obtain ⟨p2, hv, hM⟩ := e_bs hM
    obtain ⟨fs_, hk, -⟩ := e_bs hv
    refine e_callV (ci := 9) (As := [.int l1]) (rest := []) (n := 1) E J hk rfl (mX9_findTerms (l := l) (G := G) l0 l1 h _ hv) q_5_202 q_5_204 q_p_24 q_1_9 q_5_205 (by decide +kernel) rfl ⟨Nat.le_of_ble_eq_true rfl, Nat.le_of_ble_eq_true rfl⟩ (st0 := [.int l1, .ref (e_ad G l0)]) (st1 := [.int p2.1]) rfl rfl hl.1 (Nat.le_of_ble_eq_true rfl) dX9_genus_13 ⟨Nat.le_refl _, Nat.le_refl _⟩ (fun H locs J => ?_)
    refine lv_istore_n (lv' := [(2, .int p2.1), (0, .ref (e_ad G l0)), (1, .int l1)]) hx hb dX9_genus_16 rfl hl (by decide) rfl (fun ls hl => ?_)
    refine lv_aload_n hx hb dX9_genus_17 rfl (lv_at hl 1 rfl) ?_
    obtain ⟨v3, hv, hM⟩ := e_bs hM
    obtain ⟨fs_, hk, -⟩ := e_bs hv
    refine e_callV (ci := 9) (As := []) (rest := []) (n := 0) E J hk rfl (mX9_degreeNow (l := l) (G := G) l0 p2.2 _ hv) q_5_206 q_5_208 q_p_25 q_1_9 q_5_209 (by decide +kernel) rfl ⟨Nat.le_of_ble_eq_true rfl, Nat.le_of_ble_eq_true rfl⟩ (st0 := [.ref (e_ad G l0)]) (st1 := [.int v3]) rfl rfl hl.1 (Nat.le_of_ble_eq_true rfl) dX9_genus_18 ⟨Nat.le_refl _, Nat.le_refl _⟩ (fun H locs J => ?_)
    refine lv_istore_n (lv' := [(3, .int v3), (2, .int p2.1), (0, .ref (e_ad G l0)), (1, .int l1)]) hx hb dX9_genus_21 rfl hl (by decide) rfl (fun ls hl => ?_)
    refine lv_iload_n hx hb dX9_genus_22 rfl (lv_at hl 0 rfl) ?_
    refine lv_if_ge (tgt := 29) hx hb dX9_genus_23 (by decide) (fun hc => ?_) (fun hc => ?_)
    · have hM := e_ip hc hM
      refine lv_iload_n hx hb dX9_genus_29 rfl (lv_at hl 0 rfl) ?_
      refine lv_iconst (v := nI 1) hx hb dX9_genus_30 (by decide) ?_
      refine lv_isub hx hb dX9_genus_31 ?_
      refine lv_iload_n hx hb dX9_genus_32 rfl (lv_at hl 0 rfl) ?_
      refine lv_iconst (v := nI 2) hx hb dX9_genus_33 (by decide) ?_
      refine lv_isub hx hb dX9_genus_34 ?_
      refine lv_imul hx hb dX9_genus_35 ?_
      refine lv_iconst (v := nI 2) hx hb dX9_genus_36 (by decide) ?_
      refine lv_idiv hx hb dX9_genus_37 (by decide) ?_
      refine lv_istore (lv' := [(4, .int (((v3 - (nI 1)) * (v3 - (nI 2))) / (nI 2))), (3, .int v3), (2, .int p2.1), (0, .ref (e_ad G l0)), (1, .int l1)]) hx hb dX9_genus_38 hl (by decide) rfl (fun ls hl => ?_)
      refine lv_iconst (v := nI 0) hx hb dX9_genus_40 (by decide) ?_
      refine lv_istore (lv' := [(5, .int (nI 0)), (4, .int (((v3 - (nI 1)) * (v3 - (nI 2))) / (nI 2))), (3, .int v3), (2, .int p2.1), (0, .ref (e_ad G l0)), (1, .int l1)]) hx hb dX9_genus_41 hl (by decide) rfl (fun ls hl => ?_)
      exact mX9_genus_L43 E 200 l0 (((v3 - (nI 1)) * (v3 - (nI 2))) / (nI 2)) (nI 0) p2.2 hM J (lv_sub hl [4, 1, 0] rfl)
    · have hM := e_in hc hM
      refine lv_ldc (v := -1000000002) hx hb hown (hts _ q_6_49) dX9_genus_26 ?_
      obtain rfl := e_so hM
      exact e_iret E J dX9_genus_28
  · have hM := e_ip hc hM
    refine lv_ldc (v := -1000000001) hx hb hown (hts _ q_5_140) dX9_genus_8 ?_
    obtain rfl := e_so hM
    exact e_iret E J dX9_genus_10
set_option maxRecDepth 100000 in
set_option maxHeartbeats 4000000 in
theorem mX9_both_b141 {p : Program} {l : Launch} {e : Env} {s : State} {m : MethodId} {args : Array Value} {below : List Frame} {meth : Method} {c : Code} {G : e_G} {res : (Int32 × e_H)} {k91 : Nat → Int32 → Int32 → e_H → Option (Int32 × e_H)} (E : e_M G p s args m meth c cX9_both 6 (some FieldType.int) RX9) (K91 : ∀ (l0 : Nat) (l4 : Int32) (l5 : Int32) (h : e_H), k91 l0 l4 l5 h = some res → ∀ (H : Heap) (locs : List Loc), e_J G s h H locs → ∀ (ls : Array Slot), lv_has ls 6 [(0, .ref (e_ad G l0)), (4, .int l4), (5, .int l5)] → W p l e (e_rm 5 119) s m args below meth c H locs 0 0 (MQ below (e_Q G res.2 (some (.int res.1))) args s 0 0 (e_A G)) (F0 m 91 ls [])) (l0 : Nat) (l5 : Int32) (t0 : Int32) (t1 : Int32) (h : e_H) (hM : fX9_both_b141 k91 l0 l5 t0 t1 h = some res) {H : Heap} {locs : List Loc} (J : e_J G s h H locs) {ls : Array Slot} (hl : lv_has ls 6 [(0, .ref (e_ad G l0)), (5, .int l5)]) : W p l e (e_rm 5 119) s m args below meth c H locs 0 0 (MQ below (e_Q G res.2 (some (.int res.1))) args s 0 0 (e_A G)) (F0 m 141 ls [.int t0, .int t1]) := by
  obtain ⟨hx, hb, hr, hml, hown, hts, hlocks, hES, hbs⟩ := id E
  unfold fX9_both_b141 at hM
  refine lv_iadd hx hb dX9_both_141 ?_
  refine lv_istore (lv' := [(4, .int (t1 + t0)), (0, .ref (e_ad G l0)), (5, .int l5)]) hx hb dX9_both_142 hl (by decide) rfl (fun ls hl => ?_)
  refine lv_iinc (v := (l5 + (nI 1))) (lv' := [(5, .int (l5 + (nI 1))), (4, .int (t1 + t0)), (0, .ref (e_ad G l0))]) hx hb dX9_both_144 hl (k := 2) rfl rfl (by decide) rfl (fun ls hl => ?_)
  refine lv_goto (tgt := 91) hx hb dX9_both_147 (by decide) ?_
  exact K91 l0 (t1 + t0) (l5 + (nI 1)) h hM _ _ J _ (lv_sub hl [2, 1, 0] rfl)
set_option maxRecDepth 100000 in
set_option maxHeartbeats 4000000 in
theorem mX9_both_b140 {p : Program} {l : Launch} {e : Env} {s : State} {m : MethodId} {args : Array Value} {below : List Frame} {meth : Method} {c : Code} {G : e_G} {res : (Int32 × e_H)} {k91 : Nat → Int32 → Int32 → e_H → Option (Int32 × e_H)} (E : e_M G p s args m meth c cX9_both 6 (some FieldType.int) RX9) (K91 : ∀ (l0 : Nat) (l4 : Int32) (l5 : Int32) (h : e_H), k91 l0 l4 l5 h = some res → ∀ (H : Heap) (locs : List Loc), e_J G s h H locs → ∀ (ls : Array Slot), lv_has ls 6 [(0, .ref (e_ad G l0)), (4, .int l4), (5, .int l5)] → W p l e (e_rm 5 119) s m args below meth c H locs 0 0 (MQ below (e_Q G res.2 (some (.int res.1))) args s 0 0 (e_A G)) (F0 m 91 ls [])) (l0 : Nat) (l5 : Int32) (t0 : Int32) (h : e_H) (hM : fX9_both_b140 k91 l0 l5 t0 h = some res) {H : Heap} {locs : List Loc} (J : e_J G s h H locs) {ls : Array Slot} (hl : lv_has ls 6 [(0, .ref (e_ad G l0)), (5, .int l5)]) : W p l e (e_rm 5 119) s m args below meth c H locs 0 0 (MQ below (e_Q G res.2 (some (.int res.1))) args s 0 0 (e_A G)) (F0 m 140 ls [.int t0]) := by
  obtain ⟨hx, hb, hr, hml, hown, hts, hlocks, hES, hbs⟩ := id E
  unfold fX9_both_b140 at hM
  refine lv_iconst (v := nI 0) hx hb dX9_both_140 (by decide) ?_
  exact mX9_both_b141 E K91 l0 l5 (nI 0) t0 h hM J (lv_sub hl [0, 1] rfl)
set_option maxRecDepth 100000 in
set_option maxHeartbeats 4000000 in
theorem mX9_both_b91 {p : Program} {l : Launch} {e : Env} {s : State} {m : MethodId} {args : Array Value} {below : List Frame} {meth : Method} {c : Code} {G : e_G} {res : (Int32 × e_H)} {k91 : Nat → Int32 → Int32 → e_H → Option (Int32 × e_H)} (E : e_M G p s args m meth c cX9_both 6 (some FieldType.int) RX9) (K91 : ∀ (l0 : Nat) (l4 : Int32) (l5 : Int32) (h : e_H), k91 l0 l4 l5 h = some res → ∀ (H : Heap) (locs : List Loc), e_J G s h H locs → ∀ (ls : Array Slot), lv_has ls 6 [(0, .ref (e_ad G l0)), (4, .int l4), (5, .int l5)] → W p l e (e_rm 5 119) s m args below meth c H locs 0 0 (MQ below (e_Q G res.2 (some (.int res.1))) args s 0 0 (e_A G)) (F0 m 91 ls [])) (l0 : Nat) (l4 : Int32) (l5 : Int32) (h : e_H) (hM : fX9_both_b91 k91 l0 l4 l5 h = some res) {H : Heap} {locs : List Loc} (J : e_J G s h H locs) {ls : Array Slot} (hl : lv_has ls 6 [(0, .ref (e_ad G l0)), (4, .int l4), (5, .int l5)]) : W p l e (e_rm 5 119) s m args below meth c H locs 0 0 (MQ below (e_Q G res.2 (some (.int res.1))) args s 0 0 (e_A G)) (F0 m 91 ls []) := by
  obtain ⟨hx, hb, hr, hml, hown, hts, hlocks, hES, hbs⟩ := id E
  unfold fX9_both_b91 at hM
  refine lv_iload hx hb dX9_both_91 (lv_at hl 2 rfl) ?_
  refine lv_bipush (v := nI 121) hx hb dX9_both_93 (by decide) ?_
  refine lv_icmp_ge (tgt := 150) hx hb dX9_both_95 (by decide) (fun hc => ?_) (fun hc => ?_)
  · have hM := e_ip hc hM
    refine lv_iload hx hb dX9_both_150 (lv_at hl 1 rfl) ?_
    obtain rfl := e_so hM
    exact e_iret E J dX9_both_152
  · have hM := e_in hc hM
    refine lv_aload_n hx hb dX9_both_98 rfl (lv_at hl 0 rfl) ?_
    refine lv_iload hx hb dX9_both_99 (lv_at hl 2 rfl) ?_
    refine lv_bipush (v := nI 11) hx hb dX9_both_101 (by decide) ?_
    refine lv_idiv hx hb dX9_both_103 (by decide) ?_
    refine lv_iconst (v := nI 5) hx hb dX9_both_104 (by decide) ?_
    refine lv_isub hx hb dX9_both_105 ?_
    refine lv_iload hx hb dX9_both_106 (lv_at hl 2 rfl) ?_
    refine lv_bipush (v := nI 11) hx hb dX9_both_108 (by decide) ?_
    refine lv_irem hx hb dX9_both_110 (by decide) ?_
    refine lv_iconst (v := nI 5) hx hb dX9_both_111 (by decide) ?_
    refine lv_isub hx hb dX9_both_112 ?_
    obtain ⟨h1, hv, hM⟩ := e_bs hM
    obtain ⟨fs_, hk, -⟩ := e_bs hv
    refine e_callV (ci := 9) (As := [.int ((l5 / (nI 11)) - (nI 5)), .int ((l5 - l5 / (nI 11) * (nI 11)) - (nI 5))]) (rest := []) (n := 2) E J hk rfl (mX9_findShape (l := l) (G := G) l0 ((l5 / (nI 11)) - (nI 5)) ((l5 - l5 / (nI 11) * (nI 11)) - (nI 5)) h _ hv) q_6_18 q_6_20 q_p_28 q_1_9 q_6_21 (by decide +kernel) rfl ⟨Nat.le_of_ble_eq_true rfl, Nat.le_of_ble_eq_true rfl⟩ (st0 := [.int ((l5 - l5 / (nI 11) * (nI 11)) - (nI 5)), .int ((l5 / (nI 11)) - (nI 5)), .ref (e_ad G l0)]) (st1 := []) rfl rfl hl.1 (Nat.le_of_ble_eq_true rfl) dX9_both_113 ⟨Nat.le_refl _, Nat.le_refl _⟩ (fun H locs J => ?_)
    refine lv_iload hx hb dX9_both_116 (lv_at hl 1 rfl) ?_
    refine lv_aload_n hx hb dX9_both_118 rfl (lv_at hl 0 rfl) ?_
    obtain ⟨v2, hv, hM⟩ := e_bs hM
    refine e_getR (C := RX9) (T := TX9) (N := 40) E J hv rfl inX9 (by decide) q_5_21 dX9_both_119 ?_
    rcases v2 with _ | a3
    · have hM := e_on0 hM
      refine W.eq (g2 := F0 m 122 ls [.null, .int l4]) rfl ?_
      refine lv_iload hx hb dX9_both_122 (lv_at hl 2 rfl) ?_
      exact e_no hM
    · have hM := e_on1 hM
      refine W.eq (g2 := F0 m 122 ls [.ref (e_ad G a3), .int l4]) rfl ?_
      refine lv_iload hx hb dX9_both_122 (lv_at hl 2 rfl) ?_
      obtain ⟨v4, hv, hM⟩ := e_bs hM
      refine e_zald E J hv dX9_both_124 ?_
      refine lv_if_eq (tgt := 140) hx hb dX9_both_125 (by decide) (fun hc => ?_) (fun hc => ?_)
      · have hM := e_ip hc hM
        exact mX9_both_b140 E K91 l0 l5 l4 h1 hM J (lv_sub hl [0, 2] rfl)
      · have hM := e_in hc hM
        refine lv_aload_n hx hb dX9_both_128 rfl (lv_at hl 0 rfl) ?_
        refine lv_iconst (v := nI 0) hx hb dX9_both_129 (by decide) ?_
        obtain ⟨v5, hv, hM⟩ := e_bs hM
        obtain ⟨fs_, hk, -⟩ := e_bs hv
        refine e_callV (ci := 9) (As := [.int (nI 0)]) (rest := [.int l4]) (n := 1) E J hk rfl (mX9_timesOf (l := l) (G := G) l0 (nI 0) h1 _ hv) q_6_25 q_6_27 q_p_29 q_1_9 q_6_28 (by decide +kernel) rfl ⟨Nat.le_of_ble_eq_true rfl, Nat.le_of_ble_eq_true rfl⟩ (st0 := [.int (nI 0), .ref (e_ad G l0), .int l4]) (st1 := [.int v5, .int l4]) rfl rfl hl.1 (Nat.le_of_ble_eq_true rfl) dX9_both_130 ⟨Nat.le_refl _, Nat.le_refl _⟩ (fun H locs J => ?_)
        refine lv_if_le (tgt := 140) hx hb dX9_both_133 (by decide) (fun hc => ?_) (fun hc => ?_)
        · have hM := e_ip hc hM
          exact mX9_both_b140 E K91 l0 l5 l4 h1 hM J (lv_sub hl [0, 2] rfl)
        · have hM := e_in hc hM
          refine lv_iconst (v := nI 1) hx hb dX9_both_136 (by decide) ?_
          refine lv_goto (tgt := 141) hx hb dX9_both_137 (by decide) ?_
          exact mX9_both_b141 E K91 l0 l5 (nI 1) l4 h1 hM J (lv_sub hl [0, 2] rfl)
set_option maxRecDepth 100000 in
set_option maxHeartbeats 4000000 in
theorem mX9_Loth_L91 {p : Program} {l : Launch} {e : Env} {s : State} {m : MethodId} {args : Array Value} {below : List Frame} {meth : Method} {c : Code} {G : e_G} {res : (Int32 × e_H)} (E : e_M G p s args m meth c cX9_both 6 (some FieldType.int) RX9) (n : Nat) (l0 : Nat) (l4 : Int32) (l5 : Int32) (h : e_H) (hM : fX9_Loth_L91 n l0 l4 l5 h = some res) {H : Heap} {locs : List Loc} (J : e_J G s h H locs) {ls : Array Slot} (hl : lv_has ls 6 [(0, .ref (e_ad G l0)), (4, .int l4), (5, .int l5)]) : W p l e (e_rm 5 119) s m args below meth c H locs 0 0 (MQ below (e_Q G res.2 (some (.int res.1))) args s 0 0 (e_A G)) (F0 m 91 ls []) := by
  induction n generalizing l0 l4 l5 h H locs ls with
  | zero => exact e_no hM
  | succ n ih => exact mX9_both_b91 (k91 := (fX9_Loth_L91 n)) E   (fun l0 l4 l5 h hM H locs J ls hl => ih l0 l4 l5 h hM J hl) l0 l4 l5 h hM J hl
set_option maxRecDepth 100000 in
set_option maxHeartbeats 4000000 in
theorem mX9_both_b72 {p : Program} {l : Launch} {e : Env} {s : State} {m : MethodId} {args : Array Value} {below : List Frame} {meth : Method} {c : Code} {G : e_G} {res : (Int32 × e_H)} {k28 : Nat → Int32 → Int32 → e_H → Option (Int32 × e_H)} (E : e_M G p s args m meth c cX9_both 6 (some FieldType.int) RX9) (K28 : ∀ (l0 : Nat) (l2 : Int32) (l4 : Int32) (h : e_H), k28 l0 l2 l4 h = some res → ∀ (H : Heap) (locs : List Loc), e_J G s h H locs → ∀ (ls : Array Slot), lv_has ls 6 [(0, .ref (e_ad G l0)), (2, .int l2), (4, .int l4)] → W p l e (e_rm 5 119) s m args below meth c H locs 0 0 (MQ below (e_Q G res.2 (some (.int res.1))) args s 0 0 (e_A G)) (F0 m 28 ls [])) (l0 : Nat) (l2 : Int32) (l4 : Int32) (t0 : Int32) (t1 : Int32) (h : e_H) (hM : fX9_both_b72 k28 l0 l2 l4 t0 t1 h = some res) {H : Heap} {locs : List Loc} (J : e_J G s h H locs) {ls : Array Slot} (hl : lv_has ls 6 [(0, .ref (e_ad G l0)), (2, .int l2), (4, .int l4)]) : W p l e (e_rm 5 119) s m args below meth c H locs 0 0 (MQ below (e_Q G res.2 (some (.int res.1))) args s 0 0 (e_A G)) (F0 m 72 ls [.int t0, .int t1, .null]) := by
  obtain ⟨hx, hb, hr, hml, hown, hts, hlocks, hES, hbs⟩ := id E
  unfold fX9_both_b72 at hM
  exact e_no hM
set_option maxRecDepth 100000 in
set_option maxHeartbeats 4000000 in
theorem mX9_both_b72x1 {p : Program} {l : Launch} {e : Env} {s : State} {m : MethodId} {args : Array Value} {below : List Frame} {meth : Method} {c : Code} {G : e_G} {res : (Int32 × e_H)} {k28 : Nat → Int32 → Int32 → e_H → Option (Int32 × e_H)} (E : e_M G p s args m meth c cX9_both 6 (some FieldType.int) RX9) (K28 : ∀ (l0 : Nat) (l2 : Int32) (l4 : Int32) (h : e_H), k28 l0 l2 l4 h = some res → ∀ (H : Heap) (locs : List Loc), e_J G s h H locs → ∀ (ls : Array Slot), lv_has ls 6 [(0, .ref (e_ad G l0)), (2, .int l2), (4, .int l4)] → W p l e (e_rm 5 119) s m args below meth c H locs 0 0 (MQ below (e_Q G res.2 (some (.int res.1))) args s 0 0 (e_A G)) (F0 m 28 ls [])) (l0 : Nat) (l2 : Int32) (l4 : Int32) (t0 : Int32) (t1 : Int32) (t2 : Nat) (h : e_H) (hM : fX9_both_b72x1 k28 l0 l2 l4 t0 t1 t2 h = some res) {H : Heap} {locs : List Loc} (J : e_J G s h H locs) {ls : Array Slot} (hl : lv_has ls 6 [(0, .ref (e_ad G l0)), (2, .int l2), (4, .int l4)]) : W p l e (e_rm 5 119) s m args below meth c H locs 0 0 (MQ below (e_Q G res.2 (some (.int res.1))) args s 0 0 (e_A G)) (F0 m 72 ls [.int t0, .int t1, .ref (e_ad G t2)]) := by
  obtain ⟨hx, hb, hr, hml, hown, hts, hlocks, hES, hbs⟩ := id E
  unfold fX9_both_b72x1 at hM
  obtain ⟨h1, hv, hM⟩ := e_bs hM
  refine e_zast E J hv dX9_both_72 (fun H locs J => ?_)
  refine lv_iinc (v := (l4 + (nI 1))) (lv' := [(4, .int (l4 + (nI 1))), (0, .ref (e_ad G l0)), (2, .int l2)]) hx hb dX9_both_73 hl (k := 2) rfl rfl (by decide) rfl (fun ls hl => ?_)
  refine lv_goto (tgt := 28) hx hb dX9_both_76 (by decide) ?_
  exact K28 l0 l2 (l4 + (nI 1)) h1 hM _ _ J _ (lv_sub hl [1, 2, 0] rfl)
set_option maxRecDepth 100000 in
set_option maxHeartbeats 4000000 in
theorem mX9_both_b28 {p : Program} {l : Launch} {e : Env} {s : State} {m : MethodId} {args : Array Value} {below : List Frame} {meth : Method} {c : Code} {G : e_G} {res : (Int32 × e_H)} {k28 : Nat → Int32 → Int32 → e_H → Option (Int32 × e_H)} (E : e_M G p s args m meth c cX9_both 6 (some FieldType.int) RX9) (K28 : ∀ (l0 : Nat) (l2 : Int32) (l4 : Int32) (h : e_H), k28 l0 l2 l4 h = some res → ∀ (H : Heap) (locs : List Loc), e_J G s h H locs → ∀ (ls : Array Slot), lv_has ls 6 [(0, .ref (e_ad G l0)), (2, .int l2), (4, .int l4)] → W p l e (e_rm 5 119) s m args below meth c H locs 0 0 (MQ below (e_Q G res.2 (some (.int res.1))) args s 0 0 (e_A G)) (F0 m 28 ls [])) (l0 : Nat) (l2 : Int32) (l4 : Int32) (h : e_H) (hM : fX9_both_b28 k28 l0 l2 l4 h = some res) {H : Heap} {locs : List Loc} (J : e_J G s h H locs) {ls : Array Slot} (hl : lv_has ls 6 [(0, .ref (e_ad G l0)), (2, .int l2), (4, .int l4)]) : W p l e (e_rm 5 119) s m args below meth c H locs 0 0 (MQ below (e_Q G res.2 (some (.int res.1))) args s 0 0 (e_A G)) (F0 m 28 ls []) := by
  obtain ⟨hx, hb, hr, hml, hown, hts, hlocks, hES, hbs⟩ := id E
  unfold fX9_both_b28 at hM
  refine lv_iload hx hb dX9_both_28 (lv_at hl 2 rfl) ?_
  refine lv_bipush (v := nI 121) hx hb dX9_both_30 (by decide) ?_
  refine lv_icmp_ge (tgt := 79) hx hb dX9_both_32 (by decide) (fun hc => ?_) (fun hc => ?_)
  · have hM := e_ip hc hM
    refine lv_aload_n hx hb dX9_both_79 rfl (lv_at hl 0 rfl) ?_
    refine lv_iload_n hx hb dX9_both_80 rfl (lv_at hl 1 rfl) ?_
    obtain ⟨p1, hv, hM⟩ := e_bs hM
    obtain ⟨fs_, hk, -⟩ := e_bs hv
    refine e_callV (ci := 9) (As := [.int l2]) (rest := []) (n := 1) E J hk rfl (mX9_findTerms (l := l) (G := G) l0 l2 h _ hv) q_5_202 q_5_204 q_p_24 q_1_9 q_5_205 (by decide +kernel) rfl ⟨Nat.le_of_ble_eq_true rfl, Nat.le_of_ble_eq_true rfl⟩ (st0 := [.int l2, .ref (e_ad G l0)]) (st1 := [.int p1.1]) rfl rfl hl.1 (Nat.le_of_ble_eq_true rfl) dX9_both_81 ⟨Nat.le_refl _, Nat.le_refl _⟩ (fun H locs J => ?_)
    refine lv_istore_n (lv' := [(3, .int p1.1), (0, .ref (e_ad G l0)), (2, .int l2), (4, .int l4)]) hx hb dX9_both_84 rfl hl (by decide) rfl (fun ls hl => ?_)
    refine lv_iconst (v := nI 0) hx hb dX9_both_85 (by decide) ?_
    refine lv_istore (lv' := [(4, .int (nI 0)), (3, .int p1.1), (0, .ref (e_ad G l0)), (2, .int l2)]) hx hb dX9_both_86 hl (by decide) rfl (fun ls hl => ?_)
    refine lv_iconst (v := nI 0) hx hb dX9_both_88 (by decide) ?_
    refine lv_istore (lv' := [(5, .int (nI 0)), (4, .int (nI 0)), (3, .int p1.1), (0, .ref (e_ad G l0)), (2, .int l2)]) hx hb dX9_both_89 hl (by decide) rfl (fun ls hl => ?_)
    exact mX9_Loth_L91 E 200 l0 (nI 0) (nI 0) p1.2 hM J (lv_sub hl [3, 1, 0] rfl)
  · have hM := e_in hc hM
    refine lv_aload_n hx hb dX9_both_35 rfl (lv_at hl 0 rfl) ?_
    refine lv_iload hx hb dX9_both_36 (lv_at hl 2 rfl) ?_
    refine lv_bipush (v := nI 11) hx hb dX9_both_38 (by decide) ?_
    refine lv_idiv hx hb dX9_both_40 (by decide) ?_
    refine lv_iconst (v := nI 5) hx hb dX9_both_41 (by decide) ?_
    refine lv_isub hx hb dX9_both_42 ?_
    refine lv_iload hx hb dX9_both_43 (lv_at hl 2 rfl) ?_
    refine lv_bipush (v := nI 11) hx hb dX9_both_45 (by decide) ?_
    refine lv_irem hx hb dX9_both_47 (by decide) ?_
    refine lv_iconst (v := nI 5) hx hb dX9_both_48 (by decide) ?_
    refine lv_isub hx hb dX9_both_49 ?_
    obtain ⟨h2, hv, hM⟩ := e_bs hM
    obtain ⟨fs_, hk, -⟩ := e_bs hv
    refine e_callV (ci := 9) (As := [.int ((l4 / (nI 11)) - (nI 5)), .int ((l4 - l4 / (nI 11) * (nI 11)) - (nI 5))]) (rest := []) (n := 2) E J hk rfl (mX9_findShape (l := l) (G := G) l0 ((l4 / (nI 11)) - (nI 5)) ((l4 - l4 / (nI 11) * (nI 11)) - (nI 5)) h _ hv) q_6_18 q_6_20 q_p_28 q_1_9 q_6_21 (by decide +kernel) rfl ⟨Nat.le_of_ble_eq_true rfl, Nat.le_of_ble_eq_true rfl⟩ (st0 := [.int ((l4 - l4 / (nI 11) * (nI 11)) - (nI 5)), .int ((l4 / (nI 11)) - (nI 5)), .ref (e_ad G l0)]) (st1 := []) rfl rfl hl.1 (Nat.le_of_ble_eq_true rfl) dX9_both_50 ⟨Nat.le_refl _, Nat.le_refl _⟩ (fun H locs J => ?_)
    refine lv_aload_n hx hb dX9_both_53 rfl (lv_at hl 0 rfl) ?_
    obtain ⟨v3, hv, hM⟩ := e_bs hM
    refine e_getR (C := RX9) (T := TX9) (N := 40) E J hv rfl inX9 (by decide) q_5_21 dX9_both_54 ?_
    rcases v3 with _ | a4
    · have hM := e_on0 hM
      refine W.eq (g2 := F0 m 57 ls [.null]) rfl ?_
      refine lv_iload hx hb dX9_both_57 (lv_at hl 2 rfl) ?_
      refine lv_aload_n hx hb dX9_both_59 rfl (lv_at hl 0 rfl) ?_
      refine lv_iconst (v := nI 0) hx hb dX9_both_60 (by decide) ?_
      obtain ⟨v5, hv, hM⟩ := e_bs hM
      obtain ⟨fs_, hk, -⟩ := e_bs hv
      refine e_callV (ci := 9) (As := [.int (nI 0)]) (rest := [.int l4, .null]) (n := 1) E J hk rfl (mX9_timesOf (l := l) (G := G) l0 (nI 0) h2 _ hv) q_6_25 q_6_27 q_p_29 q_1_9 q_6_28 (by decide +kernel) rfl ⟨Nat.le_of_ble_eq_true rfl, Nat.le_of_ble_eq_true rfl⟩ (st0 := [.int (nI 0), .ref (e_ad G l0), .int l4, .null]) (st1 := [.int v5, .int l4, .null]) rfl rfl hl.1 (Nat.le_of_ble_eq_true rfl) dX9_both_61 ⟨Nat.le_refl _, Nat.le_refl _⟩ (fun H locs J => ?_)
      refine lv_if_le (tgt := 71) hx hb dX9_both_64 (by decide) (fun hc => ?_) (fun hc => ?_)
      · have hM := e_ip hc hM
        refine lv_iconst (v := nI 0) hx hb dX9_both_71 (by decide) ?_
        exact mX9_both_b72 E K28 l0 l2 l4 (nI 0) l4 h2 hM J (lv_sub hl [0, 1, 2] rfl)
      · have hM := e_in hc hM
        refine lv_iconst (v := nI 1) hx hb dX9_both_67 (by decide) ?_
        refine lv_goto (tgt := 72) hx hb dX9_both_68 (by decide) ?_
        exact mX9_both_b72 E K28 l0 l2 l4 (nI 1) l4 h2 hM J (lv_sub hl [0, 1, 2] rfl)
    · have hM := e_on1 hM
      refine W.eq (g2 := F0 m 57 ls [.ref (e_ad G a4)]) rfl ?_
      refine lv_iload hx hb dX9_both_57 (lv_at hl 2 rfl) ?_
      refine lv_aload_n hx hb dX9_both_59 rfl (lv_at hl 0 rfl) ?_
      refine lv_iconst (v := nI 0) hx hb dX9_both_60 (by decide) ?_
      obtain ⟨v6, hv, hM⟩ := e_bs hM
      obtain ⟨fs_, hk, -⟩ := e_bs hv
      refine e_callV (ci := 9) (As := [.int (nI 0)]) (rest := [.int l4, .ref (e_ad G a4)]) (n := 1) E J hk rfl (mX9_timesOf (l := l) (G := G) l0 (nI 0) h2 _ hv) q_6_25 q_6_27 q_p_29 q_1_9 q_6_28 (by decide +kernel) rfl ⟨Nat.le_of_ble_eq_true rfl, Nat.le_of_ble_eq_true rfl⟩ (st0 := [.int (nI 0), .ref (e_ad G l0), .int l4, .ref (e_ad G a4)]) (st1 := [.int v6, .int l4, .ref (e_ad G a4)]) rfl rfl hl.1 (Nat.le_of_ble_eq_true rfl) dX9_both_61 ⟨Nat.le_refl _, Nat.le_refl _⟩ (fun H locs J => ?_)
      refine lv_if_le (tgt := 71) hx hb dX9_both_64 (by decide) (fun hc => ?_) (fun hc => ?_)
      · have hM := e_ip hc hM
        refine lv_iconst (v := nI 0) hx hb dX9_both_71 (by decide) ?_
        exact mX9_both_b72x1 E K28 l0 l2 l4 (nI 0) l4 a4 h2 hM J (lv_sub hl [0, 1, 2] rfl)
      · have hM := e_in hc hM
        refine lv_iconst (v := nI 1) hx hb dX9_both_67 (by decide) ?_
        refine lv_goto (tgt := 72) hx hb dX9_both_68 (by decide) ?_
        exact mX9_both_b72x1 E K28 l0 l2 l4 (nI 1) l4 a4 h2 hM J (lv_sub hl [0, 1, 2] rfl)
set_option maxRecDepth 100000 in
set_option maxHeartbeats 4000000 in
theorem mX9_Loth_L28 {p : Program} {l : Launch} {e : Env} {s : State} {m : MethodId} {args : Array Value} {below : List Frame} {meth : Method} {c : Code} {G : e_G} {res : (Int32 × e_H)} (E : e_M G p s args m meth c cX9_both 6 (some FieldType.int) RX9) (n : Nat) (l0 : Nat) (l2 : Int32) (l4 : Int32) (h : e_H) (hM : fX9_Loth_L28 n l0 l2 l4 h = some res) {H : Heap} {locs : List Loc} (J : e_J G s h H locs) {ls : Array Slot} (hl : lv_has ls 6 [(0, .ref (e_ad G l0)), (2, .int l2), (4, .int l4)]) : W p l e (e_rm 5 119) s m args below meth c H locs 0 0 (MQ below (e_Q G res.2 (some (.int res.1))) args s 0 0 (e_A G)) (F0 m 28 ls []) := by
  induction n generalizing l0 l2 l4 h H locs ls with
  | zero => exact e_no hM
  | succ n ih => exact mX9_both_b28 (k28 := (fX9_Loth_L28 n)) E   (fun l0 l2 l4 h hM H locs J ls hl => ih l0 l2 l4 h hM J hl) l0 l2 l4 h hM J hl
set_option maxRecDepth 100000 in
set_option maxHeartbeats 4000000 in
theorem mX9_both {l : Launch} {G : e_G} (l0 : Nat) (l1 : Int32) (l2 : Int32) (h : e_H) (res : (Int32 × e_H)) (hM : fX9_both l0 l1 l2 h = some res) : Met l yX9_both (e_W yX9_both cX9_both 6 (some FieldType.int)) (e_rm 5 119) (e_Pc G h [.ref (e_ad G l0), .int l1, .int l2]) (e_Q G res.2 (some (.int res.1))) 0 0 (e_A G) := by
  refine Met.ofW (cc := cX9_both) (maxL := 6) (ret := (some FieldType.int)) (by decide) rfl ?_
  intro p e s m args below meth c s₁ B hml hv
  obtain ⟨rfl, hS, hP⟩ := hv
  have E := e_enter (own := RX9) (ret := (some FieldType.int)) B hml rfl hS hP
  have J : e_J G s h s.heap [] := ⟨hP, va_S.rf⟩
  have hl := lv_entry ([.ref (e_ad G l0), .int l1, .int l2]) (n := 6) (Nat.le_of_ble_eq_true rfl)
  rw [lg_entry_eq]
  generalize (lg_sl ([.ref (e_ad G l0), .int l1, .int l2]) ++ List.replicate (6 - (lg_sl ([.ref (e_ad G l0), .int l1, .int l2])).length) Slot.unset).toArray = ls at hl ⊢
  have hl : lv_has ls 6 [(0, .ref (e_ad G l0)), (1, .int l1), (2, .int l2)] := hl
  obtain ⟨hx, hb, hr, hml, hown, hts, hlocks, hES, hbs⟩ := id E
  unfold fX9_both at hM
  obtain ⟨fs_, hk_, hM⟩ := e_bs hM
  refine lv_aload_n hx hb dX9_both_0 rfl (lv_at hl 0 rfl) ?_
  refine lv_iload_n hx hb dX9_both_1 rfl (lv_at hl 1 rfl) ?_
  obtain ⟨v1, hv, hM⟩ := e_bs hM
  obtain ⟨fs_, hk, -⟩ := e_bs hv
  refine e_callV (ci := 9) (As := [.int l1]) (rest := []) (n := 1) E J hk rfl (mX9_isCurve (l := l) (G := G) l0 l1 h _ hv) q_5_150 q_5_152 q_p_16 q_1_9 q_5_153 (by decide +kernel) rfl ⟨Nat.le_of_ble_eq_true rfl, Nat.le_of_ble_eq_true rfl⟩ (st0 := [.int l1, .ref (e_ad G l0)]) (st1 := [.int (e_b v1)]) rfl rfl hl.1 (Nat.le_of_ble_eq_true rfl) dX9_both_2 ⟨Nat.le_refl _, Nat.le_refl _⟩ (fun H locs J => ?_)
  refine lv_if_eq (tgt := 16) hx hb dX9_both_5 (by decide) (fun hc => ?_) (fun hc => ?_)
  · have hM := e_ip hc hM
    refine lv_ldc (v := -1000000001) hx hb hown (hts _ q_5_140) dX9_both_16 ?_
    obtain rfl := e_so hM
    exact e_iret E J dX9_both_18
  · have hM := e_in hc hM
    refine lv_aload_n hx hb dX9_both_8 rfl (lv_at hl 0 rfl) ?_
    refine lv_iload_n hx hb dX9_both_9 rfl (lv_at hl 2 rfl) ?_
    obtain ⟨v2, hv, hM⟩ := e_bs hM
    obtain ⟨fs_, hk, -⟩ := e_bs hv
    refine e_callV (ci := 9) (As := [.int l2]) (rest := []) (n := 1) E J hk rfl (mX9_isCurve (l := l) (G := G) l0 l2 h _ hv) q_5_150 q_5_152 q_p_16 q_1_9 q_5_153 (by decide +kernel) rfl ⟨Nat.le_of_ble_eq_true rfl, Nat.le_of_ble_eq_true rfl⟩ (st0 := [.int l2, .ref (e_ad G l0)]) (st1 := [.int (e_b v2)]) rfl rfl hl.1 (Nat.le_of_ble_eq_true rfl) dX9_both_10 ⟨Nat.le_refl _, Nat.le_refl _⟩ (fun H locs J => ?_)
    refine lv_if_ne (tgt := 19) hx hb dX9_both_13 (by decide) (fun hc => ?_) (fun hc => ?_)
    · have hM := e_in hc hM
      refine lv_aload_n hx hb dX9_both_19 rfl (lv_at hl 0 rfl) ?_
      refine lv_iload_n hx hb dX9_both_20 rfl (lv_at hl 1 rfl) ?_
      obtain ⟨p3, hv, hM⟩ := e_bs hM
      obtain ⟨fs_, hk, -⟩ := e_bs hv
      refine e_callV (ci := 9) (As := [.int l1]) (rest := []) (n := 1) E J hk rfl (mX9_findTerms (l := l) (G := G) l0 l1 h _ hv) q_5_202 q_5_204 q_p_24 q_1_9 q_5_205 (by decide +kernel) rfl ⟨Nat.le_of_ble_eq_true rfl, Nat.le_of_ble_eq_true rfl⟩ (st0 := [.int l1, .ref (e_ad G l0)]) (st1 := [.int p3.1]) rfl rfl hl.1 (Nat.le_of_ble_eq_true rfl) dX9_both_21 ⟨Nat.le_refl _, Nat.le_refl _⟩ (fun H locs J => ?_)
      refine lv_istore_n (lv' := [(3, .int p3.1), (0, .ref (e_ad G l0)), (1, .int l1), (2, .int l2)]) hx hb dX9_both_24 rfl hl (by decide) rfl (fun ls hl => ?_)
      refine lv_iconst (v := nI 0) hx hb dX9_both_25 (by decide) ?_
      refine lv_istore (lv' := [(4, .int (nI 0)), (3, .int p3.1), (0, .ref (e_ad G l0)), (1, .int l1), (2, .int l2)]) hx hb dX9_both_26 hl (by decide) rfl (fun ls hl => ?_)
      exact mX9_Loth_L28 E 200 l0 l2 (nI 0) p3.2 hM J (lv_sub hl [2, 4, 0] rfl)
    · have hM := e_ip hc hM
      refine lv_ldc (v := -1000000001) hx hb hown (hts _ q_5_140) dX9_both_16 ?_
      obtain rfl := e_so hM
      exact e_iret E J dX9_both_18
set_option maxRecDepth 100000 in
set_option maxHeartbeats 4000000 in
theorem mX9_feed_b47 {p : Program} {l : Launch} {e : Env} {s : State} {m : MethodId} {args : Array Value} {below : List Frame} {meth : Method} {c : Code} {G : e_G} {res : (Int32 × e_H)} {k18 : Nat → Int32 → Int32 → Int32 → Int32 → e_H → Option (Int32 × e_H)} (E : e_M G p s args m meth c cX9_feed 6 (some FieldType.int) RX9) (K18 : ∀ (l0 : Nat) (l1 : Int32) (l2 : Int32) (l3 : Int32) (l4 : Int32) (h : e_H), k18 l0 l1 l2 l3 l4 h = some res → ∀ (H : Heap) (locs : List Loc), e_J G s h H locs → ∀ (ls : Array Slot), lv_has ls 6 [(0, .ref (e_ad G l0)), (1, .int l1), (2, .int l2), (3, .int l3), (4, .int l4)] → W p l e (e_rm 0 0) s m args below meth c H locs 0 0 (MQ below (e_Q G res.2 (some (.int res.1))) args s 0 0 (e_A G)) (F0 m 18 ls [])) (l0 : Nat) (l1 : Int32) (l2 : Int32) (l3 : Int32) (l4 : Int32) (t0 : Int32) (h : e_H) (hM : fX9_feed_b47 k18 l0 l1 l2 l3 l4 t0 h = some res) {H : Heap} {locs : List Loc} (J : e_J G s h H locs) {ls : Array Slot} (hl : lv_has ls 6 [(0, .ref (e_ad G l0)), (1, .int l1), (2, .int l2), (3, .int l3), (4, .int l4)]) : W p l e (e_rm 0 0) s m args below meth c H locs 0 0 (MQ below (e_Q G res.2 (some (.int res.1))) args s 0 0 (e_A G)) (F0 m 47 ls [.int t0]) := by
  obtain ⟨hx, hb, hr, hml, hown, hts, hlocks, hES, hbs⟩ := id E
  unfold fX9_feed_b47 at hM
  refine lv_istore (lv' := [(5, .int t0), (0, .ref (e_ad G l0)), (1, .int l1), (2, .int l2), (3, .int l3), (4, .int l4)]) hx hb dX9_feed_47 hl (by decide) rfl (fun ls hl => ?_)
  refine lv_aload_n hx hb dX9_feed_49 rfl (lv_at hl 1 rfl) ?_
  obtain ⟨v1, hv, hM⟩ := e_bs hM
  refine e_getR (C := RX9) (T := TX9) (N := 40) E J hv rfl inX9 (by decide) q_5_22 dX9_feed_50 ?_
  rcases v1 with _ | a2
  · have hM := e_on0 hM
    refine W.eq (g2 := F0 m 53 ls [.null]) rfl ?_
    refine lv_aload_n hx hb dX9_feed_53 rfl (lv_at hl 1 rfl) ?_
    obtain ⟨v3, hv, hM⟩ := e_bs hM
    refine e_getI (C := RX9) (T := TX9) (N := 40) E J hv rfl inX9 (by decide) q_5_23 dX9_feed_54 ?_
    refine lv_iload hx hb dX9_feed_57 (lv_at hl 5 rfl) ?_
    refine lv_iadd hx hb dX9_feed_59 ?_
    refine lv_iload hx hb dX9_feed_60 (lv_at hl 0 rfl) ?_
    refine lv_bipush (v := nI 24) hx hb dX9_feed_62 (by decide) ?_
    refine lv_bipush (v := nI 8) hx hb dX9_feed_64 (by decide) ?_
    refine lv_iload hx hb dX9_feed_66 (lv_at hl 5 rfl) ?_
    refine lv_iconst (v := nI 4) hx hb dX9_feed_68 (by decide) ?_
    refine lv_irem hx hb dX9_feed_69 (by decide) ?_
    refine lv_imul hx hb dX9_feed_70 ?_
    refine lv_isub hx hb dX9_feed_71 ?_
    refine lv_ishr hx hb dX9_feed_72 ?_
    refine lv_sipush (v := nI 255) hx hb dX9_feed_73 (by decide) ?_
    refine lv_iand hx hb dX9_feed_76 ?_
    exact e_no hM
  · have hM := e_on1 hM
    refine W.eq (g2 := F0 m 53 ls [.ref (e_ad G a2)]) rfl ?_
    refine lv_aload_n hx hb dX9_feed_53 rfl (lv_at hl 1 rfl) ?_
    obtain ⟨v5, hv, hM⟩ := e_bs hM
    refine e_getI (C := RX9) (T := TX9) (N := 40) E J hv rfl inX9 (by decide) q_5_23 dX9_feed_54 ?_
    refine lv_iload hx hb dX9_feed_57 (lv_at hl 5 rfl) ?_
    refine lv_iadd hx hb dX9_feed_59 ?_
    refine lv_iload hx hb dX9_feed_60 (lv_at hl 0 rfl) ?_
    refine lv_bipush (v := nI 24) hx hb dX9_feed_62 (by decide) ?_
    refine lv_bipush (v := nI 8) hx hb dX9_feed_64 (by decide) ?_
    refine lv_iload hx hb dX9_feed_66 (lv_at hl 5 rfl) ?_
    refine lv_iconst (v := nI 4) hx hb dX9_feed_68 (by decide) ?_
    refine lv_irem hx hb dX9_feed_69 (by decide) ?_
    refine lv_imul hx hb dX9_feed_70 ?_
    refine lv_isub hx hb dX9_feed_71 ?_
    refine lv_ishr hx hb dX9_feed_72 ?_
    refine lv_sipush (v := nI 255) hx hb dX9_feed_73 (by decide) ?_
    refine lv_iand hx hb dX9_feed_76 ?_
    obtain ⟨h6, hv, hM⟩ := e_bs hM
    refine e_iast E J hv dX9_feed_77 (fun H locs J => ?_)
    refine lv_iinc (v := (l4 + (nI 1))) (lv' := [(4, .int (l4 + (nI 1))), (5, .int t0), (0, .ref (e_ad G l0)), (1, .int l1), (2, .int l2), (3, .int l3)]) hx hb dX9_feed_78 hl (k := 5) rfl rfl (by decide) rfl (fun ls hl => ?_)
    refine lv_goto (tgt := 18) hx hb dX9_feed_81 (by decide) ?_
    exact K18 l0 l1 l2 l3 (l4 + (nI 1)) h6 hM _ _ J _ (lv_sub hl [2, 3, 4, 5, 0] rfl)
set_option maxRecDepth 100000 in
set_option maxHeartbeats 4000000 in
theorem mX9_feed_b18 {p : Program} {l : Launch} {e : Env} {s : State} {m : MethodId} {args : Array Value} {below : List Frame} {meth : Method} {c : Code} {G : e_G} {res : (Int32 × e_H)} {k18 : Nat → Int32 → Int32 → Int32 → Int32 → e_H → Option (Int32 × e_H)} (E : e_M G p s args m meth c cX9_feed 6 (some FieldType.int) RX9) (K18 : ∀ (l0 : Nat) (l1 : Int32) (l2 : Int32) (l3 : Int32) (l4 : Int32) (h : e_H), k18 l0 l1 l2 l3 l4 h = some res → ∀ (H : Heap) (locs : List Loc), e_J G s h H locs → ∀ (ls : Array Slot), lv_has ls 6 [(0, .ref (e_ad G l0)), (1, .int l1), (2, .int l2), (3, .int l3), (4, .int l4)] → W p l e (e_rm 0 0) s m args below meth c H locs 0 0 (MQ below (e_Q G res.2 (some (.int res.1))) args s 0 0 (e_A G)) (F0 m 18 ls [])) (l0 : Nat) (l1 : Int32) (l2 : Int32) (l3 : Int32) (l4 : Int32) (h : e_H) (hM : fX9_feed_b18 k18 l0 l1 l2 l3 l4 h = some res) {H : Heap} {locs : List Loc} (J : e_J G s h H locs) {ls : Array Slot} (hl : lv_has ls 6 [(0, .ref (e_ad G l0)), (1, .int l1), (2, .int l2), (3, .int l3), (4, .int l4)]) : W p l e (e_rm 0 0) s m args below meth c H locs 0 0 (MQ below (e_Q G res.2 (some (.int res.1))) args s 0 0 (e_A G)) (F0 m 18 ls []) := by
  obtain ⟨hx, hb, hr, hml, hown, hts, hlocks, hES, hbs⟩ := id E
  unfold fX9_feed_b18 at hM
  refine lv_iload hx hb dX9_feed_18 (lv_at hl 4 rfl) ?_
  refine lv_bipush (v := nI 12) hx hb dX9_feed_20 (by decide) ?_
  refine lv_icmp_ge (tgt := 84) hx hb dX9_feed_22 (by decide) (fun hc => ?_) (fun hc => ?_)
  · have hM := e_ip hc hM
    refine lv_aload_n hx hb dX9_feed_84 rfl (lv_at hl 0 rfl) ?_
    refine lv_dup hx hb dX9_feed_85 rfl ?_
    obtain ⟨v1, hv, hM⟩ := e_bs hM
    refine e_getI (C := RX9) (T := TX9) (N := 40) E J hv rfl inX9 (by decide) q_5_23 dX9_feed_86 ?_
    refine lv_bipush (v := nI 12) hx hb dX9_feed_89 (by decide) ?_
    refine lv_iadd hx hb dX9_feed_91 ?_
    obtain ⟨h2, hv, hM⟩ := e_bs hM
    refine e_putv (C := RX9) (T := TX9) (N := 40) E J hv rfl rfl inX9 tyX9 tyX9_ok nmX9 (by decide) q_5_23 rfl rfl rfl rfl dX9_feed_92 (fun H locs J => ?_)
    refine lv_aload_n hx hb dX9_feed_95 rfl (lv_at hl 0 rfl) ?_
    obtain ⟨v3, hv, hM⟩ := e_bs hM
    refine e_getI (C := RX9) (T := TX9) (N := 40) E J hv rfl inX9 (by decide) q_5_23 dX9_feed_96 ?_
    obtain rfl := e_so hM
    exact e_iret E J dX9_feed_99
  · have hM := e_in hc hM
    refine lv_iload hx hb dX9_feed_25 (lv_at hl 4 rfl) ?_
    refine lv_iconst (v := nI 4) hx hb dX9_feed_27 (by decide) ?_
    refine lv_icmp_ge (tgt := 35) hx hb dX9_feed_28 (by decide) (fun hc => ?_) (fun hc => ?_)
    · have hM := e_ip hc hM
      refine lv_iload hx hb dX9_feed_35 (lv_at hl 4 rfl) ?_
      refine lv_bipush (v := nI 8) hx hb dX9_feed_37 (by decide) ?_
      refine lv_icmp_ge (tgt := 46) hx hb dX9_feed_39 (by decide) (fun hc => ?_) (fun hc => ?_)
      · have hM := e_ip hc hM
        refine lv_iload_n hx hb dX9_feed_46 rfl (lv_at hl 3 rfl) ?_
        exact mX9_feed_b47 E K18 l0 l1 l2 l3 l4 l3 h hM J (lv_sub hl [0, 1, 2, 3, 4] rfl)
      · have hM := e_in hc hM
        refine lv_iload_n hx hb dX9_feed_42 rfl (lv_at hl 2 rfl) ?_
        refine lv_goto (tgt := 47) hx hb dX9_feed_43 (by decide) ?_
        exact mX9_feed_b47 E K18 l0 l1 l2 l3 l4 l2 h hM J (lv_sub hl [0, 1, 2, 3, 4] rfl)
    · have hM := e_in hc hM
      refine lv_iload_n hx hb dX9_feed_31 rfl (lv_at hl 1 rfl) ?_
      refine lv_goto (tgt := 47) hx hb dX9_feed_32 (by decide) ?_
      exact mX9_feed_b47 E K18 l0 l1 l2 l3 l4 l1 h hM J (lv_sub hl [0, 1, 2, 3, 4] rfl)
set_option maxRecDepth 100000 in
set_option maxHeartbeats 4000000 in
theorem mX9_feed_L18 {p : Program} {l : Launch} {e : Env} {s : State} {m : MethodId} {args : Array Value} {below : List Frame} {meth : Method} {c : Code} {G : e_G} {res : (Int32 × e_H)} (E : e_M G p s args m meth c cX9_feed 6 (some FieldType.int) RX9) (n : Nat) (l0 : Nat) (l1 : Int32) (l2 : Int32) (l3 : Int32) (l4 : Int32) (h : e_H) (hM : fX9_feed_L18 n l0 l1 l2 l3 l4 h = some res) {H : Heap} {locs : List Loc} (J : e_J G s h H locs) {ls : Array Slot} (hl : lv_has ls 6 [(0, .ref (e_ad G l0)), (1, .int l1), (2, .int l2), (3, .int l3), (4, .int l4)]) : W p l e (e_rm 0 0) s m args below meth c H locs 0 0 (MQ below (e_Q G res.2 (some (.int res.1))) args s 0 0 (e_A G)) (F0 m 18 ls []) := by
  induction n generalizing l0 l1 l2 l3 l4 h H locs ls with
  | zero => exact e_no hM
  | succ n ih => exact mX9_feed_b18 (k18 := (fX9_feed_L18 n)) E   (fun l0 l1 l2 l3 l4 h hM H locs J ls hl => ih l0 l1 l2 l3 l4 h hM J hl) l0 l1 l2 l3 l4 h hM J hl
set_option maxRecDepth 100000 in
set_option maxHeartbeats 4000000 in
theorem mX9_feed {l : Launch} {G : e_G} (l0 : Nat) (l1 : Int32) (l2 : Int32) (l3 : Int32) (h : e_H) (res : (Int32 × e_H)) (hM : fX9_feed l0 l1 l2 l3 h = some res) : Met l yX9_feed (e_W yX9_feed cX9_feed 6 (some FieldType.int)) (e_rm 0 0) (e_Pc G h [.ref (e_ad G l0), .int l1, .int l2, .int l3]) (e_Q G res.2 (some (.int res.1))) 0 0 (e_A G) := by
  refine Met.ofW (cc := cX9_feed) (maxL := 6) (ret := (some FieldType.int)) (by decide) rfl ?_
  intro p e s m args below meth c s₁ B hml hv
  obtain ⟨rfl, hS, hP⟩ := hv
  have E := e_enter (own := RX9) (ret := (some FieldType.int)) B hml rfl hS hP
  have J : e_J G s h s.heap [] := ⟨hP, va_S.rf⟩
  have hl := lv_entry ([.ref (e_ad G l0), .int l1, .int l2, .int l3]) (n := 6) (Nat.le_of_ble_eq_true rfl)
  rw [lg_entry_eq]
  generalize (lg_sl ([.ref (e_ad G l0), .int l1, .int l2, .int l3]) ++ List.replicate (6 - (lg_sl ([.ref (e_ad G l0), .int l1, .int l2, .int l3])).length) Slot.unset).toArray = ls at hl ⊢
  have hl : lv_has ls 6 [(0, .ref (e_ad G l0)), (1, .int l1), (2, .int l2), (3, .int l3)] := hl
  obtain ⟨hx, hb, hr, hml, hown, hts, hlocks, hES, hbs⟩ := id E
  unfold fX9_feed at hM
  obtain ⟨fs_, hk_, hM⟩ := e_bs hM
  refine lv_aload_n hx hb dX9_feed_0 rfl (lv_at hl 0 rfl) ?_
  obtain ⟨v1, hv, hM⟩ := e_bs hM
  refine e_getI (C := RX9) (T := TX9) (N := 40) E J hv rfl inX9 (by decide) q_5_23 dX9_feed_1 ?_
  refine lv_bipush (v := nI 12) hx hb dX9_feed_4 (by decide) ?_
  refine lv_iadd hx hb dX9_feed_6 ?_
  refine lv_bipush (v := nI 96) hx hb dX9_feed_7 (by decide) ?_
  refine lv_icmp_le (tgt := 15) hx hb dX9_feed_9 (by decide) (fun hc => ?_) (fun hc => ?_)
  · have hM := e_ip hc hM
    refine lv_iconst (v := nI 0) hx hb dX9_feed_15 (by decide) ?_
    refine lv_istore (lv' := [(4, .int (nI 0)), (0, .ref (e_ad G l0)), (1, .int l1), (2, .int l2), (3, .int l3)]) hx hb dX9_feed_16 hl (by decide) rfl (fun ls hl => ?_)
    exact mX9_feed_L18 E 200 l0 l1 l2 l3 (nI 0) h hM J (lv_sub hl [1, 2, 3, 4, 0] rfl)
  · have hM := e_in hc hM
    refine lv_ldc (v := -1000000003) hx hb hown (hts _ q_5_141) dX9_feed_12 ?_
    obtain rfl := e_so hM
    exact e_iret E J dX9_feed_14
set_option maxRecDepth 100000 in
set_option maxHeartbeats 4000000 in
theorem mX9_trim {l : Launch} {G : e_G} (l0 : Nat) (l1 : Int32) (h : e_H) (res : (Int32 × e_H)) (hM : fX9_trim l0 l1 h = some res) : Met l yX9_trim (e_W yX9_trim cX9_trim 2 (some FieldType.int)) (e_rm 1 22) (e_Pc G h [.ref (e_ad G l0), .int l1]) (e_Q G res.2 (some (.int res.1))) 0 0 (e_A G) := by
  refine Met.ofW (cc := cX9_trim) (maxL := 2) (ret := (some FieldType.int)) (by decide) rfl ?_
  intro p e s m args below meth c s₁ B hml hv
  obtain ⟨rfl, hS, hP⟩ := hv
  have E := e_enter (own := RX9) (ret := (some FieldType.int)) B hml rfl hS hP
  have J : e_J G s h s.heap [] := ⟨hP, va_S.rf⟩
  have hl := lv_entry ([.ref (e_ad G l0), .int l1]) (n := 2) (Nat.le_of_ble_eq_true rfl)
  rw [lg_entry_eq]
  generalize (lg_sl ([.ref (e_ad G l0), .int l1]) ++ List.replicate (2 - (lg_sl ([.ref (e_ad G l0), .int l1])).length) Slot.unset).toArray = ls at hl ⊢
  have hl : lv_has ls 2 [(0, .ref (e_ad G l0)), (1, .int l1)] := hl
  obtain ⟨hx, hb, hr, hml, hown, hts, hlocks, hES, hbs⟩ := id E
  unfold fX9_trim at hM
  obtain ⟨fs_, hk_, hM⟩ := e_bs hM
  refine lv_iload_n hx hb dX9_trim_0 rfl (lv_at hl 1 rfl) ?_
  refine lv_iconst (v := nI 0) hx hb dX9_trim_1 (by decide) ?_
  refine lv_aload_n hx hb dX9_trim_2 rfl (lv_at hl 0 rfl) ?_
  obtain ⟨v1, hv, hM⟩ := e_bs hM
  refine e_getI (C := RX9) (T := TX9) (N := 40) E J hv rfl inX9 (by decide) q_5_23 dX9_trim_3 ?_
  obtain ⟨v2, hv, hM⟩ := e_bs hM
  refine e_callS (As := [.int l1, .int (nI 0), .int v1]) (rest := []) (n := 3) E J (mX9_in (l := l) (G := G) l1 (nI 0) v1 h _ hv) q_5_137 q_5_138 q_1_9 q_5_139 (by decide +kernel) rfl ⟨Nat.le_of_ble_eq_true rfl, Nat.le_of_ble_eq_true rfl⟩ (st0 := [.int v1, .int (nI 0), .int l1]) (st1 := [.int (e_b v2)]) rfl rfl hl.1 (Nat.le_of_ble_eq_true rfl) dX9_trim_6 ⟨Nat.le_refl _, Nat.le_refl _⟩ (fun H locs J => ?_)
  refine lv_if_ne (tgt := 15) hx hb dX9_trim_9 (by decide) (fun hc => ?_) (fun hc => ?_)
  · have hM := e_in hc hM
    refine lv_aload_n hx hb dX9_trim_15 rfl (lv_at hl 0 rfl) ?_
    refine lv_iload_n hx hb dX9_trim_16 rfl (lv_at hl 1 rfl) ?_
    obtain ⟨h3, hv, hM⟩ := e_bs hM
    refine e_putv (C := RX9) (T := TX9) (N := 40) E J hv rfl rfl inX9 tyX9 tyX9_ok nmX9 (by decide) q_5_23 rfl rfl rfl rfl dX9_trim_17 (fun H locs J => ?_)
    refine lv_iload_n hx hb dX9_trim_20 rfl (lv_at hl 1 rfl) ?_
    obtain rfl := e_so hM
    exact e_iret E J dX9_trim_21
  · have hM := e_ip hc hM
    refine lv_ldc (v := -1000000001) hx hb hown (hts _ q_5_140) dX9_trim_12 ?_
    obtain rfl := e_so hM
    exact e_iret E J dX9_trim_14
set_option maxRecDepth 100000 in
set_option maxHeartbeats 4000000 in
theorem mX9_isLetter {l : Launch} {G : e_G} (l0 : Nat) (l1 : Int32) (h : e_H) (res : Bool) (hM : fX9_isLetter l0 l1 h = some res) : Met l yX9_isLetter (e_W yX9_isLetter cX9_isLetter 2 (some FieldType.boolean)) (e_rm 0 0) (e_Pc G h [.ref (e_ad G l0), .int l1]) (e_Q G h (some (.int (e_b res)))) 0 0 (e_A G) := by
  refine Met.ofW (cc := cX9_isLetter) (maxL := 2) (ret := (some FieldType.boolean)) (by decide) rfl ?_
  intro p e s m args below meth c s₁ B hml hv
  obtain ⟨rfl, hS, hP⟩ := hv
  have E := e_enter (own := RX9) (ret := (some FieldType.boolean)) B hml rfl hS hP
  have J : e_J G s h s.heap [] := ⟨hP, va_S.rf⟩
  have hl := lv_entry ([.ref (e_ad G l0), .int l1]) (n := 2) (Nat.le_of_ble_eq_true rfl)
  rw [lg_entry_eq]
  generalize (lg_sl ([.ref (e_ad G l0), .int l1]) ++ List.replicate (2 - (lg_sl ([.ref (e_ad G l0), .int l1])).length) Slot.unset).toArray = ls at hl ⊢
  have hl : lv_has ls 2 [(0, .ref (e_ad G l0)), (1, .int l1)] := hl
  obtain ⟨hx, hb, hr, hml, hown, hts, hlocks, hES, hbs⟩ := id E
  unfold fX9_isLetter at hM
  obtain ⟨fs_, hk_, hM⟩ := e_bs hM
  refine lv_iload_n hx hb dX9_isLetter_0 rfl (lv_at hl 1 rfl) ?_
  refine lv_aload_n hx hb dX9_isLetter_1 rfl (lv_at hl 0 rfl) ?_
  obtain ⟨v1, hv, hM⟩ := e_bs hM
  refine e_getI (C := RX9) (T := TX9) (N := 40) E J hv rfl inX9 (by decide) q_5_23 dX9_isLetter_2 ?_
  refine lv_icmp_ge (tgt := 34) hx hb dX9_isLetter_5 (by decide) (fun hc => ?_) (fun hc => ?_)
  · have hM := e_ip hc hM
    refine lv_iconst (v := nI 0) hx hb dX9_isLetter_34 (by decide) ?_
    obtain rfl := e_so hM
    exact e_zret E J (false) rfl dX9_isLetter_35
  · have hM := e_in hc hM
    refine lv_aload_n hx hb dX9_isLetter_8 rfl (lv_at hl 0 rfl) ?_
    obtain ⟨v2, hv, hM⟩ := e_bs hM
    refine e_getR (C := RX9) (T := TX9) (N := 40) E J hv rfl inX9 (by decide) q_5_22 dX9_isLetter_9 ?_
    rcases v2 with _ | a3
    · have hM := e_on0 hM
      refine W.eq (g2 := F0 m 12 ls [.null]) rfl ?_
      refine lv_iload_n hx hb dX9_isLetter_12 rfl (lv_at hl 1 rfl) ?_
      exact e_no hM
    · have hM := e_on1 hM
      refine W.eq (g2 := F0 m 12 ls [.ref (e_ad G a3)]) rfl ?_
      refine lv_iload_n hx hb dX9_isLetter_12 rfl (lv_at hl 1 rfl) ?_
      obtain ⟨v4, hv, hM⟩ := e_bs hM
      refine e_iald E J hv dX9_isLetter_13 ?_
      refine lv_bipush (v := nI 97) hx hb dX9_isLetter_14 (by decide) ?_
      refine lv_icmp_lt (tgt := 34) hx hb dX9_isLetter_16 (by decide) (fun hc => ?_) (fun hc => ?_)
      · have hM := e_ip hc hM
        refine lv_iconst (v := nI 0) hx hb dX9_isLetter_34 (by decide) ?_
        obtain rfl := e_so hM
        exact e_zret E J (false) rfl dX9_isLetter_35
      · have hM := e_in hc hM
        refine lv_aload_n hx hb dX9_isLetter_19 rfl (lv_at hl 0 rfl) ?_
        obtain ⟨v5, hv, hM⟩ := e_bs hM
        refine e_getR (C := RX9) (T := TX9) (N := 40) E J hv rfl inX9 (by decide) q_5_22 dX9_isLetter_20 ?_
        rcases v5 with _ | a6
        · have hM := e_on0 hM
          refine W.eq (g2 := F0 m 23 ls [.null]) rfl ?_
          refine lv_iload_n hx hb dX9_isLetter_23 rfl (lv_at hl 1 rfl) ?_
          exact e_no hM
        · have hM := e_on1 hM
          refine W.eq (g2 := F0 m 23 ls [.ref (e_ad G a6)]) rfl ?_
          refine lv_iload_n hx hb dX9_isLetter_23 rfl (lv_at hl 1 rfl) ?_
          obtain ⟨v7, hv, hM⟩ := e_bs hM
          refine e_iald E J hv dX9_isLetter_24 ?_
          refine lv_bipush (v := nI 122) hx hb dX9_isLetter_25 (by decide) ?_
          refine lv_icmp_gt (tgt := 34) hx hb dX9_isLetter_27 (by decide) (fun hc => ?_) (fun hc => ?_)
          · have hM := e_ip hc hM
            refine lv_iconst (v := nI 0) hx hb dX9_isLetter_34 (by decide) ?_
            obtain rfl := e_so hM
            exact e_zret E J (false) rfl dX9_isLetter_35
          · have hM := e_in hc hM
            refine lv_iconst (v := nI 1) hx hb dX9_isLetter_30 (by decide) ?_
            refine lv_goto (tgt := 35) hx hb dX9_isLetter_31 (by decide) ?_
            obtain rfl := e_so hM
            exact e_zret E J (true) rfl dX9_isLetter_35
set_option maxRecDepth 100000 in
set_option maxHeartbeats 4000000 in
theorem mX9_isFigure {l : Launch} {G : e_G} (l0 : Nat) (l1 : Int32) (h : e_H) (res : Bool) (hM : fX9_isFigure l0 l1 h = some res) : Met l yX9_isFigure (e_W yX9_isFigure cX9_isFigure 2 (some FieldType.boolean)) (e_rm 0 0) (e_Pc G h [.ref (e_ad G l0), .int l1]) (e_Q G h (some (.int (e_b res)))) 0 0 (e_A G) := by
  refine Met.ofW (cc := cX9_isFigure) (maxL := 2) (ret := (some FieldType.boolean)) (by decide) rfl ?_
  intro p e s m args below meth c s₁ B hml hv
  obtain ⟨rfl, hS, hP⟩ := hv
  have E := e_enter (own := RX9) (ret := (some FieldType.boolean)) B hml rfl hS hP
  have J : e_J G s h s.heap [] := ⟨hP, va_S.rf⟩
  have hl := lv_entry ([.ref (e_ad G l0), .int l1]) (n := 2) (Nat.le_of_ble_eq_true rfl)
  rw [lg_entry_eq]
  generalize (lg_sl ([.ref (e_ad G l0), .int l1]) ++ List.replicate (2 - (lg_sl ([.ref (e_ad G l0), .int l1])).length) Slot.unset).toArray = ls at hl ⊢
  have hl : lv_has ls 2 [(0, .ref (e_ad G l0)), (1, .int l1)] := hl
  obtain ⟨hx, hb, hr, hml, hown, hts, hlocks, hES, hbs⟩ := id E
  unfold fX9_isFigure at hM
  obtain ⟨fs_, hk_, hM⟩ := e_bs hM
  refine lv_iload_n hx hb dX9_isFigure_0 rfl (lv_at hl 1 rfl) ?_
  refine lv_aload_n hx hb dX9_isFigure_1 rfl (lv_at hl 0 rfl) ?_
  obtain ⟨v1, hv, hM⟩ := e_bs hM
  refine e_getI (C := RX9) (T := TX9) (N := 40) E J hv rfl inX9 (by decide) q_5_23 dX9_isFigure_2 ?_
  refine lv_icmp_ge (tgt := 34) hx hb dX9_isFigure_5 (by decide) (fun hc => ?_) (fun hc => ?_)
  · have hM := e_ip hc hM
    refine lv_iconst (v := nI 0) hx hb dX9_isFigure_34 (by decide) ?_
    obtain rfl := e_so hM
    exact e_zret E J (false) rfl dX9_isFigure_35
  · have hM := e_in hc hM
    refine lv_aload_n hx hb dX9_isFigure_8 rfl (lv_at hl 0 rfl) ?_
    obtain ⟨v2, hv, hM⟩ := e_bs hM
    refine e_getR (C := RX9) (T := TX9) (N := 40) E J hv rfl inX9 (by decide) q_5_22 dX9_isFigure_9 ?_
    rcases v2 with _ | a3
    · have hM := e_on0 hM
      refine W.eq (g2 := F0 m 12 ls [.null]) rfl ?_
      refine lv_iload_n hx hb dX9_isFigure_12 rfl (lv_at hl 1 rfl) ?_
      exact e_no hM
    · have hM := e_on1 hM
      refine W.eq (g2 := F0 m 12 ls [.ref (e_ad G a3)]) rfl ?_
      refine lv_iload_n hx hb dX9_isFigure_12 rfl (lv_at hl 1 rfl) ?_
      obtain ⟨v4, hv, hM⟩ := e_bs hM
      refine e_iald E J hv dX9_isFigure_13 ?_
      refine lv_bipush (v := nI 48) hx hb dX9_isFigure_14 (by decide) ?_
      refine lv_icmp_lt (tgt := 34) hx hb dX9_isFigure_16 (by decide) (fun hc => ?_) (fun hc => ?_)
      · have hM := e_ip hc hM
        refine lv_iconst (v := nI 0) hx hb dX9_isFigure_34 (by decide) ?_
        obtain rfl := e_so hM
        exact e_zret E J (false) rfl dX9_isFigure_35
      · have hM := e_in hc hM
        refine lv_aload_n hx hb dX9_isFigure_19 rfl (lv_at hl 0 rfl) ?_
        obtain ⟨v5, hv, hM⟩ := e_bs hM
        refine e_getR (C := RX9) (T := TX9) (N := 40) E J hv rfl inX9 (by decide) q_5_22 dX9_isFigure_20 ?_
        rcases v5 with _ | a6
        · have hM := e_on0 hM
          refine W.eq (g2 := F0 m 23 ls [.null]) rfl ?_
          refine lv_iload_n hx hb dX9_isFigure_23 rfl (lv_at hl 1 rfl) ?_
          exact e_no hM
        · have hM := e_on1 hM
          refine W.eq (g2 := F0 m 23 ls [.ref (e_ad G a6)]) rfl ?_
          refine lv_iload_n hx hb dX9_isFigure_23 rfl (lv_at hl 1 rfl) ?_
          obtain ⟨v7, hv, hM⟩ := e_bs hM
          refine e_iald E J hv dX9_isFigure_24 ?_
          refine lv_bipush (v := nI 57) hx hb dX9_isFigure_25 (by decide) ?_
          refine lv_icmp_gt (tgt := 34) hx hb dX9_isFigure_27 (by decide) (fun hc => ?_) (fun hc => ?_)
          · have hM := e_ip hc hM
            refine lv_iconst (v := nI 0) hx hb dX9_isFigure_34 (by decide) ?_
            obtain rfl := e_so hM
            exact e_zret E J (false) rfl dX9_isFigure_35
          · have hM := e_in hc hM
            refine lv_iconst (v := nI 1) hx hb dX9_isFigure_30 (by decide) ?_
            refine lv_goto (tgt := 35) hx hb dX9_isFigure_31 (by decide) ?_
            obtain rfl := e_so hM
            exact e_zret E J (true) rfl dX9_isFigure_35
set_option maxRecDepth 100000 in
set_option maxHeartbeats 4000000 in
theorem mX9_go_b261 {p : Program} {l : Launch} {e : Env} {s : State} {m : MethodId} {args : Array Value} {below : List Frame} {meth : Method} {c : Code} {G : e_G} {res : e_H} (E : e_M G p s args m meth c cX9_go 2 none RX9) (l0 : Nat) (t0 : Int32) (t1 : Nat) (h : e_H) (hM : fX9_go_b261 l0 t0 t1 h = some res) {H : Heap} {locs : List Loc} (J : e_J G s h H locs) {ls : Array Slot} (hl : lv_has ls 2 [(0, .ref (e_ad G l0))]) : W p l e (e_rm 1 21) s m args below meth c H locs 0 0 (MQ below (e_Q G res (none)) args s 0 0 (e_A G)) (F0 m 261 ls [.int t0, .ref (e_ad G t1)]) := by
  obtain ⟨hx, hb, hr, hml, hown, hts, hlocks, hES, hbs⟩ := id E
  unfold fX9_go_b261 at hM
  obtain ⟨h1, hv, hM⟩ := e_bs hM
  refine e_putv (C := RX9) (T := TX9) (N := 40) E J hv rfl rfl inX9 tyX9 tyX9_ok nmX9 (by decide) q_5_26 rfl rfl rfl rfl dX9_go_261 (fun H locs J => ?_)
  refine lv_aload_n hx hb dX9_go_264 rfl (lv_at hl 0 rfl) ?_
  refine lv_aload_n hx hb dX9_go_265 rfl (lv_at hl 0 rfl) ?_
  obtain ⟨v2, hv, hM⟩ := e_bs hM
  refine e_getI (C := RX9) (T := TX9) (N := 40) E J hv rfl inX9 (by decide) q_5_24 dX9_go_266 ?_
  obtain ⟨h3, hv, hM⟩ := e_bs hM
  refine e_putv (C := RX9) (T := TX9) (N := 40) E J hv rfl rfl inX9 tyX9 tyX9_ok nmX9 (by decide) q_5_28 rfl rfl rfl rfl dX9_go_269 (fun H locs J => ?_)
  refine lv_goto (tgt := 303) hx hb dX9_go_272 (by decide) ?_
  obtain rfl := e_so hM
  exact e_vret E J dX9_go_303
set_option maxRecDepth 100000 in
set_option maxHeartbeats 4000000 in
theorem mX9_go_b256 {p : Program} {l : Launch} {e : Env} {s : State} {m : MethodId} {args : Array Value} {below : List Frame} {meth : Method} {c : Code} {G : e_G} {res : e_H} (E : e_M G p s args m meth c cX9_go 2 none RX9) (l0 : Nat) (t0 : Nat) (h : e_H) (hM : fX9_go_b256 l0 t0 h = some res) {H : Heap} {locs : List Loc} (J : e_J G s h H locs) {ls : Array Slot} (hl : lv_has ls 2 [(0, .ref (e_ad G l0))]) : W p l e (e_rm 1 21) s m args below meth c H locs 0 0 (MQ below (e_Q G res (none)) args s 0 0 (e_A G)) (F0 m 256 ls [.ref (e_ad G t0)]) := by
  obtain ⟨hx, hb, hr, hml, hown, hts, hlocks, hES, hbs⟩ := id E
  unfold fX9_go_b256 at hM
  refine lv_iconst (v := nI 4) hx hb dX9_go_256 (by decide) ?_
  refine lv_goto (tgt := 261) hx hb dX9_go_257 (by decide) ?_
  exact mX9_go_b261 E l0 (nI 4) t0 h hM J (lv_sub hl [0] rfl)
set_option maxRecDepth 100000 in
set_option maxHeartbeats 4000000 in
theorem mX9_go_b222 {p : Program} {l : Launch} {e : Env} {s : State} {m : MethodId} {args : Array Value} {below : List Frame} {meth : Method} {c : Code} {G : e_G} {res : e_H} {k170 : Nat → Int32 → e_H → Option e_H} (E : e_M G p s args m meth c cX9_go 2 none RX9) (K170 : ∀ (l0 : Nat) (l1 : Int32) (h : e_H), k170 l0 l1 h = some res → ∀ (H : Heap) (locs : List Loc), e_J G s h H locs → ∀ (ls : Array Slot), lv_has ls 2 [(0, .ref (e_ad G l0)), (1, .int l1)] → W p l e (e_rm 1 21) s m args below meth c H locs 0 0 (MQ below (e_Q G res (none)) args s 0 0 (e_A G)) (F0 m 170 ls [])) (l0 : Nat) (l1 : Int32) (t0 : Int32) (t1 : Nat) (h : e_H) (hM : fX9_go_b222 k170 l0 l1 t0 t1 h = some res) {H : Heap} {locs : List Loc} (J : e_J G s h H locs) {ls : Array Slot} (hl : lv_has ls 2 [(0, .ref (e_ad G l0)), (1, .int l1)]) : W p l e (e_rm 1 21) s m args below meth c H locs 0 0 (MQ below (e_Q G res (none)) args s 0 0 (e_A G)) (F0 m 222 ls [.int t0, .ref (e_ad G t1)]) := by
  obtain ⟨hx, hb, hr, hml, hown, hts, hlocks, hES, hbs⟩ := id E
  unfold fX9_go_b222 at hM
  obtain ⟨h1, hv, hM⟩ := e_bs hM
  refine e_putv (C := RX9) (T := TX9) (N := 40) E J hv rfl rfl inX9 tyX9 tyX9_ok nmX9 (by decide) q_5_27 rfl rfl rfl rfl dX9_go_222 (fun H locs J => ?_)
  refine lv_aload_n hx hb dX9_go_225 rfl (lv_at hl 0 rfl) ?_
  refine lv_dup hx hb dX9_go_226 rfl ?_
  obtain ⟨v2, hv, hM⟩ := e_bs hM
  refine e_getI (C := RX9) (T := TX9) (N := 40) E J hv rfl inX9 (by decide) q_5_24 dX9_go_227 ?_
  refine lv_iconst (v := nI 1) hx hb dX9_go_230 (by decide) ?_
  refine lv_iadd hx hb dX9_go_231 ?_
  obtain ⟨h3, hv, hM⟩ := e_bs hM
  refine e_putv (C := RX9) (T := TX9) (N := 40) E J hv rfl rfl inX9 tyX9 tyX9_ok nmX9 (by decide) q_5_24 rfl rfl rfl rfl dX9_go_232 (fun H locs J => ?_)
  refine lv_goto (tgt := 170) hx hb dX9_go_235 (by decide) ?_
  exact K170 l0 l1 h3 hM _ _ J _ (lv_sub hl [0, 1] rfl)
set_option maxRecDepth 100000 in
set_option maxHeartbeats 4000000 in
theorem mX9_go_b170 {p : Program} {l : Launch} {e : Env} {s : State} {m : MethodId} {args : Array Value} {below : List Frame} {meth : Method} {c : Code} {G : e_G} {res : e_H} {k170 : Nat → Int32 → e_H → Option e_H} (E : e_M G p s args m meth c cX9_go 2 none RX9) (K170 : ∀ (l0 : Nat) (l1 : Int32) (h : e_H), k170 l0 l1 h = some res → ∀ (H : Heap) (locs : List Loc), e_J G s h H locs → ∀ (ls : Array Slot), lv_has ls 2 [(0, .ref (e_ad G l0)), (1, .int l1)] → W p l e (e_rm 1 21) s m args below meth c H locs 0 0 (MQ below (e_Q G res (none)) args s 0 0 (e_A G)) (F0 m 170 ls [])) (l0 : Nat) (l1 : Int32) (h : e_H) (hM : fX9_go_b170 k170 l0 l1 h = some res) {H : Heap} {locs : List Loc} (J : e_J G s h H locs) {ls : Array Slot} (hl : lv_has ls 2 [(0, .ref (e_ad G l0)), (1, .int l1)]) : W p l e (e_rm 1 21) s m args below meth c H locs 0 0 (MQ below (e_Q G res (none)) args s 0 0 (e_A G)) (F0 m 170 ls []) := by
  obtain ⟨hx, hb, hr, hml, hown, hts, hlocks, hES, hbs⟩ := id E
  unfold fX9_go_b170 at hM
  refine lv_aload_n hx hb dX9_go_170 rfl (lv_at hl 0 rfl) ?_
  refine lv_aload_n hx hb dX9_go_171 rfl (lv_at hl 0 rfl) ?_
  obtain ⟨v1, hv, hM⟩ := e_bs hM
  refine e_getI (C := RX9) (T := TX9) (N := 40) E J hv rfl inX9 (by decide) q_5_24 dX9_go_172 ?_
  obtain ⟨v2, hv, hM⟩ := e_bs hM
  obtain ⟨fs_, hk, -⟩ := e_bs hv
  refine e_callV (ci := 9) (As := [.int v1]) (rest := []) (n := 1) E J hk rfl (mX9_isFigure (l := l) (G := G) l0 v1 h _ hv) q_6_138 q_6_140 q_p_39 q_1_9 q_6_141 (by decide +kernel) rfl ⟨Nat.le_of_ble_eq_true rfl, Nat.le_of_ble_eq_true rfl⟩ (st0 := [.int v1, .ref (e_ad G l0)]) (st1 := [.int (e_b v2)]) rfl rfl hl.1 (Nat.le_of_ble_eq_true rfl) dX9_go_175 ⟨Nat.le_refl _, Nat.le_refl _⟩ (fun H locs J => ?_)
  refine lv_if_eq (tgt := 238) hx hb dX9_go_178 (by decide) (fun hc => ?_) (fun hc => ?_)
  · have hM := e_ip hc hM
    refine lv_aload_n hx hb dX9_go_238 rfl (lv_at hl 0 rfl) ?_
    refine lv_iload_n hx hb dX9_go_239 rfl (lv_at hl 1 rfl) ?_
    refine lv_if_ne (tgt := 256) hx hb dX9_go_240 (by decide) (fun hc => ?_) (fun hc => ?_)
    · have hM := e_in hc hM
      exact mX9_go_b256 E l0 l0 h hM J (lv_sub hl [0] rfl)
    · have hM := e_ip hc hM
      refine lv_aload_n hx hb dX9_go_243 rfl (lv_at hl 0 rfl) ?_
      obtain ⟨v3, hv, hM⟩ := e_bs hM
      refine e_getI (C := RX9) (T := TX9) (N := 40) E J hv rfl inX9 (by decide) q_5_24 dX9_go_244 ?_
      refine lv_aload_n hx hb dX9_go_247 rfl (lv_at hl 0 rfl) ?_
      obtain ⟨v4, hv, hM⟩ := e_bs hM
      refine e_getI (C := RX9) (T := TX9) (N := 40) E J hv rfl inX9 (by decide) q_5_25 dX9_go_248 ?_
      refine lv_isub hx hb dX9_go_251 ?_
      refine lv_iconst (v := nI 4) hx hb dX9_go_252 (by decide) ?_
      refine lv_icmp_le (tgt := 260) hx hb dX9_go_253 (by decide) (fun hc => ?_) (fun hc => ?_)
      · have hM := e_ip hc hM
        refine lv_iconst (v := nI 2) hx hb dX9_go_260 (by decide) ?_
        exact mX9_go_b261 E l0 (nI 2) l0 h hM J (lv_sub hl [0] rfl)
      · have hM := e_in hc hM
        exact mX9_go_b256 E l0 l0 h hM J (lv_sub hl [0] rfl)
  · have hM := e_in hc hM
    refine lv_aload_n hx hb dX9_go_181 rfl (lv_at hl 0 rfl) ?_
    refine lv_aload_n hx hb dX9_go_182 rfl (lv_at hl 0 rfl) ?_
    obtain ⟨v5, hv, hM⟩ := e_bs hM
    refine e_getI (C := RX9) (T := TX9) (N := 40) E J hv rfl inX9 (by decide) q_5_24 dX9_go_183 ?_
    refine lv_aload_n hx hb dX9_go_186 rfl (lv_at hl 0 rfl) ?_
    obtain ⟨v6, hv, hM⟩ := e_bs hM
    refine e_getI (C := RX9) (T := TX9) (N := 40) E J hv rfl inX9 (by decide) q_5_25 dX9_go_187 ?_
    refine lv_isub hx hb dX9_go_190 ?_
    refine lv_iconst (v := nI 4) hx hb dX9_go_191 (by decide) ?_
    refine lv_icmp_ge (tgt := 218) hx hb dX9_go_192 (by decide) (fun hc => ?_) (fun hc => ?_)
    · have hM := e_ip hc hM
      refine lv_aload_n hx hb dX9_go_218 rfl (lv_at hl 0 rfl) ?_
      obtain ⟨v7, hv, hM⟩ := e_bs hM
      refine e_getI (C := RX9) (T := TX9) (N := 40) E J hv rfl inX9 (by decide) q_5_27 dX9_go_219 ?_
      exact mX9_go_b222 E K170 l0 l1 v7 l0 h hM J (lv_sub hl [0, 1] rfl)
    · have hM := e_in hc hM
      refine lv_bipush (v := nI 10) hx hb dX9_go_195 (by decide) ?_
      refine lv_aload_n hx hb dX9_go_197 rfl (lv_at hl 0 rfl) ?_
      obtain ⟨v8, hv, hM⟩ := e_bs hM
      refine e_getI (C := RX9) (T := TX9) (N := 40) E J hv rfl inX9 (by decide) q_5_27 dX9_go_198 ?_
      refine lv_imul hx hb dX9_go_201 ?_
      refine lv_aload_n hx hb dX9_go_202 rfl (lv_at hl 0 rfl) ?_
      obtain ⟨v9, hv, hM⟩ := e_bs hM
      refine e_getR (C := RX9) (T := TX9) (N := 40) E J hv rfl inX9 (by decide) q_5_22 dX9_go_203 ?_
      rcases v9 with _ | a10
      · have hM := e_on0 hM
        refine W.eq (g2 := F0 m 206 ls [.null, .int ((nI 10) * v8), .ref (e_ad G l0)]) rfl ?_
        refine lv_aload_n hx hb dX9_go_206 rfl (lv_at hl 0 rfl) ?_
        obtain ⟨v11, hv, hM⟩ := e_bs hM
        refine e_getI (C := RX9) (T := TX9) (N := 40) E J hv rfl inX9 (by decide) q_5_24 dX9_go_207 ?_
        exact e_no hM
      · have hM := e_on1 hM
        refine W.eq (g2 := F0 m 206 ls [.ref (e_ad G a10), .int ((nI 10) * v8), .ref (e_ad G l0)]) rfl ?_
        refine lv_aload_n hx hb dX9_go_206 rfl (lv_at hl 0 rfl) ?_
        obtain ⟨v12, hv, hM⟩ := e_bs hM
        refine e_getI (C := RX9) (T := TX9) (N := 40) E J hv rfl inX9 (by decide) q_5_24 dX9_go_207 ?_
        obtain ⟨v13, hv, hM⟩ := e_bs hM
        refine e_iald E J hv dX9_go_210 ?_
        refine lv_iadd hx hb dX9_go_211 ?_
        refine lv_bipush (v := nI 48) hx hb dX9_go_212 (by decide) ?_
        refine lv_isub hx hb dX9_go_214 ?_
        refine lv_goto (tgt := 222) hx hb dX9_go_215 (by decide) ?_
        exact mX9_go_b222 E K170 l0 l1 ((((nI 10) * v8) + v13) - (nI 48)) l0 h hM J (lv_sub hl [0, 1] rfl)
set_option maxRecDepth 100000 in
set_option maxHeartbeats 4000000 in
theorem mX9_go_L170 {p : Program} {l : Launch} {e : Env} {s : State} {m : MethodId} {args : Array Value} {below : List Frame} {meth : Method} {c : Code} {G : e_G} {res : e_H} (E : e_M G p s args m meth c cX9_go 2 none RX9) (n : Nat) (l0 : Nat) (l1 : Int32) (h : e_H) (hM : fX9_go_L170 n l0 l1 h = some res) {H : Heap} {locs : List Loc} (J : e_J G s h H locs) {ls : Array Slot} (hl : lv_has ls 2 [(0, .ref (e_ad G l0)), (1, .int l1)]) : W p l e (e_rm 1 21) s m args below meth c H locs 0 0 (MQ below (e_Q G res (none)) args s 0 0 (e_A G)) (F0 m 170 ls []) := by
  induction n generalizing l0 l1 h H locs ls with
  | zero => exact e_no hM
  | succ n ih => exact mX9_go_b170 (k170 := (fX9_go_L170 n)) E   (fun l0 l1 h hM H locs J ls hl => ih l0 l1 h hM J hl) l0 l1 h hM J hl
set_option maxRecDepth 100000 in
set_option maxHeartbeats 4000000 in
theorem mX9_go_b127 {p : Program} {l : Launch} {e : Env} {s : State} {m : MethodId} {args : Array Value} {below : List Frame} {meth : Method} {c : Code} {G : e_G} {res : e_H} (E : e_M G p s args m meth c cX9_go 2 none RX9) (l0 : Nat) (t0 : Int32) (t1 : Nat) (h : e_H) (hM : fX9_go_b127 l0 t0 t1 h = some res) {H : Heap} {locs : List Loc} (J : e_J G s h H locs) {ls : Array Slot} (hl : lv_has ls 2 [(0, .ref (e_ad G l0))]) : W p l e (e_rm 1 21) s m args below meth c H locs 0 0 (MQ below (e_Q G res (none)) args s 0 0 (e_A G)) (F0 m 127 ls [.int t0, .ref (e_ad G t1)]) := by
  obtain ⟨hx, hb, hr, hml, hown, hts, hlocks, hES, hbs⟩ := id E
  unfold fX9_go_b127 at hM
  obtain ⟨h1, hv, hM⟩ := e_bs hM
  refine e_putv (C := RX9) (T := TX9) (N := 40) E J hv rfl rfl inX9 tyX9 tyX9_ok nmX9 (by decide) q_5_26 rfl rfl rfl rfl dX9_go_127 (fun H locs J => ?_)
  refine lv_aload_n hx hb dX9_go_130 rfl (lv_at hl 0 rfl) ?_
  refine lv_aload_n hx hb dX9_go_131 rfl (lv_at hl 0 rfl) ?_
  obtain ⟨v2, hv, hM⟩ := e_bs hM
  refine e_getR (C := RX9) (T := TX9) (N := 40) E J hv rfl inX9 (by decide) q_5_22 dX9_go_132 ?_
  rcases v2 with _ | a3
  · have hM := e_on0 hM
    refine W.eq (g2 := F0 m 135 ls [.null, .ref (e_ad G l0)]) rfl ?_
    refine lv_aload_n hx hb dX9_go_135 rfl (lv_at hl 0 rfl) ?_
    obtain ⟨v4, hv, hM⟩ := e_bs hM
    refine e_getI (C := RX9) (T := TX9) (N := 40) E J hv rfl inX9 (by decide) q_5_25 dX9_go_136 ?_
    exact e_no hM
  · have hM := e_on1 hM
    refine W.eq (g2 := F0 m 135 ls [.ref (e_ad G a3), .ref (e_ad G l0)]) rfl ?_
    refine lv_aload_n hx hb dX9_go_135 rfl (lv_at hl 0 rfl) ?_
    obtain ⟨v5, hv, hM⟩ := e_bs hM
    refine e_getI (C := RX9) (T := TX9) (N := 40) E J hv rfl inX9 (by decide) q_5_25 dX9_go_136 ?_
    obtain ⟨v6, hv, hM⟩ := e_bs hM
    refine e_iald E J hv dX9_go_139 ?_
    obtain ⟨h7, hv, hM⟩ := e_bs hM
    refine e_putv (C := RX9) (T := TX9) (N := 40) E J hv rfl rfl inX9 tyX9 tyX9_ok nmX9 (by decide) q_5_27 rfl rfl rfl rfl dX9_go_140 (fun H locs J => ?_)
    refine lv_aload_n hx hb dX9_go_143 rfl (lv_at hl 0 rfl) ?_
    refine lv_aload_n hx hb dX9_go_144 rfl (lv_at hl 0 rfl) ?_
    obtain ⟨v8, hv, hM⟩ := e_bs hM
    refine e_getI (C := RX9) (T := TX9) (N := 40) E J hv rfl inX9 (by decide) q_5_24 dX9_go_145 ?_
    obtain ⟨h9, hv, hM⟩ := e_bs hM
    refine e_putv (C := RX9) (T := TX9) (N := 40) E J hv rfl rfl inX9 tyX9 tyX9_ok nmX9 (by decide) q_5_28 rfl rfl rfl rfl dX9_go_148 (fun H locs J => ?_)
    refine lv_goto (tgt := 303) hx hb dX9_go_151 (by decide) ?_
    obtain rfl := e_so hM
    exact e_vret E J dX9_go_303
set_option maxRecDepth 100000 in
set_option maxHeartbeats 4000000 in
theorem mX9_go_b93 {p : Program} {l : Launch} {e : Env} {s : State} {m : MethodId} {args : Array Value} {below : List Frame} {meth : Method} {c : Code} {G : e_G} {res : e_H} {k93 : Nat → Int32 → e_H → Option e_H} (E : e_M G p s args m meth c cX9_go 2 none RX9) (K93 : ∀ (l0 : Nat) (l1 : Int32) (h : e_H), k93 l0 l1 h = some res → ∀ (H : Heap) (locs : List Loc), e_J G s h H locs → ∀ (ls : Array Slot), lv_has ls 2 [(0, .ref (e_ad G l0)), (1, .int l1)] → W p l e (e_rm 1 21) s m args below meth c H locs 0 0 (MQ below (e_Q G res (none)) args s 0 0 (e_A G)) (F0 m 93 ls [])) (l0 : Nat) (l1 : Int32) (h : e_H) (hM : fX9_go_b93 k93 l0 l1 h = some res) {H : Heap} {locs : List Loc} (J : e_J G s h H locs) {ls : Array Slot} (hl : lv_has ls 2 [(0, .ref (e_ad G l0)), (1, .int l1)]) : W p l e (e_rm 1 21) s m args below meth c H locs 0 0 (MQ below (e_Q G res (none)) args s 0 0 (e_A G)) (F0 m 93 ls []) := by
  obtain ⟨hx, hb, hr, hml, hown, hts, hlocks, hES, hbs⟩ := id E
  unfold fX9_go_b93 at hM
  refine lv_aload_n hx hb dX9_go_93 rfl (lv_at hl 0 rfl) ?_
  refine lv_aload_n hx hb dX9_go_94 rfl (lv_at hl 0 rfl) ?_
  obtain ⟨v1, hv, hM⟩ := e_bs hM
  refine e_getI (C := RX9) (T := TX9) (N := 40) E J hv rfl inX9 (by decide) q_5_24 dX9_go_95 ?_
  obtain ⟨v2, hv, hM⟩ := e_bs hM
  obtain ⟨fs_, hk, -⟩ := e_bs hv
  refine e_callV (ci := 9) (As := [.int v1]) (rest := []) (n := 1) E J hk rfl (mX9_isLetter (l := l) (G := G) l0 v1 h _ hv) q_6_134 q_6_136 q_p_38 q_1_9 q_6_137 (by decide +kernel) rfl ⟨Nat.le_of_ble_eq_true rfl, Nat.le_of_ble_eq_true rfl⟩ (st0 := [.int v1, .ref (e_ad G l0)]) (st1 := [.int (e_b v2)]) rfl rfl hl.1 (Nat.le_of_ble_eq_true rfl) dX9_go_98 ⟨Nat.le_refl _, Nat.le_refl _⟩ (fun H locs J => ?_)
  refine lv_if_eq (tgt := 117) hx hb dX9_go_101 (by decide) (fun hc => ?_) (fun hc => ?_)
  · have hM := e_ip hc hM
    refine lv_aload_n hx hb dX9_go_117 rfl (lv_at hl 0 rfl) ?_
    refine lv_iload_n hx hb dX9_go_118 rfl (lv_at hl 1 rfl) ?_
    refine lv_if_eq (tgt := 126) hx hb dX9_go_119 (by decide) (fun hc => ?_) (fun hc => ?_)
    · have hM := e_ip hc hM
      refine lv_iconst (v := nI 1) hx hb dX9_go_126 (by decide) ?_
      exact mX9_go_b127 E l0 (nI 1) l0 h hM J (lv_sub hl [0] rfl)
    · have hM := e_in hc hM
      refine lv_iconst (v := nI 4) hx hb dX9_go_122 (by decide) ?_
      refine lv_goto (tgt := 127) hx hb dX9_go_123 (by decide) ?_
      exact mX9_go_b127 E l0 (nI 4) l0 h hM J (lv_sub hl [0] rfl)
  · have hM := e_in hc hM
    refine lv_aload_n hx hb dX9_go_104 rfl (lv_at hl 0 rfl) ?_
    refine lv_dup hx hb dX9_go_105 rfl ?_
    obtain ⟨v3, hv, hM⟩ := e_bs hM
    refine e_getI (C := RX9) (T := TX9) (N := 40) E J hv rfl inX9 (by decide) q_5_24 dX9_go_106 ?_
    refine lv_iconst (v := nI 1) hx hb dX9_go_109 (by decide) ?_
    refine lv_iadd hx hb dX9_go_110 ?_
    obtain ⟨h4, hv, hM⟩ := e_bs hM
    refine e_putv (C := RX9) (T := TX9) (N := 40) E J hv rfl rfl inX9 tyX9 tyX9_ok nmX9 (by decide) q_5_24 rfl rfl rfl rfl dX9_go_111 (fun H locs J => ?_)
    refine lv_goto (tgt := 93) hx hb dX9_go_114 (by decide) ?_
    exact K93 l0 l1 h4 hM _ _ J _ (lv_sub hl [0, 1] rfl)
set_option maxRecDepth 100000 in
set_option maxHeartbeats 4000000 in
theorem mX9_go_L93 {p : Program} {l : Launch} {e : Env} {s : State} {m : MethodId} {args : Array Value} {below : List Frame} {meth : Method} {c : Code} {G : e_G} {res : e_H} (E : e_M G p s args m meth c cX9_go 2 none RX9) (n : Nat) (l0 : Nat) (l1 : Int32) (h : e_H) (hM : fX9_go_L93 n l0 l1 h = some res) {H : Heap} {locs : List Loc} (J : e_J G s h H locs) {ls : Array Slot} (hl : lv_has ls 2 [(0, .ref (e_ad G l0)), (1, .int l1)]) : W p l e (e_rm 1 21) s m args below meth c H locs 0 0 (MQ below (e_Q G res (none)) args s 0 0 (e_A G)) (F0 m 93 ls []) := by
  induction n generalizing l0 l1 h H locs ls with
  | zero => exact e_no hM
  | succ n ih => exact mX9_go_b93 (k93 := (fX9_go_L93 n)) E   (fun l0 l1 h hM H locs J ls hl => ih l0 l1 h hM J hl) l0 l1 h hM J hl
set_option maxRecDepth 100000 in
set_option maxHeartbeats 4000000 in
theorem mX9_go_b62 {p : Program} {l : Launch} {e : Env} {s : State} {m : MethodId} {args : Array Value} {below : List Frame} {meth : Method} {c : Code} {G : e_G} {res : e_H} (E : e_M G p s args m meth c cX9_go 2 none RX9) (l0 : Nat) (t0 : Int32) (h : e_H) (hM : fX9_go_b62 l0 t0 h = some res) {H : Heap} {locs : List Loc} (J : e_J G s h H locs) {ls : Array Slot} (hl : lv_has ls 2 [(0, .ref (e_ad G l0))]) : W p l e (e_rm 1 21) s m args below meth c H locs 0 0 (MQ below (e_Q G res (none)) args s 0 0 (e_A G)) (F0 m 62 ls [.int t0]) := by
  obtain ⟨hx, hb, hr, hml, hown, hts, hlocks, hES, hbs⟩ := id E
  unfold fX9_go_b62 at hM
  refine lv_istore_n (lv' := [(1, .int t0), (0, .ref (e_ad G l0))]) hx hb dX9_go_62 rfl hl (by decide) rfl (fun ls hl => ?_)
  refine lv_aload_n hx hb dX9_go_63 rfl (lv_at hl 1 rfl) ?_
  obtain ⟨v1, hv, hM⟩ := e_bs hM
  refine e_getI (C := RX9) (T := TX9) (N := 40) E J hv rfl inX9 (by decide) q_5_25 dX9_go_64 ?_
  refine lv_aload_n hx hb dX9_go_67 rfl (lv_at hl 1 rfl) ?_
  obtain ⟨v2, hv, hM⟩ := e_bs hM
  refine e_getI (C := RX9) (T := TX9) (N := 40) E J hv rfl inX9 (by decide) q_5_23 dX9_go_68 ?_
  refine lv_icmp_ne (tgt := 82) hx hb dX9_go_71 (by decide) (fun hc => ?_) (fun hc => ?_)
  · have hM := e_in hc hM
    refine lv_aload_n hx hb dX9_go_82 rfl (lv_at hl 1 rfl) ?_
    refine lv_aload_n hx hb dX9_go_83 rfl (lv_at hl 1 rfl) ?_
    obtain ⟨v4, hv, hM⟩ := e_bs hM
    refine e_getI (C := RX9) (T := TX9) (N := 40) E J hv rfl inX9 (by decide) q_5_25 dX9_go_84 ?_
    obtain ⟨v5, hv, hM⟩ := e_bs hM
    obtain ⟨fs_, hk, -⟩ := e_bs hv
    refine e_callV (ci := 9) (As := [.int v4]) (rest := []) (n := 1) E J hk rfl (mX9_isLetter (l := l) (G := G) l0 v4 h _ hv) q_6_134 q_6_136 q_p_38 q_1_9 q_6_137 (by decide +kernel) rfl ⟨Nat.le_of_ble_eq_true rfl, Nat.le_of_ble_eq_true rfl⟩ (st0 := [.int v4, .ref (e_ad G l0)]) (st1 := [.int (e_b v5)]) rfl rfl hl.1 (Nat.le_of_ble_eq_true rfl) dX9_go_87 ⟨Nat.le_refl _, Nat.le_refl _⟩ (fun H locs J => ?_)
    refine lv_if_eq (tgt := 154) hx hb dX9_go_90 (by decide) (fun hc => ?_) (fun hc => ?_)
    · have hM := e_ip hc hM
      refine lv_aload_n hx hb dX9_go_154 rfl (lv_at hl 1 rfl) ?_
      refine lv_aload_n hx hb dX9_go_155 rfl (lv_at hl 1 rfl) ?_
      obtain ⟨v6, hv, hM⟩ := e_bs hM
      refine e_getI (C := RX9) (T := TX9) (N := 40) E J hv rfl inX9 (by decide) q_5_25 dX9_go_156 ?_
      obtain ⟨v7, hv, hM⟩ := e_bs hM
      obtain ⟨fs_, hk, -⟩ := e_bs hv
      refine e_callV (ci := 9) (As := [.int v6]) (rest := []) (n := 1) E J hk rfl (mX9_isFigure (l := l) (G := G) l0 v6 h _ hv) q_6_138 q_6_140 q_p_39 q_1_9 q_6_141 (by decide +kernel) rfl ⟨Nat.le_of_ble_eq_true rfl, Nat.le_of_ble_eq_true rfl⟩ (st0 := [.int v6, .ref (e_ad G l0)]) (st1 := [.int (e_b v7)]) rfl rfl hl.1 (Nat.le_of_ble_eq_true rfl) dX9_go_159 ⟨Nat.le_refl _, Nat.le_refl _⟩ (fun H locs J => ?_)
      refine lv_if_eq (tgt := 275) hx hb dX9_go_162 (by decide) (fun hc => ?_) (fun hc => ?_)
      · have hM := e_ip hc hM
        refine lv_aload_n hx hb dX9_go_275 rfl (lv_at hl 1 rfl) ?_
        refine lv_iconst (v := nI 3) hx hb dX9_go_276 (by decide) ?_
        obtain ⟨h8, hv, hM⟩ := e_bs hM
        refine e_putv (C := RX9) (T := TX9) (N := 40) E J hv rfl rfl inX9 tyX9 tyX9_ok nmX9 (by decide) q_5_26 rfl rfl rfl rfl dX9_go_277 (fun H locs J => ?_)
        refine lv_aload_n hx hb dX9_go_280 rfl (lv_at hl 1 rfl) ?_
        refine lv_aload_n hx hb dX9_go_281 rfl (lv_at hl 1 rfl) ?_
        obtain ⟨v9, hv, hM⟩ := e_bs hM
        refine e_getR (C := RX9) (T := TX9) (N := 40) E J hv rfl inX9 (by decide) q_5_22 dX9_go_282 ?_
        rcases v9 with _ | a10
        · have hM := e_on0 hM
          refine W.eq (g2 := F0 m 285 ls [.null, .ref (e_ad G l0)]) rfl ?_
          refine lv_aload_n hx hb dX9_go_285 rfl (lv_at hl 1 rfl) ?_
          obtain ⟨v11, hv, hM⟩ := e_bs hM
          refine e_getI (C := RX9) (T := TX9) (N := 40) E J hv rfl inX9 (by decide) q_5_25 dX9_go_286 ?_
          exact e_no hM
        · have hM := e_on1 hM
          refine W.eq (g2 := F0 m 285 ls [.ref (e_ad G a10), .ref (e_ad G l0)]) rfl ?_
          refine lv_aload_n hx hb dX9_go_285 rfl (lv_at hl 1 rfl) ?_
          obtain ⟨v12, hv, hM⟩ := e_bs hM
          refine e_getI (C := RX9) (T := TX9) (N := 40) E J hv rfl inX9 (by decide) q_5_25 dX9_go_286 ?_
          obtain ⟨v13, hv, hM⟩ := e_bs hM
          refine e_iald E J hv dX9_go_289 ?_
          obtain ⟨h14, hv, hM⟩ := e_bs hM
          refine e_putv (C := RX9) (T := TX9) (N := 40) E J hv rfl rfl inX9 tyX9 tyX9_ok nmX9 (by decide) q_5_27 rfl rfl rfl rfl dX9_go_290 (fun H locs J => ?_)
          refine lv_aload_n hx hb dX9_go_293 rfl (lv_at hl 1 rfl) ?_
          refine lv_dup hx hb dX9_go_294 rfl ?_
          obtain ⟨v15, hv, hM⟩ := e_bs hM
          refine e_getI (C := RX9) (T := TX9) (N := 40) E J hv rfl inX9 (by decide) q_5_24 dX9_go_295 ?_
          refine lv_iconst (v := nI 1) hx hb dX9_go_298 (by decide) ?_
          refine lv_iadd hx hb dX9_go_299 ?_
          obtain ⟨h16, hv, hM⟩ := e_bs hM
          refine e_putv (C := RX9) (T := TX9) (N := 40) E J hv rfl rfl inX9 tyX9 tyX9_ok nmX9 (by decide) q_5_24 rfl rfl rfl rfl dX9_go_300 (fun H locs J => ?_)
          obtain rfl := e_so hM
          exact e_vret E J dX9_go_303
      · have hM := e_in hc hM
        refine lv_aload_n hx hb dX9_go_165 rfl (lv_at hl 1 rfl) ?_
        refine lv_iconst (v := nI 0) hx hb dX9_go_166 (by decide) ?_
        obtain ⟨h17, hv, hM⟩ := e_bs hM
        refine e_putv (C := RX9) (T := TX9) (N := 40) E J hv rfl rfl inX9 tyX9 tyX9_ok nmX9 (by decide) q_5_27 rfl rfl rfl rfl dX9_go_167 (fun H locs J => ?_)
        exact mX9_go_L170 E 200 l0 t0 h17 hM J (lv_sub hl [1, 0] rfl)
    · have hM := e_in hc hM
      exact mX9_go_L93 E 200 l0 t0 h hM J (lv_sub hl [1, 0] rfl)
  · have hM := e_ip hc hM
    refine lv_aload_n hx hb dX9_go_74 rfl (lv_at hl 1 rfl) ?_
    refine lv_iconst (v := nI 0) hx hb dX9_go_75 (by decide) ?_
    obtain ⟨h3, hv, hM⟩ := e_bs hM
    refine e_putv (C := RX9) (T := TX9) (N := 40) E J hv rfl rfl inX9 tyX9 tyX9_ok nmX9 (by decide) q_5_26 rfl rfl rfl rfl dX9_go_76 (fun H locs J => ?_)
    refine lv_goto (tgt := 303) hx hb dX9_go_79 (by decide) ?_
    obtain rfl := e_so hM
    exact e_vret E J dX9_go_303
set_option maxRecDepth 100000 in
set_option maxHeartbeats 4000000 in
theorem mX9_go_b38 {p : Program} {l : Launch} {e : Env} {s : State} {m : MethodId} {args : Array Value} {below : List Frame} {meth : Method} {c : Code} {G : e_G} {res : e_H} (E : e_M G p s args m meth c cX9_go 2 none RX9) (l0 : Nat) (h : e_H) (hM : fX9_go_b38 l0 h = some res) {H : Heap} {locs : List Loc} (J : e_J G s h H locs) {ls : Array Slot} (hl : lv_has ls 2 [(0, .ref (e_ad G l0))]) : W p l e (e_rm 1 21) s m args below meth c H locs 0 0 (MQ below (e_Q G res (none)) args s 0 0 (e_A G)) (F0 m 38 ls []) := by
  obtain ⟨hx, hb, hr, hml, hown, hts, hlocks, hES, hbs⟩ := id E
  unfold fX9_go_b38 at hM
  refine lv_aload_n hx hb dX9_go_38 rfl (lv_at hl 0 rfl) ?_
  refine lv_aload_n hx hb dX9_go_39 rfl (lv_at hl 0 rfl) ?_
  obtain ⟨v1, hv, hM⟩ := e_bs hM
  refine e_getI (C := RX9) (T := TX9) (N := 40) E J hv rfl inX9 (by decide) q_5_24 dX9_go_40 ?_
  obtain ⟨h2, hv, hM⟩ := e_bs hM
  refine e_putv (C := RX9) (T := TX9) (N := 40) E J hv rfl rfl inX9 tyX9 tyX9_ok nmX9 (by decide) q_5_25 rfl rfl rfl rfl dX9_go_43 (fun H locs J => ?_)
  refine lv_aload_n hx hb dX9_go_46 rfl (lv_at hl 0 rfl) ?_
  obtain ⟨v3, hv, hM⟩ := e_bs hM
  refine e_getI (C := RX9) (T := TX9) (N := 40) E J hv rfl inX9 (by decide) q_5_25 dX9_go_47 ?_
  refine lv_aload_n hx hb dX9_go_50 rfl (lv_at hl 0 rfl) ?_
  obtain ⟨v4, hv, hM⟩ := e_bs hM
  refine e_getI (C := RX9) (T := TX9) (N := 40) E J hv rfl inX9 (by decide) q_5_28 dX9_go_51 ?_
  refine lv_icmp_ne (tgt := 61) hx hb dX9_go_54 (by decide) (fun hc => ?_) (fun hc => ?_)
  · have hM := e_in hc hM
    refine lv_iconst (v := nI 0) hx hb dX9_go_61 (by decide) ?_
    exact mX9_go_b62 E l0 (nI 0) h2 hM J (lv_sub hl [0] rfl)
  · have hM := e_ip hc hM
    refine lv_iconst (v := nI 1) hx hb dX9_go_57 (by decide) ?_
    refine lv_goto (tgt := 62) hx hb dX9_go_58 (by decide) ?_
    exact mX9_go_b62 E l0 (nI 1) h2 hM J (lv_sub hl [0] rfl)
set_option maxRecDepth 100000 in
set_option maxHeartbeats 4000000 in
theorem mX9_go_b0 {p : Program} {l : Launch} {e : Env} {s : State} {m : MethodId} {args : Array Value} {below : List Frame} {meth : Method} {c : Code} {G : e_G} {res : e_H} {k0 : Nat → e_H → Option e_H} (E : e_M G p s args m meth c cX9_go 2 none RX9) (K0 : ∀ (l0 : Nat) (h : e_H), k0 l0 h = some res → ∀ (H : Heap) (locs : List Loc), e_J G s h H locs → ∀ (ls : Array Slot), lv_has ls 2 [(0, .ref (e_ad G l0))] → W p l e (e_rm 1 21) s m args below meth c H locs 0 0 (MQ below (e_Q G res (none)) args s 0 0 (e_A G)) (F0 m 0 ls [])) (l0 : Nat) (h : e_H) (hM : fX9_go_b0 k0 l0 h = some res) {H : Heap} {locs : List Loc} (J : e_J G s h H locs) {ls : Array Slot} (hl : lv_has ls 2 [(0, .ref (e_ad G l0))]) : W p l e (e_rm 1 21) s m args below meth c H locs 0 0 (MQ below (e_Q G res (none)) args s 0 0 (e_A G)) (F0 m 0 ls []) := by
  obtain ⟨hx, hb, hr, hml, hown, hts, hlocks, hES, hbs⟩ := id E
  unfold fX9_go_b0 at hM
  refine lv_aload_n hx hb dX9_go_0 rfl (lv_at hl 0 rfl) ?_
  obtain ⟨v1, hv, hM⟩ := e_bs hM
  refine e_getI (C := RX9) (T := TX9) (N := 40) E J hv rfl inX9 (by decide) q_5_24 dX9_go_1 ?_
  refine lv_aload_n hx hb dX9_go_4 rfl (lv_at hl 0 rfl) ?_
  obtain ⟨v2, hv, hM⟩ := e_bs hM
  refine e_getI (C := RX9) (T := TX9) (N := 40) E J hv rfl inX9 (by decide) q_5_23 dX9_go_5 ?_
  refine lv_icmp_ge (tgt := 38) hx hb dX9_go_8 (by decide) (fun hc => ?_) (fun hc => ?_)
  · have hM := e_ip hc hM
    exact mX9_go_b38 E l0 h hM J (lv_sub hl [0] rfl)
  · have hM := e_in hc hM
    refine lv_aload_n hx hb dX9_go_11 rfl (lv_at hl 0 rfl) ?_
    obtain ⟨v3, hv, hM⟩ := e_bs hM
    refine e_getR (C := RX9) (T := TX9) (N := 40) E J hv rfl inX9 (by decide) q_5_22 dX9_go_12 ?_
    rcases v3 with _ | a4
    · have hM := e_on0 hM
      refine W.eq (g2 := F0 m 15 ls [.null]) rfl ?_
      refine lv_aload_n hx hb dX9_go_15 rfl (lv_at hl 0 rfl) ?_
      obtain ⟨v5, hv, hM⟩ := e_bs hM
      refine e_getI (C := RX9) (T := TX9) (N := 40) E J hv rfl inX9 (by decide) q_5_24 dX9_go_16 ?_
      exact e_no hM
    · have hM := e_on1 hM
      refine W.eq (g2 := F0 m 15 ls [.ref (e_ad G a4)]) rfl ?_
      refine lv_aload_n hx hb dX9_go_15 rfl (lv_at hl 0 rfl) ?_
      obtain ⟨v6, hv, hM⟩ := e_bs hM
      refine e_getI (C := RX9) (T := TX9) (N := 40) E J hv rfl inX9 (by decide) q_5_24 dX9_go_16 ?_
      obtain ⟨v7, hv, hM⟩ := e_bs hM
      refine e_iald E J hv dX9_go_19 ?_
      refine lv_bipush (v := nI 32) hx hb dX9_go_20 (by decide) ?_
      refine lv_icmp_ne (tgt := 38) hx hb dX9_go_22 (by decide) (fun hc => ?_) (fun hc => ?_)
      · have hM := e_in hc hM
        exact mX9_go_b38 E l0 h hM J (lv_sub hl [0] rfl)
      · have hM := e_ip hc hM
        refine lv_aload_n hx hb dX9_go_25 rfl (lv_at hl 0 rfl) ?_
        refine lv_dup hx hb dX9_go_26 rfl ?_
        obtain ⟨v8, hv, hM⟩ := e_bs hM
        refine e_getI (C := RX9) (T := TX9) (N := 40) E J hv rfl inX9 (by decide) q_5_24 dX9_go_27 ?_
        refine lv_iconst (v := nI 1) hx hb dX9_go_30 (by decide) ?_
        refine lv_iadd hx hb dX9_go_31 ?_
        obtain ⟨h9, hv, hM⟩ := e_bs hM
        refine e_putv (C := RX9) (T := TX9) (N := 40) E J hv rfl rfl inX9 tyX9 tyX9_ok nmX9 (by decide) q_5_24 rfl rfl rfl rfl dX9_go_32 (fun H locs J => ?_)
        refine lv_goto (tgt := 0) hx hb dX9_go_35 (by decide) ?_
        exact K0 l0 h9 hM _ _ J _ (lv_sub hl [0] rfl)
set_option maxRecDepth 100000 in
set_option maxHeartbeats 4000000 in
theorem mX9_go_L0 {p : Program} {l : Launch} {e : Env} {s : State} {m : MethodId} {args : Array Value} {below : List Frame} {meth : Method} {c : Code} {G : e_G} {res : e_H} (E : e_M G p s args m meth c cX9_go 2 none RX9) (n : Nat) (l0 : Nat) (h : e_H) (hM : fX9_go_L0 n l0 h = some res) {H : Heap} {locs : List Loc} (J : e_J G s h H locs) {ls : Array Slot} (hl : lv_has ls 2 [(0, .ref (e_ad G l0))]) : W p l e (e_rm 1 21) s m args below meth c H locs 0 0 (MQ below (e_Q G res (none)) args s 0 0 (e_A G)) (F0 m 0 ls []) := by
  induction n generalizing l0 h H locs ls with
  | zero => exact e_no hM
  | succ n ih => exact mX9_go_b0 (k0 := (fX9_go_L0 n)) E   (fun l0 h hM H locs J ls hl => ih l0 h hM J hl) l0 h hM J hl
set_option maxRecDepth 100000 in
set_option maxHeartbeats 4000000 in
theorem mX9_go {l : Launch} {G : e_G} (l0 : Nat) (h : e_H) (res : e_H) (hM : fX9_go l0 h = some res) : Met l yX9_go (e_W yX9_go cX9_go 2 none) (e_rm 1 21) (e_Pc G h [.ref (e_ad G l0)]) (e_Q G res (none)) 0 0 (e_A G) := by
  refine Met.ofW (cc := cX9_go) (maxL := 2) (ret := none) (by decide) rfl ?_
  intro p e s m args below meth c s₁ B hml hv
  obtain ⟨rfl, hS, hP⟩ := hv
  have E := e_enter (own := RX9) (ret := none) B hml rfl hS hP
  have J : e_J G s h s.heap [] := ⟨hP, va_S.rf⟩
  have hl := lv_entry ([.ref (e_ad G l0)]) (n := 2) (Nat.le_of_ble_eq_true rfl)
  rw [lg_entry_eq]
  generalize (lg_sl ([.ref (e_ad G l0)]) ++ List.replicate (2 - (lg_sl ([.ref (e_ad G l0)])).length) Slot.unset).toArray = ls at hl ⊢
  have hl : lv_has ls 2 [(0, .ref (e_ad G l0))] := hl
  obtain ⟨hx, hb, hr, hml, hown, hts, hlocks, hES, hbs⟩ := id E
  unfold fX9_go at hM
  obtain ⟨fs_, hk_, hM⟩ := e_bs hM
  exact mX9_go_L0 E 200 l0 h hM J (lv_sub hl [0] rfl)
set_option maxRecDepth 100000 in
set_option maxHeartbeats 4000000 in
theorem mX9_takesKey_b106 {p : Program} {l : Launch} {e : Env} {s : State} {m : MethodId} {args : Array Value} {below : List Frame} {meth : Method} {c : Code} {G : e_G} {res : (Bool × e_H)} {k12 : Nat → Int32 → e_H → Option (Bool × e_H)} (E : e_M G p s args m meth c cX9_takesKey 5 (some FieldType.boolean) RX9) (K12 : ∀ (l0 : Nat) (l1 : Int32) (h : e_H), k12 l0 l1 h = some res → ∀ (H : Heap) (locs : List Loc), e_J G s h H locs → ∀ (ls : Array Slot), lv_has ls 5 [(0, .ref (e_ad G l0)), (1, .int l1)] → W p l e (e_rm 2 42) s m args below meth c H locs 0 0 (MQ below (e_Q G res.2 (some (.int (e_b res.1)))) args s 0 0 (e_A G)) (F0 m 12 ls [])) (l0 : Nat) (l1 : Int32) (l3 : Int32) (h : e_H) (hM : fX9_takesKey_b106 k12 l0 l1 l3 h = some res) {H : Heap} {locs : List Loc} (J : e_J G s h H locs) {ls : Array Slot} (hl : lv_has ls 5 [(0, .ref (e_ad G l0)), (1, .int l1), (3, .int l3)]) : W p l e (e_rm 2 42) s m args below meth c H locs 0 0 (MQ below (e_Q G res.2 (some (.int (e_b res.1)))) args s 0 0 (e_A G)) (F0 m 106 ls []) := by
  obtain ⟨hx, hb, hr, hml, hown, hts, hlocks, hES, hbs⟩ := id E
  unfold fX9_takesKey_b106 at hM
  refine lv_iload_n hx hb dX9_takesKey_106 rfl (lv_at hl 2 rfl) ?_
  refine lv_if_eq (tgt := 121) hx hb dX9_takesKey_107 (by decide) (fun hc => ?_) (fun hc => ?_)
  · have hM := e_ip hc hM
    refine lv_iinc (v := (l1 + (nI 1))) (lv' := [(1, .int (l1 + (nI 1))), (0, .ref (e_ad G l0)), (3, .int l3)]) hx hb dX9_takesKey_121 hl (k := 1) rfl rfl (by decide) rfl (fun ls hl => ?_)
    refine lv_goto (tgt := 12) hx hb dX9_takesKey_124 (by decide) ?_
    exact K12 l0 (l1 + (nI 1)) h hM _ _ J _ (lv_sub hl [1, 0] rfl)
  · have hM := e_in hc hM
    refine lv_aload_n hx hb dX9_takesKey_110 rfl (lv_at hl 0 rfl) ?_
    refine lv_iload_n hx hb dX9_takesKey_111 rfl (lv_at hl 1 rfl) ?_
    obtain ⟨h1, hv, hM⟩ := e_bs hM
    refine e_putv (C := RX9) (T := TX9) (N := 40) E J hv rfl rfl inX9 tyX9 tyX9_ok nmX9 (by decide) q_5_29 rfl rfl rfl rfl dX9_takesKey_112 (fun H locs J => ?_)
    refine lv_aload_n hx hb dX9_takesKey_115 rfl (lv_at hl 0 rfl) ?_
    obtain ⟨h2, hv, hM⟩ := e_bs hM
    obtain ⟨fs_, hk, -⟩ := e_bs hv
    refine e_callV (ci := 9) (As := []) (rest := []) (n := 0) E J hk rfl (mX9_go (l := l) (G := G) l0 h1 _ hv) q_6_130 q_6_132 q_p_37 q_1_9 q_6_133 (by decide +kernel) rfl ⟨Nat.le_of_ble_eq_true rfl, Nat.le_of_ble_eq_true rfl⟩ (st0 := [.ref (e_ad G l0)]) (st1 := []) rfl rfl hl.1 (Nat.le_of_ble_eq_true rfl) dX9_takesKey_116 ⟨Nat.le_refl _, Nat.le_refl _⟩ (fun H locs J => ?_)
    refine lv_iconst (v := nI 1) hx hb dX9_takesKey_119 (by decide) ?_
    obtain rfl := e_so hM
    exact e_zret E J (true) rfl dX9_takesKey_120
set_option maxRecDepth 100000 in
set_option maxHeartbeats 4000000 in
theorem mX9_takesKey_b99 {p : Program} {l : Launch} {e : Env} {s : State} {m : MethodId} {args : Array Value} {below : List Frame} {meth : Method} {c : Code} {G : e_G} {res : (Bool × e_H)} {k12 : Nat → Int32 → e_H → Option (Bool × e_H)} {k55 : Nat → Int32 → Int32 → Int32 → Int32 → e_H → Option (Bool × e_H)} (E : e_M G p s args m meth c cX9_takesKey 5 (some FieldType.boolean) RX9) (K12 : ∀ (l0 : Nat) (l1 : Int32) (h : e_H), k12 l0 l1 h = some res → ∀ (H : Heap) (locs : List Loc), e_J G s h H locs → ∀ (ls : Array Slot), lv_has ls 5 [(0, .ref (e_ad G l0)), (1, .int l1)] → W p l e (e_rm 2 42) s m args below meth c H locs 0 0 (MQ below (e_Q G res.2 (some (.int (e_b res.1)))) args s 0 0 (e_A G)) (F0 m 12 ls [])) (K55 : ∀ (l0 : Nat) (l1 : Int32) (l2 : Int32) (l3 : Int32) (l4 : Int32) (h : e_H), k55 l0 l1 l2 l3 l4 h = some res → ∀ (H : Heap) (locs : List Loc), e_J G s h H locs → ∀ (ls : Array Slot), lv_has ls 5 [(0, .ref (e_ad G l0)), (1, .int l1), (2, .int l2), (3, .int l3), (4, .int l4)] → W p l e (e_rm 2 42) s m args below meth c H locs 0 0 (MQ below (e_Q G res.2 (some (.int (e_b res.1)))) args s 0 0 (e_A G)) (F0 m 55 ls [])) (l0 : Nat) (l1 : Int32) (l2 : Int32) (l4 : Int32) (t0 : Int32) (h : e_H) (hM : fX9_takesKey_b99 k12 k55 l0 l1 l2 l4 t0 h = some res) {H : Heap} {locs : List Loc} (J : e_J G s h H locs) {ls : Array Slot} (hl : lv_has ls 5 [(0, .ref (e_ad G l0)), (1, .int l1), (2, .int l2), (4, .int l4)]) : W p l e (e_rm 2 42) s m args below meth c H locs 0 0 (MQ below (e_Q G res.2 (some (.int (e_b res.1)))) args s 0 0 (e_A G)) (F0 m 99 ls [.int t0]) := by
  obtain ⟨hx, hb, hr, hml, hown, hts, hlocks, hES, hbs⟩ := id E
  unfold fX9_takesKey_b99 at hM
  refine lv_istore_n (lv' := [(3, .int t0), (0, .ref (e_ad G l0)), (1, .int l1), (2, .int l2), (4, .int l4)]) hx hb dX9_takesKey_99 rfl hl (by decide) rfl (fun ls hl => ?_)
  refine lv_iinc (v := (l4 + (nI 1))) (lv' := [(4, .int (l4 + (nI 1))), (3, .int t0), (0, .ref (e_ad G l0)), (1, .int l1), (2, .int l2)]) hx hb dX9_takesKey_100 hl (k := 4) rfl rfl (by decide) rfl (fun ls hl => ?_)
  refine lv_goto (tgt := 55) hx hb dX9_takesKey_103 (by decide) ?_
  exact K55 l0 l1 l2 t0 (l4 + (nI 1)) h hM _ _ J _ (lv_sub hl [2, 3, 4, 1, 0] rfl)
set_option maxRecDepth 100000 in
set_option maxHeartbeats 4000000 in
theorem mX9_takesKey_b55 {p : Program} {l : Launch} {e : Env} {s : State} {m : MethodId} {args : Array Value} {below : List Frame} {meth : Method} {c : Code} {G : e_G} {res : (Bool × e_H)} {k12 : Nat → Int32 → e_H → Option (Bool × e_H)} {k55 : Nat → Int32 → Int32 → Int32 → Int32 → e_H → Option (Bool × e_H)} (E : e_M G p s args m meth c cX9_takesKey 5 (some FieldType.boolean) RX9) (K12 : ∀ (l0 : Nat) (l1 : Int32) (h : e_H), k12 l0 l1 h = some res → ∀ (H : Heap) (locs : List Loc), e_J G s h H locs → ∀ (ls : Array Slot), lv_has ls 5 [(0, .ref (e_ad G l0)), (1, .int l1)] → W p l e (e_rm 2 42) s m args below meth c H locs 0 0 (MQ below (e_Q G res.2 (some (.int (e_b res.1)))) args s 0 0 (e_A G)) (F0 m 12 ls [])) (K55 : ∀ (l0 : Nat) (l1 : Int32) (l2 : Int32) (l3 : Int32) (l4 : Int32) (h : e_H), k55 l0 l1 l2 l3 l4 h = some res → ∀ (H : Heap) (locs : List Loc), e_J G s h H locs → ∀ (ls : Array Slot), lv_has ls 5 [(0, .ref (e_ad G l0)), (1, .int l1), (2, .int l2), (3, .int l3), (4, .int l4)] → W p l e (e_rm 2 42) s m args below meth c H locs 0 0 (MQ below (e_Q G res.2 (some (.int (e_b res.1)))) args s 0 0 (e_A G)) (F0 m 55 ls [])) (l0 : Nat) (l1 : Int32) (l2 : Int32) (l3 : Int32) (l4 : Int32) (h : e_H) (hM : fX9_takesKey_b55 k12 k55 l0 l1 l2 l3 l4 h = some res) {H : Heap} {locs : List Loc} (J : e_J G s h H locs) {ls : Array Slot} (hl : lv_has ls 5 [(0, .ref (e_ad G l0)), (1, .int l1), (2, .int l2), (3, .int l3), (4, .int l4)]) : W p l e (e_rm 2 42) s m args below meth c H locs 0 0 (MQ below (e_Q G res.2 (some (.int (e_b res.1)))) args s 0 0 (e_A G)) (F0 m 55 ls []) := by
  obtain ⟨hx, hb, hr, hml, hown, hts, hlocks, hES, hbs⟩ := id E
  unfold fX9_takesKey_b55 at hM
  refine lv_iload hx hb dX9_takesKey_55 (lv_at hl 4 rfl) ?_
  refine lv_iload_n hx hb dX9_takesKey_57 rfl (lv_at hl 2 rfl) ?_
  refine lv_icmp_ge (tgt := 106) hx hb dX9_takesKey_58 (by decide) (fun hc => ?_) (fun hc => ?_)
  · have hM := e_ip hc hM
    exact mX9_takesKey_b106 E K12 l0 l1 l3 h hM J (lv_sub hl [0, 1, 3] rfl)
  · have hM := e_in hc hM
    refine lv_iload_n hx hb dX9_takesKey_61 rfl (lv_at hl 3 rfl) ?_
    refine lv_if_eq (tgt := 106) hx hb dX9_takesKey_62 (by decide) (fun hc => ?_) (fun hc => ?_)
    · have hM := e_ip hc hM
      exact mX9_takesKey_b106 E K12 l0 l1 l3 h hM J (lv_sub hl [0, 1, 3] rfl)
    · have hM := e_in hc hM
      refine lv_aload_n hx hb dX9_takesKey_65 rfl (lv_at hl 0 rfl) ?_
      obtain ⟨v1, hv, hM⟩ := e_bs hM
      refine e_getR (C := RX9) (T := TX9) (N := 40) E J hv rfl inX9 (by decide) q_5_22 dX9_takesKey_66 ?_
      rcases v1 with _ | a2
      · have hM := e_on0 hM
        refine W.eq (g2 := F0 m 69 ls [.null]) rfl ?_
        refine lv_aload_n hx hb dX9_takesKey_69 rfl (lv_at hl 0 rfl) ?_
        obtain ⟨v3, hv, hM⟩ := e_bs hM
        refine e_getI (C := RX9) (T := TX9) (N := 40) E J hv rfl inX9 (by decide) q_5_25 dX9_takesKey_70 ?_
        refine lv_iload hx hb dX9_takesKey_73 (lv_at hl 4 rfl) ?_
        refine lv_iadd hx hb dX9_takesKey_75 ?_
        exact e_no hM
      · have hM := e_on1 hM
        refine W.eq (g2 := F0 m 69 ls [.ref (e_ad G a2)]) rfl ?_
        refine lv_aload_n hx hb dX9_takesKey_69 rfl (lv_at hl 0 rfl) ?_
        obtain ⟨v4, hv, hM⟩ := e_bs hM
        refine e_getI (C := RX9) (T := TX9) (N := 40) E J hv rfl inX9 (by decide) q_5_25 dX9_takesKey_70 ?_
        refine lv_iload hx hb dX9_takesKey_73 (lv_at hl 4 rfl) ?_
        refine lv_iadd hx hb dX9_takesKey_75 ?_
        obtain ⟨v5, hv, hM⟩ := e_bs hM
        refine e_iald E J hv dX9_takesKey_76 ?_
        refine lv_aload_n hx hb dX9_takesKey_77 rfl (lv_at hl 0 rfl) ?_
        obtain ⟨v6, hv, hM⟩ := e_bs hM
        refine e_getR (C := RX9) (T := TX9) (N := 40) E J hv rfl inX9 (by decide) q_5_30 dX9_takesKey_78 ?_
        rcases v6 with _ | a7
        · have hM := e_on0 hM
          refine W.eq (g2 := F0 m 81 ls [.null, .int v5]) rfl ?_
          refine lv_aload_n hx hb dX9_takesKey_81 rfl (lv_at hl 0 rfl) ?_
          obtain ⟨v8, hv, hM⟩ := e_bs hM
          refine e_getR (C := RX9) (T := TX9) (N := 40) E J hv rfl inX9 (by decide) q_5_31 dX9_takesKey_82 ?_
          rcases v8 with _ | a9
          · have hM := e_on0 hM
            refine W.eq (g2 := F0 m 85 ls [.null, .null, .int v5]) rfl ?_
            refine lv_iload_n hx hb dX9_takesKey_85 rfl (lv_at hl 1 rfl) ?_
            exact e_no hM
          · have hM := e_on1 hM
            refine W.eq (g2 := F0 m 85 ls [.ref (e_ad G a9), .null, .int v5]) rfl ?_
            refine lv_iload_n hx hb dX9_takesKey_85 rfl (lv_at hl 1 rfl) ?_
            obtain ⟨v10, hv, hM⟩ := e_bs hM
            refine e_iald E J hv dX9_takesKey_86 ?_
            refine lv_iload hx hb dX9_takesKey_87 (lv_at hl 4 rfl) ?_
            refine lv_iadd hx hb dX9_takesKey_89 ?_
            exact e_no hM
        · have hM := e_on1 hM
          refine W.eq (g2 := F0 m 81 ls [.ref (e_ad G a7), .int v5]) rfl ?_
          refine lv_aload_n hx hb dX9_takesKey_81 rfl (lv_at hl 0 rfl) ?_
          obtain ⟨v11, hv, hM⟩ := e_bs hM
          refine e_getR (C := RX9) (T := TX9) (N := 40) E J hv rfl inX9 (by decide) q_5_31 dX9_takesKey_82 ?_
          rcases v11 with _ | a12
          · have hM := e_on0 hM
            refine W.eq (g2 := F0 m 85 ls [.null, .ref (e_ad G a7), .int v5]) rfl ?_
            refine lv_iload_n hx hb dX9_takesKey_85 rfl (lv_at hl 1 rfl) ?_
            exact e_no hM
          · have hM := e_on1 hM
            refine W.eq (g2 := F0 m 85 ls [.ref (e_ad G a12), .ref (e_ad G a7), .int v5]) rfl ?_
            refine lv_iload_n hx hb dX9_takesKey_85 rfl (lv_at hl 1 rfl) ?_
            obtain ⟨v13, hv, hM⟩ := e_bs hM
            refine e_iald E J hv dX9_takesKey_86 ?_
            refine lv_iload hx hb dX9_takesKey_87 (lv_at hl 4 rfl) ?_
            refine lv_iadd hx hb dX9_takesKey_89 ?_
            obtain ⟨v14, hv, hM⟩ := e_bs hM
            refine e_cald E J hv dX9_takesKey_90 ?_
            refine lv_icmp_ne (tgt := 98) hx hb dX9_takesKey_91 (by decide) (fun hc => ?_) (fun hc => ?_)
            · have hM := e_in hc hM
              refine lv_iconst (v := nI 0) hx hb dX9_takesKey_98 (by decide) ?_
              exact mX9_takesKey_b99 E K12 K55 l0 l1 l2 l4 (nI 0) h hM J (lv_sub hl [0, 1, 2, 4] rfl)
            · have hM := e_ip hc hM
              refine lv_iconst (v := nI 1) hx hb dX9_takesKey_94 (by decide) ?_
              refine lv_goto (tgt := 99) hx hb dX9_takesKey_95 (by decide) ?_
              exact mX9_takesKey_b99 E K12 K55 l0 l1 l2 l4 (nI 1) h hM J (lv_sub hl [0, 1, 2, 4] rfl)
set_option maxRecDepth 100000 in
set_option maxHeartbeats 4000000 in
theorem mX9_takesKey_L55 {p : Program} {l : Launch} {e : Env} {s : State} {m : MethodId} {args : Array Value} {below : List Frame} {meth : Method} {c : Code} {G : e_G} {res : (Bool × e_H)} {k12 : Nat → Int32 → e_H → Option (Bool × e_H)} (E : e_M G p s args m meth c cX9_takesKey 5 (some FieldType.boolean) RX9) (K12 : ∀ (l0 : Nat) (l1 : Int32) (h : e_H), k12 l0 l1 h = some res → ∀ (H : Heap) (locs : List Loc), e_J G s h H locs → ∀ (ls : Array Slot), lv_has ls 5 [(0, .ref (e_ad G l0)), (1, .int l1)] → W p l e (e_rm 2 42) s m args below meth c H locs 0 0 (MQ below (e_Q G res.2 (some (.int (e_b res.1)))) args s 0 0 (e_A G)) (F0 m 12 ls [])) (n : Nat) (l0 : Nat) (l1 : Int32) (l2 : Int32) (l3 : Int32) (l4 : Int32) (h : e_H) (hM : fX9_takesKey_L55 k12 n l0 l1 l2 l3 l4 h = some res) {H : Heap} {locs : List Loc} (J : e_J G s h H locs) {ls : Array Slot} (hl : lv_has ls 5 [(0, .ref (e_ad G l0)), (1, .int l1), (2, .int l2), (3, .int l3), (4, .int l4)]) : W p l e (e_rm 2 42) s m args below meth c H locs 0 0 (MQ below (e_Q G res.2 (some (.int (e_b res.1)))) args s 0 0 (e_A G)) (F0 m 55 ls []) := by
  induction n generalizing l0 l1 l2 l3 l4 h H locs ls with
  | zero => exact e_no hM
  | succ n ih => exact mX9_takesKey_b55 (k55 := (fX9_takesKey_L55 k12 n)) E  K12 (fun l0 l1 l2 l3 l4 h hM H locs J ls hl => ih l0 l1 l2 l3 l4 h hM J hl) l0 l1 l2 l3 l4 h hM J hl
set_option maxRecDepth 100000 in
set_option maxHeartbeats 4000000 in
theorem mX9_takesKey_b51 {p : Program} {l : Launch} {e : Env} {s : State} {m : MethodId} {args : Array Value} {below : List Frame} {meth : Method} {c : Code} {G : e_G} {res : (Bool × e_H)} {k12 : Nat → Int32 → e_H → Option (Bool × e_H)} (E : e_M G p s args m meth c cX9_takesKey 5 (some FieldType.boolean) RX9) (K12 : ∀ (l0 : Nat) (l1 : Int32) (h : e_H), k12 l0 l1 h = some res → ∀ (H : Heap) (locs : List Loc), e_J G s h H locs → ∀ (ls : Array Slot), lv_has ls 5 [(0, .ref (e_ad G l0)), (1, .int l1)] → W p l e (e_rm 2 42) s m args below meth c H locs 0 0 (MQ below (e_Q G res.2 (some (.int (e_b res.1)))) args s 0 0 (e_A G)) (F0 m 12 ls [])) (l0 : Nat) (l1 : Int32) (l2 : Int32) (t0 : Int32) (h : e_H) (hM : fX9_takesKey_b51 k12 l0 l1 l2 t0 h = some res) {H : Heap} {locs : List Loc} (J : e_J G s h H locs) {ls : Array Slot} (hl : lv_has ls 5 [(0, .ref (e_ad G l0)), (1, .int l1), (2, .int l2)]) : W p l e (e_rm 2 42) s m args below meth c H locs 0 0 (MQ below (e_Q G res.2 (some (.int (e_b res.1)))) args s 0 0 (e_A G)) (F0 m 51 ls [.int t0]) := by
  obtain ⟨hx, hb, hr, hml, hown, hts, hlocks, hES, hbs⟩ := id E
  unfold fX9_takesKey_b51 at hM
  refine lv_istore_n (lv' := [(3, .int t0), (0, .ref (e_ad G l0)), (1, .int l1), (2, .int l2)]) hx hb dX9_takesKey_51 rfl hl (by decide) rfl (fun ls hl => ?_)
  refine lv_iconst (v := nI 0) hx hb dX9_takesKey_52 (by decide) ?_
  refine lv_istore (lv' := [(4, .int (nI 0)), (3, .int t0), (0, .ref (e_ad G l0)), (1, .int l1), (2, .int l2)]) hx hb dX9_takesKey_53 hl (by decide) rfl (fun ls hl => ?_)
  exact mX9_takesKey_L55 E K12 200 l0 l1 l2 t0 (nI 0) h hM J (lv_sub hl [2, 3, 4, 1, 0] rfl)
set_option maxRecDepth 100000 in
set_option maxHeartbeats 4000000 in
theorem mX9_takesKey_b12 {p : Program} {l : Launch} {e : Env} {s : State} {m : MethodId} {args : Array Value} {below : List Frame} {meth : Method} {c : Code} {G : e_G} {res : (Bool × e_H)} {k12 : Nat → Int32 → e_H → Option (Bool × e_H)} (E : e_M G p s args m meth c cX9_takesKey 5 (some FieldType.boolean) RX9) (K12 : ∀ (l0 : Nat) (l1 : Int32) (h : e_H), k12 l0 l1 h = some res → ∀ (H : Heap) (locs : List Loc), e_J G s h H locs → ∀ (ls : Array Slot), lv_has ls 5 [(0, .ref (e_ad G l0)), (1, .int l1)] → W p l e (e_rm 2 42) s m args below meth c H locs 0 0 (MQ below (e_Q G res.2 (some (.int (e_b res.1)))) args s 0 0 (e_A G)) (F0 m 12 ls [])) (l0 : Nat) (l1 : Int32) (h : e_H) (hM : fX9_takesKey_b12 k12 l0 l1 h = some res) {H : Heap} {locs : List Loc} (J : e_J G s h H locs) {ls : Array Slot} (hl : lv_has ls 5 [(0, .ref (e_ad G l0)), (1, .int l1)]) : W p l e (e_rm 2 42) s m args below meth c H locs 0 0 (MQ below (e_Q G res.2 (some (.int (e_b res.1)))) args s 0 0 (e_A G)) (F0 m 12 ls []) := by
  obtain ⟨hx, hb, hr, hml, hown, hts, hlocks, hES, hbs⟩ := id E
  unfold fX9_takesKey_b12 at hM
  refine lv_iload_n hx hb dX9_takesKey_12 rfl (lv_at hl 1 rfl) ?_
  refine lv_iconst (v := nI 3) hx hb dX9_takesKey_13 (by decide) ?_
  refine lv_icmp_ge (tgt := 127) hx hb dX9_takesKey_14 (by decide) (fun hc => ?_) (fun hc => ?_)
  · have hM := e_ip hc hM
    refine lv_iconst (v := nI 0) hx hb dX9_takesKey_127 (by decide) ?_
    obtain rfl := e_so hM
    exact e_zret E J (false) rfl dX9_takesKey_128
  · have hM := e_in hc hM
    refine lv_aload_n hx hb dX9_takesKey_17 rfl (lv_at hl 0 rfl) ?_
    obtain ⟨v1, hv, hM⟩ := e_bs hM
    refine e_getR (C := RX9) (T := TX9) (N := 40) E J hv rfl inX9 (by decide) q_5_31 dX9_takesKey_18 ?_
    rcases v1 with _ | a2
    · have hM := e_on0 hM
      refine W.eq (g2 := F0 m 21 ls [.null]) rfl ?_
      refine lv_iload_n hx hb dX9_takesKey_21 rfl (lv_at hl 1 rfl) ?_
      refine lv_iconst (v := nI 1) hx hb dX9_takesKey_22 (by decide) ?_
      refine lv_iadd hx hb dX9_takesKey_23 ?_
      exact e_no hM
    · have hM := e_on1 hM
      refine W.eq (g2 := F0 m 21 ls [.ref (e_ad G a2)]) rfl ?_
      refine lv_iload_n hx hb dX9_takesKey_21 rfl (lv_at hl 1 rfl) ?_
      refine lv_iconst (v := nI 1) hx hb dX9_takesKey_22 (by decide) ?_
      refine lv_iadd hx hb dX9_takesKey_23 ?_
      obtain ⟨v3, hv, hM⟩ := e_bs hM
      refine e_iald E J hv dX9_takesKey_24 ?_
      refine lv_aload_n hx hb dX9_takesKey_25 rfl (lv_at hl 0 rfl) ?_
      obtain ⟨v4, hv, hM⟩ := e_bs hM
      refine e_getR (C := RX9) (T := TX9) (N := 40) E J hv rfl inX9 (by decide) q_5_31 dX9_takesKey_26 ?_
      rcases v4 with _ | a5
      · have hM := e_on0 hM
        refine W.eq (g2 := F0 m 29 ls [.null, .int v3]) rfl ?_
        refine lv_iload_n hx hb dX9_takesKey_29 rfl (lv_at hl 1 rfl) ?_
        exact e_no hM
      · have hM := e_on1 hM
        refine W.eq (g2 := F0 m 29 ls [.ref (e_ad G a5), .int v3]) rfl ?_
        refine lv_iload_n hx hb dX9_takesKey_29 rfl (lv_at hl 1 rfl) ?_
        obtain ⟨v6, hv, hM⟩ := e_bs hM
        refine e_iald E J hv dX9_takesKey_30 ?_
        refine lv_isub hx hb dX9_takesKey_31 ?_
        refine lv_istore_n (lv' := [(2, .int (v3 - v6)), (0, .ref (e_ad G l0)), (1, .int l1)]) hx hb dX9_takesKey_32 rfl hl (by decide) rfl (fun ls hl => ?_)
        refine lv_iload_n hx hb dX9_takesKey_33 rfl (lv_at hl 0 rfl) ?_
        refine lv_aload_n hx hb dX9_takesKey_34 rfl (lv_at hl 1 rfl) ?_
        obtain ⟨v7, hv, hM⟩ := e_bs hM
        refine e_getI (C := RX9) (T := TX9) (N := 40) E J hv rfl inX9 (by decide) q_5_24 dX9_takesKey_35 ?_
        refine lv_aload_n hx hb dX9_takesKey_38 rfl (lv_at hl 1 rfl) ?_
        obtain ⟨v8, hv, hM⟩ := e_bs hM
        refine e_getI (C := RX9) (T := TX9) (N := 40) E J hv rfl inX9 (by decide) q_5_25 dX9_takesKey_39 ?_
        refine lv_isub hx hb dX9_takesKey_42 ?_
        refine lv_icmp_ne (tgt := 50) hx hb dX9_takesKey_43 (by decide) (fun hc => ?_) (fun hc => ?_)
        · have hM := e_in hc hM
          refine lv_iconst (v := nI 0) hx hb dX9_takesKey_50 (by decide) ?_
          exact mX9_takesKey_b51 E K12 l0 l1 (v3 - v6) (nI 0) h hM J (lv_sub hl [1, 2, 0] rfl)
        · have hM := e_ip hc hM
          refine lv_iconst (v := nI 1) hx hb dX9_takesKey_46 (by decide) ?_
          refine lv_goto (tgt := 51) hx hb dX9_takesKey_47 (by decide) ?_
          exact mX9_takesKey_b51 E K12 l0 l1 (v3 - v6) (nI 1) h hM J (lv_sub hl [1, 2, 0] rfl)
set_option maxRecDepth 100000 in
set_option maxHeartbeats 4000000 in
theorem mX9_takesKey_L12 {p : Program} {l : Launch} {e : Env} {s : State} {m : MethodId} {args : Array Value} {below : List Frame} {meth : Method} {c : Code} {G : e_G} {res : (Bool × e_H)} (E : e_M G p s args m meth c cX9_takesKey 5 (some FieldType.boolean) RX9) (n : Nat) (l0 : Nat) (l1 : Int32) (h : e_H) (hM : fX9_takesKey_L12 n l0 l1 h = some res) {H : Heap} {locs : List Loc} (J : e_J G s h H locs) {ls : Array Slot} (hl : lv_has ls 5 [(0, .ref (e_ad G l0)), (1, .int l1)]) : W p l e (e_rm 2 42) s m args below meth c H locs 0 0 (MQ below (e_Q G res.2 (some (.int (e_b res.1)))) args s 0 0 (e_A G)) (F0 m 12 ls []) := by
  induction n generalizing l0 l1 h H locs ls with
  | zero => exact e_no hM
  | succ n ih => exact mX9_takesKey_b12 (k12 := (fX9_takesKey_L12 n)) E   (fun l0 l1 h hM H locs J ls hl => ih l0 l1 h hM J hl) l0 l1 h hM J hl
set_option maxRecDepth 100000 in
set_option maxHeartbeats 4000000 in
theorem mX9_takesKey {l : Launch} {G : e_G} (l0 : Nat) (h : e_H) (res : (Bool × e_H)) (hM : fX9_takesKey l0 h = some res) : Met l yX9_takesKey (e_W yX9_takesKey cX9_takesKey 5 (some FieldType.boolean)) (e_rm 2 42) (e_Pc G h [.ref (e_ad G l0)]) (e_Q G res.2 (some (.int (e_b res.1)))) 0 0 (e_A G) := by
  refine Met.ofW (cc := cX9_takesKey) (maxL := 5) (ret := (some FieldType.boolean)) (by decide) rfl ?_
  intro p e s m args below meth c s₁ B hml hv
  obtain ⟨rfl, hS, hP⟩ := hv
  have E := e_enter (own := RX9) (ret := (some FieldType.boolean)) B hml rfl hS hP
  have J : e_J G s h s.heap [] := ⟨hP, va_S.rf⟩
  have hl := lv_entry ([.ref (e_ad G l0)]) (n := 5) (Nat.le_of_ble_eq_true rfl)
  rw [lg_entry_eq]
  generalize (lg_sl ([.ref (e_ad G l0)]) ++ List.replicate (5 - (lg_sl ([.ref (e_ad G l0)])).length) Slot.unset).toArray = ls at hl ⊢
  have hl : lv_has ls 5 [(0, .ref (e_ad G l0))] := hl
  obtain ⟨hx, hb, hr, hml, hown, hts, hlocks, hES, hbs⟩ := id E
  unfold fX9_takesKey at hM
  obtain ⟨fs_, hk_, hM⟩ := e_bs hM
  refine lv_aload_n hx hb dX9_takesKey_0 rfl (lv_at hl 0 rfl) ?_
  obtain ⟨v1, hv, hM⟩ := e_bs hM
  refine e_getI (C := RX9) (T := TX9) (N := 40) E J hv rfl inX9 (by decide) q_5_26 dX9_takesKey_1 ?_
  refine lv_iconst (v := nI 1) hx hb dX9_takesKey_4 (by decide) ?_
  refine lv_icmp_eq (tgt := 10) hx hb dX9_takesKey_5 (by decide) (fun hc => ?_) (fun hc => ?_)
  · have hM := e_ip hc hM
    refine lv_iconst (v := nI 0) hx hb dX9_takesKey_10 (by decide) ?_
    refine lv_istore_n (lv' := [(1, .int (nI 0)), (0, .ref (e_ad G l0))]) hx hb dX9_takesKey_11 rfl hl (by decide) rfl (fun ls hl => ?_)
    exact mX9_takesKey_L12 E 200 l0 (nI 0) h hM J (lv_sub hl [1, 0] rfl)
  · have hM := e_in hc hM
    refine lv_iconst (v := nI 0) hx hb dX9_takesKey_8 (by decide) ?_
    obtain rfl := e_so hM
    exact e_zret E J (false) rfl dX9_takesKey_9
