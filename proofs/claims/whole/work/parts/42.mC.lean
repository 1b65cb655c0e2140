set_option maxRecDepth 100000 in
set_option maxHeartbeats 4000000 in
theorem mX8_trim {l : Launch} {G : e_G} (l0 : Nat) (l1 : Int32) (h : e_H) (res : (Int32 × e_H)) (hM : fX8_trim l0 l1 h = some res) : Met l yX8_trim (e_W yX8_trim cX8_trim 2 (some FieldType.int)) (e_rm 0 0) (e_Pc G h [.ref (e_ad G l0), .int l1]) (e_Q G res.2 (some (.int res.1))) 0 0 (e_A G) := by
  refine Met.ofW (cc := cX8_trim) (maxL := 2) (ret := (some FieldType.int)) (by decide) rfl ?_
  intro p e s m args below meth c s₁ B hml hv
  obtain ⟨rfl, hS, hP⟩ := hv
  have E := e_enter (own := RX8) (ret := (some FieldType.int)) B hml rfl hS hP
  have J : e_J G s h s.heap [] := ⟨hP, va_S.rf⟩
  have hl := lv_entry ([.ref (e_ad G l0), .int l1]) (n := 2) (Nat.le_of_ble_eq_true rfl)
  rw [lg_entry_eq]
  generalize (lg_sl ([.ref (e_ad G l0), .int l1]) ++ List.replicate (2 - (lg_sl ([.ref (e_ad G l0), .int l1])).length) Slot.unset).toArray = ls at hl ⊢
  have hl : lv_has ls 2 [(0, .ref (e_ad G l0)), (1, .int l1)] := hl
  obtain ⟨hx, hb, hr, hml, hown, hts, hlocks, hES, hbs⟩ := id E
  unfold fX8_trim at hM
  obtain ⟨fs_, hk_, hM⟩ := e_bs hM
  refine lv_iload_n hx hb dX8_trim_0 rfl (lv_at hl 1 rfl) ?_
  refine lv_if_lt (tgt := 15) hx hb dX8_trim_1 (by decide) (fun hc => ?_) (fun hc => ?_)
  · have hM := e_ip hc hM
    refine lv_ldc (v := -1000000001) hx hb hown (hts _ q_1_237) dX8_trim_15 ?_
    obtain rfl := e_so hM
    exact e_iret E J dX8_trim_17
  · have hM := e_in hc hM
    refine lv_iload_n hx hb dX8_trim_4 rfl (lv_at hl 1 rfl) ?_
    refine lv_aload_n hx hb dX8_trim_5 rfl (lv_at hl 0 rfl) ?_
    obtain ⟨v1, hv, hM⟩ := e_bs hM
    refine e_getR (C := RX8) (T := TX8) (N := 10) E J hv rfl inX8 (by decide) q_1_203 dX8_trim_6 ?_
    rcases v1 with _ | a2
    · have hM := e_on0 hM
      refine W.eq (g2 := F0 m 9 ls [.null, .int l1]) rfl ?_
      exact e_no hM
    · have hM := e_on1 hM
      refine W.eq (g2 := F0 m 9 ls [.ref (e_ad G a2), .int l1]) rfl ?_
      obtain ⟨v3, hv, hM⟩ := e_bs hM
      refine e_getI (C := RX5) (T := TX5) (N := 7) E J hv rfl inX5 (by decide) q_1_129 dX8_trim_9 ?_
      refine lv_icmp_le (tgt := 18) hx hb dX8_trim_12 (by decide) (fun hc => ?_) (fun hc => ?_)
      · have hM := e_ip hc hM
        refine lv_aload_n hx hb dX8_trim_18 rfl (lv_at hl 0 rfl) ?_
        obtain ⟨v4, hv, hM⟩ := e_bs hM
        refine e_getR (C := RX8) (T := TX8) (N := 10) E J hv rfl inX8 (by decide) q_1_203 dX8_trim_19 ?_
        rcases v4 with _ | a5
        · have hM := e_on0 hM
          refine W.eq (g2 := F0 m 22 ls [.null]) rfl ?_
          refine lv_iload_n hx hb dX8_trim_22 rfl (lv_at hl 1 rfl) ?_
          exact e_no hM
        · have hM := e_on1 hM
          refine W.eq (g2 := F0 m 22 ls [.ref (e_ad G a5)]) rfl ?_
          refine lv_iload_n hx hb dX8_trim_22 rfl (lv_at hl 1 rfl) ?_
          obtain ⟨h6, hv, hM⟩ := e_bs hM
          refine e_putv (C := RX5) (T := TX5) (N := 7) E J hv rfl rfl inX5 tyX5 tyX5_ok nmX5 (by decide) q_1_129 rfl rfl rfl rfl dX8_trim_23 (fun H locs J => ?_)
          refine lv_iload_n hx hb dX8_trim_26 rfl (lv_at hl 1 rfl) ?_
          obtain rfl := e_so hM
          exact e_iret E J dX8_trim_27
      · have hM := e_in hc hM
        refine lv_ldc (v := -1000000001) hx hb hown (hts _ q_1_237) dX8_trim_15 ?_
        obtain rfl := e_so hM
        exact e_iret E J dX8_trim_17
set_option maxRecDepth 100000 in
set_option maxHeartbeats 4000000 in
theorem mX5_byteAt {l : Launch} {G : e_G} (l0 : Nat) (l1 : Int32) (h : e_H) (res : Int32) (hM : fX5_byteAt l0 l1 h = some res) : Met l yX5_byteAt (e_W yX5_byteAt cX5_byteAt 2 (some FieldType.int)) (e_rm 0 0) (e_Pc G h [.ref (e_ad G l0), .int l1]) (e_Q G h (some (.int res))) 0 0 (e_A G) := by
  refine Met.ofW (cc := cX5_byteAt) (maxL := 2) (ret := (some FieldType.int)) (by decide) rfl ?_
  intro p e s m args below meth c s₁ B hml hv
  obtain ⟨rfl, hS, hP⟩ := hv
  have E := e_enter (own := RX5) (ret := (some FieldType.int)) B hml rfl hS hP
  have J : e_J G s h s.heap [] := ⟨hP, va_S.rf⟩
  have hl := lv_entry ([.ref (e_ad G l0), .int l1]) (n := 2) (Nat.le_of_ble_eq_true rfl)
  rw [lg_entry_eq]
  generalize (lg_sl ([.ref (e_ad G l0), .int l1]) ++ List.replicate (2 - (lg_sl ([.ref (e_ad G l0), .int l1])).length) Slot.unset).toArray = ls at hl ⊢
  have hl : lv_has ls 2 [(0, .ref (e_ad G l0)), (1, .int l1)] := hl
  obtain ⟨hx, hb, hr, hml, hown, hts, hlocks, hES, hbs⟩ := id E
  unfold fX5_byteAt at hM
  obtain ⟨fs_, hk_, hM⟩ := e_bs hM
  refine lv_iload_n hx hb dX5_byteAt_0 rfl (lv_at hl 1 rfl) ?_
  refine lv_if_lt (tgt := 21) hx hb dX5_byteAt_1 (by decide) (fun hc => ?_) (fun hc => ?_)
  · have hM := e_ip hc hM
    refine lv_iconst (v := -1) hx hb dX5_byteAt_21 (by decide) ?_
    refine lv_goto (tgt := 31) hx hb dX5_byteAt_22 (by decide) ?_
    obtain rfl := e_so hM
    exact e_iret E J dX5_byteAt_31
  · have hM := e_in hc hM
    refine lv_iload_n hx hb dX5_byteAt_4 rfl (lv_at hl 1 rfl) ?_
    refine lv_aload_n hx hb dX5_byteAt_5 rfl (lv_at hl 0 rfl) ?_
    obtain ⟨v1, hv, hM⟩ := e_bs hM
    refine e_getI (C := RX5) (T := TX5) (N := 7) E J hv rfl inX5 (by decide) q_1_128 dX5_byteAt_6 ?_
    refine lv_icmp_ge (tgt := 21) hx hb dX5_byteAt_9 (by decide) (fun hc => ?_) (fun hc => ?_)
    · have hM := e_ip hc hM
      refine lv_iconst (v := -1) hx hb dX5_byteAt_21 (by decide) ?_
      refine lv_goto (tgt := 31) hx hb dX5_byteAt_22 (by decide) ?_
      obtain rfl := e_so hM
      exact e_iret E J dX5_byteAt_31
    · have hM := e_in hc hM
      refine lv_iload_n hx hb dX5_byteAt_12 rfl (lv_at hl 1 rfl) ?_
      refine lv_aload_n hx hb dX5_byteAt_13 rfl (lv_at hl 0 rfl) ?_
      obtain ⟨v2, hv, hM⟩ := e_bs hM
      refine e_getR (C := RX5) (T := TX5) (N := 7) E J hv rfl inX5 (by decide) q_1_130 dX5_byteAt_14 ?_
      rcases v2 with _ | a3
      · have hM := e_on0 hM
        refine W.eq (g2 := F0 m 17 ls [.null, .int l1]) rfl ?_
        exact e_no hM
      · have hM := e_on1 hM
        refine W.eq (g2 := F0 m 17 ls [.ref (e_ad G a3), .int l1]) rfl ?_
        obtain ⟨v4, hv, hM⟩ := e_bs hM
        refine e_alen E J hv rfl rfl dX5_byteAt_17 ?_
        refine lv_icmp_lt (tgt := 25) hx hb dX5_byteAt_18 (by decide) (fun hc => ?_) (fun hc => ?_)
        · have hM := e_ip hc hM
          refine lv_aload_n hx hb dX5_byteAt_25 rfl (lv_at hl 0 rfl) ?_
          obtain ⟨v5, hv, hM⟩ := e_bs hM
          refine e_getR (C := RX5) (T := TX5) (N := 7) E J hv rfl inX5 (by decide) q_1_130 dX5_byteAt_26 ?_
          rcases v5 with _ | a6
          · have hM := e_on0 hM
            refine W.eq (g2 := F0 m 29 ls [.null]) rfl ?_
            refine lv_iload_n hx hb dX5_byteAt_29 rfl (lv_at hl 1 rfl) ?_
            exact e_no hM
          · have hM := e_on1 hM
            refine W.eq (g2 := F0 m 29 ls [.ref (e_ad G a6)]) rfl ?_
            refine lv_iload_n hx hb dX5_byteAt_29 rfl (lv_at hl 1 rfl) ?_
            obtain ⟨v7, hv, hM⟩ := e_bs hM
            refine e_iald E J hv dX5_byteAt_30 ?_
            obtain rfl := e_so hM
            exact e_iret E J dX5_byteAt_31
        · have hM := e_in hc hM
          refine lv_iconst (v := -1) hx hb dX5_byteAt_21 (by decide) ?_
          refine lv_goto (tgt := 31) hx hb dX5_byteAt_22 (by decide) ?_
          obtain rfl := e_so hM
          exact e_iret E J dX5_byteAt_31
set_option maxRecDepth 100000 in
set_option maxHeartbeats 4000000 in
theorem mX5_skipBlanks_b2 {p : Program} {l : Launch} {e : Env} {s : State} {m : MethodId} {args : Array Value} {below : List Frame} {meth : Method} {c : Code} {G : e_G} {res : e_H} {k2 : Nat → Int32 → e_H → Option e_H} (E : e_M G p s args m meth c cX5_skipBlanks 2 none RX5) (K2 : ∀ (l0 : Nat) (l1 : Int32) (h : e_H), k2 l0 l1 h = some res → ∀ (H : Heap) (locs : List Loc), e_J G s h H locs → ∀ (ls : Array Slot), lv_has ls 2 [(0, .ref (e_ad G l0)), (1, .int l1)] → W p l e (e_rm 1 21) s m args below meth c H locs 0 0 (MQ below (e_Q G res (none)) args s 0 0 (e_A G)) (F0 m 2 ls [])) (l0 : Nat) (l1 : Int32) (h : e_H) (hM : fX5_skipBlanks_b2 k2 l0 l1 h = some res) {H : Heap} {locs : List Loc} (J : e_J G s h H locs) {ls : Array Slot} (hl : lv_has ls 2 [(0, .ref (e_ad G l0)), (1, .int l1)]) : W p l e (e_rm 1 21) s m args below meth c H locs 0 0 (MQ below (e_Q G res (none)) args s 0 0 (e_A G)) (F0 m 2 ls []) := by
  obtain ⟨hx, hb, hr, hml, hown, hts, hlocks, hES, hbs⟩ := id E
  unfold fX5_skipBlanks_b2 at hM
  refine lv_iload_n hx hb dX5_skipBlanks_2 rfl (lv_at hl 1 rfl) ?_
  refine lv_bipush (v := nI 96) hx hb dX5_skipBlanks_3 (by decide) ?_
  refine lv_icmp_ge (tgt := 37) hx hb dX5_skipBlanks_5 (by decide) (fun hc => ?_) (fun hc => ?_)
  · have hM := e_ip hc hM
    obtain rfl := e_so hM
    exact e_vret E J dX5_skipBlanks_37
  · have hM := e_in hc hM
    refine lv_aload_n hx hb dX5_skipBlanks_8 rfl (lv_at hl 0 rfl) ?_
    refine lv_aload_n hx hb dX5_skipBlanks_9 rfl (lv_at hl 0 rfl) ?_
    obtain ⟨v1, hv, hM⟩ := e_bs hM
    refine e_getI (C := RX5) (T := TX5) (N := 7) E J hv rfl inX5 (by decide) q_1_133 dX5_skipBlanks_10 ?_
    obtain ⟨v2, hv, hM⟩ := e_bs hM
    obtain ⟨fs_, hk, -⟩ := e_bs hv
    refine e_callV (ci := 5) (As := [.int v1]) (rest := []) (n := 1) E J hk rfl (mX5_byteAt (l := l) (G := G) l0 v1 h _ hv) q_3_164 q_3_166 q_p_7 q_1_6 q_3_167 (by decide +kernel) rfl ⟨Nat.le_of_ble_eq_true rfl, Nat.le_of_ble_eq_true rfl⟩ (st0 := [.int v1, .ref (e_ad G l0)]) (st1 := [.int v2]) rfl rfl hl.1 (Nat.le_of_ble_eq_true rfl) dX5_skipBlanks_13 ⟨Nat.le_refl _, Nat.le_refl _⟩ (fun H locs J => ?_)
    refine lv_bipush (v := nI 32) hx hb dX5_skipBlanks_16 (by decide) ?_
    refine lv_icmp_ne (tgt := 37) hx hb dX5_skipBlanks_18 (by decide) (fun hc => ?_) (fun hc => ?_)
    · have hM := e_in hc hM
      obtain rfl := e_so hM
      exact e_vret E J dX5_skipBlanks_37
    · have hM := e_ip hc hM
      refine lv_aload_n hx hb dX5_skipBlanks_21 rfl (lv_at hl 0 rfl) ?_
      refine lv_dup hx hb dX5_skipBlanks_22 rfl ?_
      obtain ⟨v3, hv, hM⟩ := e_bs hM
      refine e_getI (C := RX5) (T := TX5) (N := 7) E J hv rfl inX5 (by decide) q_1_133 dX5_skipBlanks_23 ?_
      refine lv_iconst (v := nI 1) hx hb dX5_skipBlanks_26 (by decide) ?_
      refine lv_iadd hx hb dX5_skipBlanks_27 ?_
      obtain ⟨h4, hv, hM⟩ := e_bs hM
      refine e_putv (C := RX5) (T := TX5) (N := 7) E J hv rfl rfl inX5 tyX5 tyX5_ok nmX5 (by decide) q_1_133 rfl rfl rfl rfl dX5_skipBlanks_28 (fun H locs J => ?_)
      refine lv_iinc (v := (l1 + (nI 1))) (lv' := [(1, .int (l1 + (nI 1))), (0, .ref (e_ad G l0))]) hx hb dX5_skipBlanks_31 hl (k := 1) rfl rfl (by decide) rfl (fun ls hl => ?_)
      refine lv_goto (tgt := 2) hx hb dX5_skipBlanks_34 (by decide) ?_
      exact K2 l0 (l1 + (nI 1)) h4 hM _ _ J _ (lv_sub hl [1, 0] rfl)
set_option maxRecDepth 100000 in
set_option maxHeartbeats 4000000 in
theorem mX5_skipBlanks_L2 {p : Program} {l : Launch} {e : Env} {s : State} {m : MethodId} {args : Array Value} {below : List Frame} {meth : Method} {c : Code} {G : e_G} {res : e_H} (E : e_M G p s args m meth c cX5_skipBlanks 2 none RX5) (n : Nat) (l0 : Nat) (l1 : Int32) (h : e_H) (hM : fX5_skipBlanks_L2 n l0 l1 h = some res) {H : Heap} {locs : List Loc} (J : e_J G s h H locs) {ls : Array Slot} (hl : lv_has ls 2 [(0, .ref (e_ad G l0)), (1, .int l1)]) : W p l e (e_rm 1 21) s m args below meth c H locs 0 0 (MQ below (e_Q G res (none)) args s 0 0 (e_A G)) (F0 m 2 ls []) := by
  induction n generalizing l0 l1 h H locs ls with
  | zero => exact e_no hM
  | succ n ih => exact mX5_skipBlanks_b2 (k2 := (fX5_skipBlanks_L2 n)) E   (fun l0 l1 h hM H locs J ls hl => ih l0 l1 h hM J hl) l0 l1 h hM J hl
set_option maxRecDepth 100000 in
set_option maxHeartbeats 4000000 in
theorem mX5_skipBlanks {l : Launch} {G : e_G} (l0 : Nat) (h : e_H) (res : e_H) (hM : fX5_skipBlanks l0 h = some res) : Met l yX5_skipBlanks (e_W yX5_skipBlanks cX5_skipBlanks 2 none) (e_rm 1 21) (e_Pc G h [.ref (e_ad G l0)]) (e_Q G res (none)) 0 0 (e_A G) := by
  refine Met.ofW (cc := cX5_skipBlanks) (maxL := 2) (ret := none) (by decide) rfl ?_
  intro p e s m args below meth c s₁ B hml hv
  obtain ⟨rfl, hS, hP⟩ := hv
  have E := e_enter (own := RX5) (ret := none) B hml rfl hS hP
  have J : e_J G s h s.heap [] := ⟨hP, va_S.rf⟩
  have hl := lv_entry ([.ref (e_ad G l0)]) (n := 2) (Nat.le_of_ble_eq_true rfl)
  rw [lg_entry_eq]
  generalize (lg_sl ([.ref (e_ad G l0)]) ++ List.replicate (2 - (lg_sl ([.ref (e_ad G l0)])).length) Slot.unset).toArray = ls at hl ⊢
  have hl : lv_has ls 2 [(0, .ref (e_ad G l0))] := hl
  obtain ⟨hx, hb, hr, hml, hown, hts, hlocks, hES, hbs⟩ := id E
  unfold fX5_skipBlanks at hM
  obtain ⟨fs_, hk_, hM⟩ := e_bs hM
  refine lv_iconst (v := nI 0) hx hb dX5_skipBlanks_0 (by decide) ?_
  refine lv_istore_n (lv' := [(1, .int (nI 0)), (0, .ref (e_ad G l0))]) hx hb dX5_skipBlanks_1 rfl hl (by decide) rfl (fun ls hl => ?_)
  exact mX5_skipBlanks_L2 E 200 l0 (nI 0) h hM J (lv_sub hl [1, 0] rfl)
set_option maxRecDepth 100000 in
set_option maxHeartbeats 4000000 in
theorem mJ0_coder_7d493 {l : Launch} {G : e_G} (l0 : Nat) (h : e_H) (res : Int32) (hM : fJ0_coder_7d493 l0 = some res) : Met l yJ0_coder_7d493 (e_W yJ0_coder_7d493 cJ0_coder_7d493 1 (some FieldType.byte)) (e_rm 0 0) (e_Pc G h [.ref (G.2.2.2.2.1 l0)]) (e_Q G h (some (.int res))) 0 0 (e_A G) := by
  refine Met.ofW (cc := cJ0_coder_7d493) (maxL := 1) (ret := (some FieldType.byte)) (by decide) rfl ?_
  intro p e s m args below meth c s₁ B hml hv
  obtain ⟨rfl, hS, hP⟩ := hv
  have E := e_enter (own := RJ0) (ret := (some FieldType.byte)) B hml rfl hS hP
  have J : e_J G s h s.heap [] := ⟨hP, va_S.rf⟩
  have hl := lv_entry ([.ref (G.2.2.2.2.1 l0)]) (n := 1) (Nat.le_of_ble_eq_true rfl)
  rw [lg_entry_eq]
  generalize (lg_sl ([.ref (G.2.2.2.2.1 l0)]) ++ List.replicate (1 - (lg_sl ([.ref (G.2.2.2.2.1 l0)])).length) Slot.unset).toArray = ls at hl ⊢
  have hl : lv_has ls 1 [(0, .ref (G.2.2.2.2.1 l0))] := hl
  obtain ⟨hx, hb, hr, hml, hown, hts, hlocks, hES, hbs⟩ := id E
  unfold fJ0_coder_7d493 at hM
  obtain ⟨h13, hM⟩ := e_if1 hM
  refine va_gets hx hb hES.2.2.2.2.2.2.2.1 J.2 hown (hts _ q_3_183) (fun _ h9 => h9) dJ0_coder_7d493_0 ?_
  refine lv_if_eq (tgt := 13) hx hb dJ0_coder_7d493_3 (by decide) (fun hc => absurd hc (by decide)) (fun _ => ?_)
  refine lv_aload_n hx hb dJ0_coder_7d493_6 rfl (lv_at hl 0 rfl) ?_
  refine vk_getf hx hb (hES.2.2.2.2.2.1.1 _ h13).2.1 J.2 hown (hts _ q_7_8) (fun _ h9 => h9) dJ0_coder_7d493_7 ?_
  refine lv_goto (tgt := 14) hx hb dJ0_coder_7d493_10 (by decide) ?_
  obtain rfl := e_so hM
  exact e_nret E J (by decide) dJ0_coder_7d493_14
set_option maxRecDepth 100000 in
set_option maxHeartbeats 4000000 in
theorem mJ0_length_8abf5 {l : Launch} {G : e_G} (l0 : Nat) (h : e_H) (res : Int32) (hM : fJ0_length_8abf5 l0 = some res) : Met l yJ0_length_8abf5 (e_W yJ0_length_8abf5 cJ0_length_8abf5 1 (some FieldType.int)) (e_rm 1 20) (e_Pc G h [.ref (G.2.2.2.2.1 l0)]) (e_Q G h (some (.int res))) 0 0 (e_A G) := by
  refine Met.ofW (cc := cJ0_length_8abf5) (maxL := 1) (ret := (some FieldType.int)) (by decide) rfl ?_
  intro p e s m args below meth c s₁ B hml hv
  obtain ⟨rfl, hS, hP⟩ := hv
  have E := e_enter (own := RJ0) (ret := (some FieldType.int)) B hml rfl hS hP
  have J : e_J G s h s.heap [] := ⟨hP, va_S.rf⟩
  have hl := lv_entry ([.ref (G.2.2.2.2.1 l0)]) (n := 1) (Nat.le_of_ble_eq_true rfl)
  rw [lg_entry_eq]
  generalize (lg_sl ([.ref (G.2.2.2.2.1 l0)]) ++ List.replicate (1 - (lg_sl ([.ref (G.2.2.2.2.1 l0)])).length) Slot.unset).toArray = ls at hl ⊢
  have hl : lv_has ls 1 [(0, .ref (G.2.2.2.2.1 l0))] := hl
  obtain ⟨hx, hb, hr, hml, hown, hts, hlocks, hES, hbs⟩ := id E
  unfold fJ0_length_8abf5 at hM
  obtain ⟨h13, hM⟩ := e_if1 hM
  refine lv_aload_n hx hb dJ0_length_8abf5_0 rfl (lv_at hl 0 rfl) ?_
  refine vk_getf hx hb (hES.2.2.2.2.2.1.1 _ h13).2.2.1 J.2 hown (hts _ q_7_7) (fun _ h9 => h9) dJ0_length_8abf5_1 ?_
  obtain ⟨h13, hM⟩ := e_if1 hM
  refine e_tlen (v := Int32.ofNat (o_sn l0)) hx hb (hES.2.2.2.2.2.1.1 _ h13).2.2.2 J.2 rfl dJ0_length_8abf5_4 ?_
  refine lv_aload_n hx hb dJ0_length_8abf5_5 rfl (lv_at hl 0 rfl) ?_
  obtain ⟨v1, hv, hM⟩ := e_bs hM
  have h13 := (e_if1 hv).1
  refine e_callVS (As := []) (rest := [.int (Int32.ofNat (o_sn l0))]) (n := 0) E J h13 (mJ0_coder_7d493 (l := l) (G := G) l0 h _ hv) q_3_179 q_3_180 q_3_181 q_1_14 q_3_182 (by decide +kernel) rfl ⟨Nat.le_of_ble_eq_true rfl, Nat.le_of_ble_eq_true rfl⟩ (st0 := [.ref (G.2.2.2.2.1 l0), .int (Int32.ofNat (o_sn l0))]) (st1 := [.int v1, .int (Int32.ofNat (o_sn l0))]) rfl rfl hl.1 (Nat.le_of_ble_eq_true rfl) dJ0_length_8abf5_6 ⟨Nat.le_refl _, Nat.le_refl _⟩ (fun H locs J => ?_)
  refine lv_ishr hx hb dJ0_length_8abf5_9 ?_
  obtain rfl := e_so hM
  exact e_iret E J dJ0_length_8abf5_10
set_option maxRecDepth 100000 in
set_option maxHeartbeats 4000000 in
theorem mJ0_isLatin1_aae02 {l : Launch} {G : e_G} (l0 : Nat) (h : e_H) (res : Bool) (hM : fJ0_isLatin1_aae02 l0 = some res) : Met l yJ0_isLatin1_aae02 (e_W yJ0_isLatin1_aae02 cJ0_isLatin1_aae02 1 (some FieldType.boolean)) (e_rm 0 0) (e_Pc G h [.ref (G.2.2.2.2.1 l0)]) (e_Q G h (some (.int (e_b res)))) 0 0 (e_A G) := by
  refine Met.ofW (cc := cJ0_isLatin1_aae02) (maxL := 1) (ret := (some FieldType.boolean)) (by decide) rfl ?_
  intro p e s m args below meth c s₁ B hml hv
  obtain ⟨rfl, hS, hP⟩ := hv
  have E := e_enter (own := RJ0) (ret := (some FieldType.boolean)) B hml rfl hS hP
  have J : e_J G s h s.heap [] := ⟨hP, va_S.rf⟩
  have hl := lv_entry ([.ref (G.2.2.2.2.1 l0)]) (n := 1) (Nat.le_of_ble_eq_true rfl)
  rw [lg_entry_eq]
  generalize (lg_sl ([.ref (G.2.2.2.2.1 l0)]) ++ List.replicate (1 - (lg_sl ([.ref (G.2.2.2.2.1 l0)])).length) Slot.unset).toArray = ls at hl ⊢
  have hl : lv_has ls 1 [(0, .ref (G.2.2.2.2.1 l0))] := hl
  obtain ⟨hx, hb, hr, hml, hown, hts, hlocks, hES, hbs⟩ := id E
  unfold fJ0_isLatin1_aae02 at hM
  obtain ⟨h13, hM⟩ := e_if1 hM
  refine va_gets hx hb hES.2.2.2.2.2.2.2.1 J.2 hown (hts _ q_3_183) (fun _ h9 => h9) dJ0_isLatin1_aae02_0 ?_
  refine lv_if_eq (tgt := 17) hx hb dJ0_isLatin1_aae02_3 (by decide) (fun hc => absurd hc (by decide)) (fun _ => ?_)
  refine lv_aload_n hx hb dJ0_isLatin1_aae02_6 rfl (lv_at hl 0 rfl) ?_
  refine vk_getf hx hb (hES.2.2.2.2.2.1.1 _ h13).2.1 J.2 hown (hts _ q_7_8) (fun _ h9 => h9) dJ0_isLatin1_aae02_7 ?_
  refine lv_if_ne (tgt := 17) hx hb dJ0_isLatin1_aae02_10 (by decide) (fun hc => absurd (by decide) hc) (fun _ => ?_)
  refine lv_iconst (v := nI 1) hx hb dJ0_isLatin1_aae02_13 (by decide) ?_
  refine lv_goto (tgt := 18) hx hb dJ0_isLatin1_aae02_14 (by decide) ?_
  obtain rfl := e_so hM
  exact e_zret E J (true) rfl dJ0_isLatin1_aae02_18
set_option maxRecDepth 100000 in
set_option maxHeartbeats 4000000 in
theorem mJ3_checkIndex_8e157_b9_N {p : Program} {l : Launch} {e : Env} {s : State} {m : MethodId} {args : Array Value} {below : List Frame} {meth : Method} {c : Code} {G : e_G} {res : Int32} (E : e_M G p s args m meth c cJ3_checkIndex_8e157 3 (some FieldType.int) RJ3) (h : e_H) (l0 : Int32) (l1 : Int32) (hM : fJ3_checkIndex_8e157_b9 l0 l1 = some res) {H : Heap} {locs : List Loc} (J : e_J G s h H locs) {ls : Array Slot} (hl : lv_has ls 3 [(0, .int l0), (1, .int l1), (2, .null)]) : W p l e (e_rm 0 0) s m args below meth c H locs 0 0 (MQ below (e_Q G h (some (.int res))) args s 0 0 (e_A G)) (F0 m 9 ls []) := by
  obtain ⟨hx, hb, hr, hml, hown, hts, hlocks, hES, hbs⟩ := id E
  unfold fJ3_checkIndex_8e157_b9 at hM
  refine lv_aload_nN hx hb dJ3_checkIndex_8e157_9 rfl (lv_at hl 2 rfl) ?_
  refine lv_iload_n hx hb dJ3_checkIndex_8e157_10 rfl (lv_at hl 0 rfl) ?_
  refine lv_iload_n hx hb dJ3_checkIndex_8e157_11 rfl (lv_at hl 1 rfl) ?_
  exact e_no hM
set_option maxRecDepth 100000 in
set_option maxHeartbeats 4000000 in
theorem mJ3_checkIndex_8e157_N {l : Launch} {G : e_G} (l0 : Int32) (l1 : Int32) (h : e_H) (res : Int32) (hM : fJ3_checkIndex_8e157 l0 l1 = some res) : Met l yJ3_checkIndex_8e157 (e_W yJ3_checkIndex_8e157 cJ3_checkIndex_8e157 3 (some FieldType.int)) (e_rm 0 0) (e_Pc G h [.int l0, .int l1, .null]) (e_Q G h (some (.int res))) 0 0 (e_A G) := by
  refine Met.ofW (cc := cJ3_checkIndex_8e157) (maxL := 3) (ret := (some FieldType.int)) (by decide) rfl ?_
  intro p e s m args below meth c s₁ B hml hv
  obtain ⟨rfl, hS, hP⟩ := hv
  have E := e_enter (own := RJ3) (ret := (some FieldType.int)) B hml rfl hS hP
  have J : e_J G s h s.heap [] := ⟨hP, va_S.rf⟩
  have hl := lv_entry ([.int l0, .int l1, .null]) (n := 3) (Nat.le_of_ble_eq_true rfl)
  rw [lg_entry_eq]
  generalize (lg_sl ([.int l0, .int l1, .null]) ++ List.replicate (3 - (lg_sl ([.int l0, .int l1, .null])).length) Slot.unset).toArray = ls at hl ⊢
  have hl : lv_has ls 3 [(0, .int l0), (1, .int l1), (2, .null)] := hl
  obtain ⟨hx, hb, hr, hml, hown, hts, hlocks, hES, hbs⟩ := id E
  unfold fJ3_checkIndex_8e157 at hM
  refine lv_iload_n hx hb dJ3_checkIndex_8e157_0 rfl (lv_at hl 0 rfl) ?_
  refine lv_if_lt (tgt := 9) hx hb dJ3_checkIndex_8e157_1 (by decide) (fun hc => ?_) (fun hc => ?_)
  · have hM := e_ip hc hM
    exact mJ3_checkIndex_8e157_b9_N E h l0 l1 hM J (lv_sub hl [0, 1, 2] rfl)
  · have hM := e_in hc hM
    refine lv_iload_n hx hb dJ3_checkIndex_8e157_4 rfl (lv_at hl 0 rfl) ?_
    refine lv_iload_n hx hb dJ3_checkIndex_8e157_5 rfl (lv_at hl 1 rfl) ?_
    refine lv_icmp_lt (tgt := 16) hx hb dJ3_checkIndex_8e157_6 (by decide) (fun hc => ?_) (fun hc => ?_)
    · have hM := e_ip hc hM
      refine lv_iload_n hx hb dJ3_checkIndex_8e157_16 rfl (lv_at hl 0 rfl) ?_
      obtain rfl := e_so hM
      exact e_iret E J dJ3_checkIndex_8e157_17
    · have hM := e_in hc hM
      exact mJ3_checkIndex_8e157_b9_N E h l0 l1 hM J (lv_sub hl [0, 1, 2] rfl)
set_option maxRecDepth 100000 in
set_option maxHeartbeats 4000000 in
theorem mJ3_checkIndex_8e157_b9_A {p : Program} {l : Launch} {e : Env} {s : State} {m : MethodId} {args : Array Value} {below : List Frame} {meth : Method} {c : Code} {G : e_G} {tF : Nat} {res : Int32} (E : e_M G p s args m meth c cJ3_checkIndex_8e157 3 (some FieldType.int) RJ3) (h : e_H) (l0 : Int32) (l1 : Int32) (hM : fJ3_checkIndex_8e157_b9 l0 l1 = some res) {H : Heap} {locs : List Loc} (J : e_J G s h H locs) {ls : Array Slot} (hl : lv_has ls 3 [(0, .int l0), (1, .int l1), (2, .ref tF)]) : W p l e (e_rm 0 0) s m args below meth c H locs 0 0 (MQ below (e_Q G h (some (.int res))) args s 0 0 (e_A G)) (F0 m 9 ls []) := by
  obtain ⟨hx, hb, hr, hml, hown, hts, hlocks, hES, hbs⟩ := id E
  unfold fJ3_checkIndex_8e157_b9 at hM
  refine lv_aload_n hx hb dJ3_checkIndex_8e157_9 rfl (lv_at hl 2 rfl) ?_
  refine lv_iload_n hx hb dJ3_checkIndex_8e157_10 rfl (lv_at hl 0 rfl) ?_
  refine lv_iload_n hx hb dJ3_checkIndex_8e157_11 rfl (lv_at hl 1 rfl) ?_
  exact e_no hM
set_option maxRecDepth 100000 in
set_option maxHeartbeats 4000000 in
theorem mJ3_checkIndex_8e157_A {l : Launch} {G : e_G} {tF : Nat} (l0 : Int32) (l1 : Int32) (h : e_H) (res : Int32) (hM : fJ3_checkIndex_8e157 l0 l1 = some res) : Met l yJ3_checkIndex_8e157 (e_W yJ3_checkIndex_8e157 cJ3_checkIndex_8e157 3 (some FieldType.int)) (e_rm 0 0) (e_Pc G h [.int l0, .int l1, .ref tF]) (e_Q G h (some (.int res))) 0 0 (e_A G) := by
  refine Met.ofW (cc := cJ3_checkIndex_8e157) (maxL := 3) (ret := (some FieldType.int)) (by decide) rfl ?_
  intro p e s m args below meth c s₁ B hml hv
  obtain ⟨rfl, hS, hP⟩ := hv
  have E := e_enter (own := RJ3) (ret := (some FieldType.int)) B hml rfl hS hP
  have J : e_J G s h s.heap [] := ⟨hP, va_S.rf⟩
  have hl := lv_entry ([.int l0, .int l1, .ref tF]) (n := 3) (Nat.le_of_ble_eq_true rfl)
  rw [lg_entry_eq]
  generalize (lg_sl ([.int l0, .int l1, .ref tF]) ++ List.replicate (3 - (lg_sl ([.int l0, .int l1, .ref tF])).length) Slot.unset).toArray = ls at hl ⊢
  have hl : lv_has ls 3 [(0, .int l0), (1, .int l1), (2, .ref tF)] := hl
  obtain ⟨hx, hb, hr, hml, hown, hts, hlocks, hES, hbs⟩ := id E
  unfold fJ3_checkIndex_8e157 at hM
  refine lv_iload_n hx hb dJ3_checkIndex_8e157_0 rfl (lv_at hl 0 rfl) ?_
  refine lv_if_lt (tgt := 9) hx hb dJ3_checkIndex_8e157_1 (by decide) (fun hc => ?_) (fun hc => ?_)
  · have hM := e_ip hc hM
    exact mJ3_checkIndex_8e157_b9_A E h l0 l1 hM J (lv_sub hl [0, 1, 2] rfl)
  · have hM := e_in hc hM
    refine lv_iload_n hx hb dJ3_checkIndex_8e157_4 rfl (lv_at hl 0 rfl) ?_
    refine lv_iload_n hx hb dJ3_checkIndex_8e157_5 rfl (lv_at hl 1 rfl) ?_
    refine lv_icmp_lt (tgt := 16) hx hb dJ3_checkIndex_8e157_6 (by decide) (fun hc => ?_) (fun hc => ?_)
    · have hM := e_ip hc hM
      refine lv_iload_n hx hb dJ3_checkIndex_8e157_16 rfl (lv_at hl 0 rfl) ?_
      obtain rfl := e_so hM
      exact e_iret E J dJ3_checkIndex_8e157_17
    · have hM := e_in hc hM
      exact mJ3_checkIndex_8e157_b9_A E h l0 l1 hM J (lv_sub hl [0, 1, 2] rfl)
set_option maxRecDepth 100000 in
set_option maxHeartbeats 4000000 in
theorem mJ0_checkIndex_df160 {l : Launch} {G : e_G} (l0 : Int32) (l1 : Int32) (h : e_H) (res : Unit) (hM : fJ0_checkIndex_df160 l0 l1 = some res) : Met l yJ0_checkIndex_df160 (e_W yJ0_checkIndex_df160 cJ0_checkIndex_df160 2 none) (e_rm 1 22) (e_Pc G h [.int l0, .int l1]) (e_Q G h (none)) 0 0 (e_A G) := by
  refine Met.ofW (cc := cJ0_checkIndex_df160) (maxL := 2) (ret := none) (by decide) rfl ?_
  intro p e s m args below meth c s₁ B hml hv
  obtain ⟨rfl, hS, hP⟩ := hv
  have E := e_enter (own := RJ0) (ret := none) B hml rfl hS hP
  have J : e_J G s h s.heap [] := ⟨hP, va_S.rf⟩
  have hl := lv_entry ([.int l0, .int l1]) (n := 2) (Nat.le_of_ble_eq_true rfl)
  rw [lg_entry_eq]
  generalize (lg_sl ([.int l0, .int l1]) ++ List.replicate (2 - (lg_sl ([.int l0, .int l1])).length) Slot.unset).toArray = ls at hl ⊢
  have hl : lv_has ls 2 [(0, .int l0), (1, .int l1)] := hl
  obtain ⟨hx, hb, hr, hml, hown, hts, hlocks, hES, hbs⟩ := id E
  unfold fJ0_checkIndex_df160 at hM
  refine lv_iload_n hx hb dJ0_checkIndex_df160_0 rfl (lv_at hl 0 rfl) ?_
  refine lv_iload_n hx hb dJ0_checkIndex_df160_1 rfl (lv_at hl 1 rfl) ?_
  rcases hES.2.2.2.2.2.2.2.2 with hz | ⟨tF, hz⟩
  · refine va_gets hx hb hz J.2 hown (hts _ q_3_199) (fun _ h9 => h9) dJ0_checkIndex_df160_2 ?_
    obtain ⟨v1, hv, hM⟩ := e_bs hM
    refine e_callS (As := [.int l0, .int l1, .null]) (rest := []) (n := 3) E J (mJ3_checkIndex_8e157_N (l := l) (G := G) l0 l1 h _ hv) q_3_201 q_3_202 q_1_16 q_3_203 (by decide +kernel) rfl ⟨Nat.le_of_ble_eq_true rfl, Nat.le_of_ble_eq_true rfl⟩ (st0 := [.null, .int l1, .int l0]) (st1 := [.int v1]) rfl rfl hl.1 (Nat.le_of_ble_eq_true rfl) dJ0_checkIndex_df160_5 ⟨Nat.le_refl _, Nat.le_refl _⟩ (fun H locs J => ?_)
    refine lv_pop hx hb dJ0_checkIndex_df160_8 rfl ?_
    obtain rfl := e_so hM
    exact e_vret E J dJ0_checkIndex_df160_9
  · refine va_gets hx hb hz J.2 hown (hts _ q_3_199) (fun _ h9 => h9) dJ0_checkIndex_df160_2 ?_
    obtain ⟨v1, hv, hM⟩ := e_bs hM
    refine e_callS (As := [.int l0, .int l1, .ref tF]) (rest := []) (n := 3) E J (mJ3_checkIndex_8e157_A (l := l) (G := G) (tF := tF) l0 l1 h _ hv) q_3_201 q_3_202 q_1_16 q_3_203 (by decide +kernel) rfl ⟨Nat.le_of_ble_eq_true rfl, Nat.le_of_ble_eq_true rfl⟩ (st0 := [.ref tF, .int l1, .int l0]) (st1 := [.int v1]) rfl rfl hl.1 (Nat.le_of_ble_eq_true rfl) dJ0_checkIndex_df160_5 ⟨Nat.le_refl _, Nat.le_refl _⟩ (fun H locs J => ?_)
    refine lv_pop hx hb dJ0_checkIndex_df160_8 rfl ?_
    obtain rfl := e_so hM
    exact e_vret E J dJ0_checkIndex_df160_9
set_option maxRecDepth 100000 in
set_option maxHeartbeats 4000000 in
theorem mJ1_charAt_3b067 {l : Launch} {G : e_G} (l0 : Nat) (l1 : Int32) (h : e_H) (res : Int32) (hM : fJ1_charAt_3b067 l0 l1 = some res) : Met l yJ1_charAt_3b067 (e_W yJ1_charAt_3b067 cJ1_charAt_3b067 2 (some FieldType.char)) (e_rm 2 43) (e_Pc G h [.ref (G.2.2.2.2.2 l0), .int l1]) (e_Q G h (some (.int res))) 0 0 (e_A G) := by
  refine Met.ofW (cc := cJ1_charAt_3b067) (maxL := 2) (ret := (some FieldType.char)) (by decide) rfl ?_
  intro p e s m args below meth c s₁ B hml hv
  obtain ⟨rfl, hS, hP⟩ := hv
  have E := e_enter (own := RJ1) (ret := (some FieldType.char)) B hml rfl hS hP
  have J : e_J G s h s.heap [] := ⟨hP, va_S.rf⟩
  have hl := lv_entry ([.ref (G.2.2.2.2.2 l0), .int l1]) (n := 2) (Nat.le_of_ble_eq_true rfl)
  rw [lg_entry_eq]
  generalize (lg_sl ([.ref (G.2.2.2.2.2 l0), .int l1]) ++ List.replicate (2 - (lg_sl ([.ref (G.2.2.2.2.2 l0), .int l1])).length) Slot.unset).toArray = ls at hl ⊢
  have hl : lv_has ls 2 [(0, .ref (G.2.2.2.2.2 l0)), (1, .int l1)] := hl
  obtain ⟨hx, hb, hr, hml, hown, hts, hlocks, hES, hbs⟩ := id E
  unfold fJ1_charAt_3b067 at hM
  refine lv_iload_n hx hb dJ1_charAt_3b067_0 rfl (lv_at hl 1 rfl) ?_
  refine lv_aload_n hx hb dJ1_charAt_3b067_1 rfl (lv_at hl 0 rfl) ?_
  obtain ⟨h13, hM⟩ := e_if1 hM
  refine e_tlen (v := Int32.ofNat (o_sn l0)) hx hb (hES.2.2.2.2.2.1.1 _ h13).2.2.2 J.2 rfl dJ1_charAt_3b067_2 ?_
  obtain ⟨v1, hv, hM⟩ := e_bs hM
  refine e_callS (As := [.int l1, .int (Int32.ofNat (o_sn l0))]) (rest := []) (n := 2) E J (mJ0_checkIndex_df160 (l := l) (G := G) l1 (Int32.ofNat (o_sn l0)) h _ hv) q_3_196 q_3_197 q_1_14 q_3_198 (by decide +kernel) rfl ⟨Nat.le_of_ble_eq_true rfl, Nat.le_of_ble_eq_true rfl⟩ (st0 := [.int (Int32.ofNat (o_sn l0)), .int l1]) (st1 := []) rfl rfl hl.1 (Nat.le_of_ble_eq_true rfl) dJ1_charAt_3b067_3 ⟨Nat.le_refl _, Nat.le_refl _⟩ (fun H locs J => ?_)
  refine lv_aload_n hx hb dJ1_charAt_3b067_6 rfl (lv_at hl 0 rfl) ?_
  refine lv_iload_n hx hb dJ1_charAt_3b067_7 rfl (lv_at hl 1 rfl) ?_
  obtain ⟨h13, hM⟩ := e_if1 hM
  obtain ⟨hz, hM⟩ := e_if0 hM
  refine e_tbald hx hb (hES.2.2.2.2.2.1.1 _ h13).2.2.2 J.2 (fun z => hz (Or.inl z)) (Nat.not_le.mp fun z => hz (Or.inr z)) dJ1_charAt_3b067_8 ?_
  refine lv_sipush (v := nI 255) hx hb dJ1_charAt_3b067_9 (by decide) ?_
  refine lv_iand hx hb dJ1_charAt_3b067_12 ?_
  refine lv_i2c hx hb dJ1_charAt_3b067_13 rfl ?_
  obtain ⟨hz, hM⟩ := e_if1 hM
  obtain rfl := e_so hM
  exact e_nret E J hz dJ1_charAt_3b067_14
set_option maxRecDepth 100000 in
set_option maxHeartbeats 4000000 in
theorem mJ0_charAt_5068e {l : Launch} {G : e_G} (l0 : Nat) (l1 : Int32) (h : e_H) (res : Int32) (hM : fJ0_charAt_5068e l0 l1 = some res) : Met l yJ0_charAt_5068e (e_W yJ0_charAt_5068e cJ0_charAt_5068e 2 (some FieldType.char)) (e_rm 3 64) (e_Pc G h [.ref (G.2.2.2.2.1 l0), .int l1]) (e_Q G h (some (.int res))) 0 0 (e_A G) := by
  refine Met.ofW (cc := cJ0_charAt_5068e) (maxL := 2) (ret := (some FieldType.char)) (by decide) rfl ?_
  intro p e s m args below meth c s₁ B hml hv
  obtain ⟨rfl, hS, hP⟩ := hv
  have E := e_enter (own := RJ0) (ret := (some FieldType.char)) B hml rfl hS hP
  have J : e_J G s h s.heap [] := ⟨hP, va_S.rf⟩
  have hl := lv_entry ([.ref (G.2.2.2.2.1 l0), .int l1]) (n := 2) (Nat.le_of_ble_eq_true rfl)
  rw [lg_entry_eq]
  generalize (lg_sl ([.ref (G.2.2.2.2.1 l0), .int l1]) ++ List.replicate (2 - (lg_sl ([.ref (G.2.2.2.2.1 l0), .int l1])).length) Slot.unset).toArray = ls at hl ⊢
  have hl : lv_has ls 2 [(0, .ref (G.2.2.2.2.1 l0)), (1, .int l1)] := hl
  obtain ⟨hx, hb, hr, hml, hown, hts, hlocks, hES, hbs⟩ := id E
  unfold fJ0_charAt_5068e at hM
  obtain ⟨h13, hM⟩ := e_if1 hM
  refine lv_aload_n hx hb dJ0_charAt_5068e_0 rfl (lv_at hl 0 rfl) ?_
  obtain ⟨v1, hv, hM⟩ := e_bs hM
  have h13 := (e_if1 hv).1
  refine e_callVS (As := []) (rest := []) (n := 0) E J h13 (mJ0_isLatin1_aae02 (l := l) (G := G) l0 h _ hv) q_3_189 q_3_190 q_3_191 q_1_14 q_3_192 (by decide +kernel) rfl ⟨Nat.le_of_ble_eq_true rfl, Nat.le_of_ble_eq_true rfl⟩ (st0 := [.ref (G.2.2.2.2.1 l0)]) (st1 := [.int (e_b v1)]) rfl rfl hl.1 (Nat.le_of_ble_eq_true rfl) dJ0_charAt_5068e_1 ⟨Nat.le_refl _, Nat.le_refl _⟩ (fun H locs J => ?_)
  refine lv_if_eq (tgt := 16) hx hb dJ0_charAt_5068e_4 (by decide) (fun hc => ?_) (fun hc => ?_)
  · have hM := e_ip hc hM
    refine lv_aload_n hx hb dJ0_charAt_5068e_16 rfl (lv_at hl 0 rfl) ?_
    refine vk_getf hx hb (hES.2.2.2.2.2.1.1 _ h13).2.2.1 J.2 hown (hts _ q_7_7) (fun _ h9 => h9) dJ0_charAt_5068e_17 ?_
    refine lv_iload_n hx hb dJ0_charAt_5068e_20 rfl (lv_at hl 1 rfl) ?_
    exact e_no hM
  · have hM := e_in hc hM
    refine lv_aload_n hx hb dJ0_charAt_5068e_7 rfl (lv_at hl 0 rfl) ?_
    refine vk_getf hx hb (hES.2.2.2.2.2.1.1 _ h13).2.2.1 J.2 hown (hts _ q_7_7) (fun _ h9 => h9) dJ0_charAt_5068e_8 ?_
    refine lv_iload_n hx hb dJ0_charAt_5068e_11 rfl (lv_at hl 1 rfl) ?_
    obtain ⟨v2, hv, hM⟩ := e_bs hM
    refine e_callS (As := [.ref (G.2.2.2.2.2 l0), .int l1]) (rest := []) (n := 2) E J (mJ1_charAt_3b067 (l := l) (G := G) l0 l1 h _ hv) q_3_193 q_3_194 q_1_15 q_3_195 (by decide +kernel) rfl ⟨Nat.le_of_ble_eq_true rfl, Nat.le_of_ble_eq_true rfl⟩ (st0 := [.int l1, .ref (G.2.2.2.2.2 l0)]) (st1 := [.int v2]) rfl rfl hl.1 (Nat.le_of_ble_eq_true rfl) dJ0_charAt_5068e_12 ⟨Nat.le_refl _, Nat.le_refl _⟩ (fun H locs J => ?_)
    obtain ⟨hz, hM⟩ := e_if1 hM
    obtain rfl := e_so hM
    exact e_nret E J hz dJ0_charAt_5068e_15
set_option maxRecDepth 100000 in
set_option maxHeartbeats 4000000 in
theorem mX5_isLetter {l : Launch} {G : e_G} (l0 : Int32) (h : e_H) (res : Bool) (hM : fX5_isLetter l0 = some res) : Met l yX5_isLetter (e_W yX5_isLetter cX5_isLetter 1 (some FieldType.boolean)) (e_rm 0 0) (e_Pc G h [.int l0]) (e_Q G h (some (.int (e_b res)))) 0 0 (e_A G) := by
  refine Met.ofW (cc := cX5_isLetter) (maxL := 1) (ret := (some FieldType.boolean)) (by decide) rfl ?_
  intro p e s m args below meth c s₁ B hml hv
  obtain ⟨rfl, hS, hP⟩ := hv
  have E := e_enter (own := RX5) (ret := (some FieldType.boolean)) B hml rfl hS hP
  have J : e_J G s h s.heap [] := ⟨hP, va_S.rf⟩
  have hl := lv_entry ([.int l0]) (n := 1) (Nat.le_of_ble_eq_true rfl)
  rw [lg_entry_eq]
  generalize (lg_sl ([.int l0]) ++ List.replicate (1 - (lg_sl ([.int l0])).length) Slot.unset).toArray = ls at hl ⊢
  have hl : lv_has ls 1 [(0, .int l0)] := hl
  obtain ⟨hx, hb, hr, hml, hown, hts, hlocks, hES, hbs⟩ := id E
  unfold fX5_isLetter at hM
  refine lv_iload_n hx hb dX5_isLetter_0 rfl (lv_at hl 0 rfl) ?_
  refine lv_bipush (v := nI 97) hx hb dX5_isLetter_1 (by decide) ?_
  refine lv_icmp_lt (tgt := 16) hx hb dX5_isLetter_3 (by decide) (fun hc => ?_) (fun hc => ?_)
  · have hM := e_ip hc hM
    refine lv_iconst (v := nI 0) hx hb dX5_isLetter_16 (by decide) ?_
    obtain rfl := e_so hM
    exact e_zret E J (false) rfl dX5_isLetter_17
  · have hM := e_in hc hM
    refine lv_iload_n hx hb dX5_isLetter_6 rfl (lv_at hl 0 rfl) ?_
    refine lv_bipush (v := nI 122) hx hb dX5_isLetter_7 (by decide) ?_
    refine lv_icmp_gt (tgt := 16) hx hb dX5_isLetter_9 (by decide) (fun hc => ?_) (fun hc => ?_)
    · have hM := e_ip hc hM
      refine lv_iconst (v := nI 0) hx hb dX5_isLetter_16 (by decide) ?_
      obtain rfl := e_so hM
      exact e_zret E J (false) rfl dX5_isLetter_17
    · have hM := e_in hc hM
      refine lv_iconst (v := nI 1) hx hb dX5_isLetter_12 (by decide) ?_
      refine lv_goto (tgt := 17) hx hb dX5_isLetter_13 (by decide) ?_
      obtain rfl := e_so hM
      exact e_zret E J (true) rfl dX5_isLetter_17
set_option maxRecDepth 100000 in
set_option maxHeartbeats 4000000 in
theorem mX5_isWord_b2 {p : Program} {l : Launch} {e : Env} {s : State} {m : MethodId} {args : Array Value} {below : List Frame} {meth : Method} {c : Code} {G : e_G} {res : Bool} {k2 : Nat → Nat → Int32 → Option Bool} (E : e_M G p s args m meth c cX5_isWord 3 (some FieldType.boolean) RX5) (h : e_H) (K2 : ∀ (l0 : Nat) (l1 : Nat) (l2 : Int32), k2 l0 l1 l2 = some res → ∀ (H : Heap) (locs : List Loc), e_J G s h H locs → ∀ (ls : Array Slot), lv_has ls 3 [(0, .ref (e_ad G l0)), (1, .ref (G.2.2.2.2.1 l1)), (2, .int l2)] → W p l e (e_rm 4 85) s m args below meth c H locs 0 0 (MQ below (e_Q G h (some (.int (e_b res)))) args s 0 0 (e_A G)) (F0 m 2 ls [])) (l0 : Nat) (l1 : Nat) (l2 : Int32) (hM : fX5_isWord_b2 h k2 l0 l1 l2 = some res) {H : Heap} {locs : List Loc} (J : e_J G s h H locs) {ls : Array Slot} (hl : lv_has ls 3 [(0, .ref (e_ad G l0)), (1, .ref (G.2.2.2.2.1 l1)), (2, .int l2)]) : W p l e (e_rm 4 85) s m args below meth c H locs 0 0 (MQ below (e_Q G h (some (.int (e_b res)))) args s 0 0 (e_A G)) (F0 m 2 ls []) := by
  obtain ⟨hx, hb, hr, hml, hown, hts, hlocks, hES, hbs⟩ := id E
  unfold fX5_isWord_b2 at hM
  refine lv_iload_n hx hb dX5_isWord_2 rfl (lv_at hl 2 rfl) ?_
  refine lv_aload_n hx hb dX5_isWord_3 rfl (lv_at hl 1 rfl) ?_
  obtain ⟨v1, hv, hM⟩ := e_bs hM
  have h13 := (e_if1 hv).1
  refine e_callVS (As := []) (rest := [.int l2]) (n := 0) E J h13 (mJ0_length_8abf5 (l := l) (G := G) l1 h _ hv) q_3_175 q_3_176 q_3_177 q_1_14 q_3_178 (by decide +kernel) rfl ⟨Nat.le_of_ble_eq_true rfl, Nat.le_of_ble_eq_true rfl⟩ (st0 := [.ref (G.2.2.2.2.1 l1), .int l2]) (st1 := [.int v1, .int l2]) rfl rfl hl.1 (Nat.le_of_ble_eq_true rfl) dX5_isWord_4 ⟨Nat.le_refl _, Nat.le_refl _⟩ (fun H locs J => ?_)
  refine lv_icmp_ge (tgt := 36) hx hb dX5_isWord_7 (by decide) (fun hc => ?_) (fun hc => ?_)
  · have hM := e_ip hc hM
    refine lv_aload_n hx hb dX5_isWord_36 rfl (lv_at hl 0 rfl) ?_
    refine lv_aload_n hx hb dX5_isWord_37 rfl (lv_at hl 0 rfl) ?_
    obtain ⟨v2, hv, hM⟩ := e_bs hM
    refine e_getI (C := RX5) (T := TX5) (N := 7) E J hv rfl inX5 (by decide) q_1_133 dX5_isWord_38 ?_
    refine lv_aload_n hx hb dX5_isWord_41 rfl (lv_at hl 1 rfl) ?_
    obtain ⟨v3, hv, hM⟩ := e_bs hM
    have h13 := (e_if1 hv).1
    refine e_callVS (As := []) (rest := [.int v2, .ref (e_ad G l0)]) (n := 0) E J h13 (mJ0_length_8abf5 (l := l) (G := G) l1 h _ hv) q_3_175 q_3_176 q_3_177 q_1_14 q_3_178 (by decide +kernel) rfl ⟨Nat.le_of_ble_eq_true rfl, Nat.le_of_ble_eq_true rfl⟩ (st0 := [.ref (G.2.2.2.2.1 l1), .int v2, .ref (e_ad G l0)]) (st1 := [.int v3, .int v2, .ref (e_ad G l0)]) rfl rfl hl.1 (Nat.le_of_ble_eq_true rfl) dX5_isWord_42 ⟨Nat.le_refl _, Nat.le_refl _⟩ (fun H locs J => ?_)
    refine lv_iadd hx hb dX5_isWord_45 ?_
    obtain ⟨v4, hv, hM⟩ := e_bs hM
    obtain ⟨fs_, hk, -⟩ := e_bs hv
    refine e_callV (ci := 5) (As := [.int (v2 + v3)]) (rest := []) (n := 1) E J hk rfl (mX5_byteAt (l := l) (G := G) l0 (v2 + v3) h _ hv) q_3_164 q_3_166 q_p_7 q_1_6 q_3_167 (by decide +kernel) rfl ⟨Nat.le_of_ble_eq_true rfl, Nat.le_of_ble_eq_true rfl⟩ (st0 := [.int (v2 + v3), .ref (e_ad G l0)]) (st1 := [.int v4]) rfl rfl hl.1 (Nat.le_of_ble_eq_true rfl) dX5_isWord_46 ⟨Nat.le_refl _, Nat.le_refl _⟩ (fun H locs J => ?_)
    obtain ⟨v5, hv, hM⟩ := e_bs hM
    refine e_callS (As := [.int v4]) (rest := []) (n := 1) E J (mX5_isLetter (l := l) (G := G) v4 h _ hv) q_3_223 q_3_224 q_1_6 q_3_225 (by decide +kernel) rfl ⟨Nat.le_of_ble_eq_true rfl, Nat.le_of_ble_eq_true rfl⟩ (st0 := [.int v4]) (st1 := [.int (e_b v5)]) rfl rfl hl.1 (Nat.le_of_ble_eq_true rfl) dX5_isWord_49 ⟨Nat.le_refl _, Nat.le_refl _⟩ (fun H locs J => ?_)
    refine lv_if_ne (tgt := 59) hx hb dX5_isWord_52 (by decide) (fun hc => ?_) (fun hc => ?_)
    · have hM := e_in hc hM
      refine lv_iconst (v := nI 0) hx hb dX5_isWord_59 (by decide) ?_
      obtain rfl := e_so hM
      exact e_zret E J (false) rfl dX5_isWord_60
    · have hM := e_ip hc hM
      refine lv_iconst (v := nI 1) hx hb dX5_isWord_55 (by decide) ?_
      refine lv_goto (tgt := 60) hx hb dX5_isWord_56 (by decide) ?_
      obtain rfl := e_so hM
      exact e_zret E J (true) rfl dX5_isWord_60
  · have hM := e_in hc hM
    refine lv_aload_n hx hb dX5_isWord_10 rfl (lv_at hl 0 rfl) ?_
    refine lv_aload_n hx hb dX5_isWord_11 rfl (lv_at hl 0 rfl) ?_
    obtain ⟨v6, hv, hM⟩ := e_bs hM
    refine e_getI (C := RX5) (T := TX5) (N := 7) E J hv rfl inX5 (by decide) q_1_133 dX5_isWord_12 ?_
    refine lv_iload_n hx hb dX5_isWord_15 rfl (lv_at hl 2 rfl) ?_
    refine lv_iadd hx hb dX5_isWord_16 ?_
    obtain ⟨v7, hv, hM⟩ := e_bs hM
    obtain ⟨fs_, hk, -⟩ := e_bs hv
    refine e_callV (ci := 5) (As := [.int (v6 + l2)]) (rest := []) (n := 1) E J hk rfl (mX5_byteAt (l := l) (G := G) l0 (v6 + l2) h _ hv) q_3_164 q_3_166 q_p_7 q_1_6 q_3_167 (by decide +kernel) rfl ⟨Nat.le_of_ble_eq_true rfl, Nat.le_of_ble_eq_true rfl⟩ (st0 := [.int (v6 + l2), .ref (e_ad G l0)]) (st1 := [.int v7]) rfl rfl hl.1 (Nat.le_of_ble_eq_true rfl) dX5_isWord_17 ⟨Nat.le_refl _, Nat.le_refl _⟩ (fun H locs J => ?_)
    refine lv_aload_n hx hb dX5_isWord_20 rfl (lv_at hl 1 rfl) ?_
    refine lv_iload_n hx hb dX5_isWord_21 rfl (lv_at hl 2 rfl) ?_
    obtain ⟨v8, hv, hM⟩ := e_bs hM
    have h13 := (e_if1 hv).1
    refine e_callVS (As := [.int l2]) (rest := [.int v7]) (n := 1) E J h13 (mJ0_charAt_5068e (l := l) (G := G) l1 l2 h _ hv) q_3_185 q_3_186 q_3_187 q_1_14 q_3_188 (by decide +kernel) rfl ⟨Nat.le_of_ble_eq_true rfl, Nat.le_of_ble_eq_true rfl⟩ (st0 := [.int l2, .ref (G.2.2.2.2.1 l1), .int v7]) (st1 := [.int v8, .int v7]) rfl rfl hl.1 (Nat.le_of_ble_eq_true rfl) dX5_isWord_22 ⟨Nat.le_refl _, Nat.le_refl _⟩ (fun H locs J => ?_)
    refine lv_icmp_eq (tgt := 30) hx hb dX5_isWord_25 (by decide) (fun hc => ?_) (fun hc => ?_)
    · have hM := e_ip hc hM
      refine lv_iinc (v := (l2 + (nI 1))) (lv' := [(2, .int (l2 + (nI 1))), (0, .ref (e_ad G l0)), (1, .ref (G.2.2.2.2.1 l1))]) hx hb dX5_isWord_30 hl (k := 2) rfl rfl (by decide) rfl (fun ls hl => ?_)
      refine lv_goto (tgt := 2) hx hb dX5_isWord_33 (by decide) ?_
      exact K2 l0 l1 (l2 + (nI 1)) hM _ _ J _ (lv_sub hl [1, 2, 0] rfl)
    · have hM := e_in hc hM
      refine lv_iconst (v := nI 0) hx hb dX5_isWord_28 (by decide) ?_
      obtain rfl := e_so hM
      exact e_zret E J (false) rfl dX5_isWord_29
set_option maxRecDepth 100000 in
set_option maxHeartbeats 4000000 in
theorem mX5_isWord_L2 {p : Program} {l : Launch} {e : Env} {s : State} {m : MethodId} {args : Array Value} {below : List Frame} {meth : Method} {c : Code} {G : e_G} {res : Bool} (E : e_M G p s args m meth c cX5_isWord 3 (some FieldType.boolean) RX5) (h : e_H) (n : Nat) (l0 : Nat) (l1 : Nat) (l2 : Int32) (hM : fX5_isWord_L2 h n l0 l1 l2 = some res) {H : Heap} {locs : List Loc} (J : e_J G s h H locs) {ls : Array Slot} (hl : lv_has ls 3 [(0, .ref (e_ad G l0)), (1, .ref (G.2.2.2.2.1 l1)), (2, .int l2)]) : W p l e (e_rm 4 85) s m args below meth c H locs 0 0 (MQ below (e_Q G h (some (.int (e_b res)))) args s 0 0 (e_A G)) (F0 m 2 ls []) := by
  induction n generalizing l0 l1 l2 H locs ls with
  | zero => exact e_no hM
  | succ n ih => exact mX5_isWord_b2 (k2 := (fX5_isWord_L2 h n)) E h  (fun l0 l1 l2 hM H locs J ls hl => ih l0 l1 l2 hM J hl) l0 l1 l2 hM J hl
set_option maxRecDepth 100000 in
set_option maxHeartbeats 4000000 in
theorem mX5_isWord {l : Launch} {G : e_G} (l0 : Nat) (l1 : Nat) (h : e_H) (res : Bool) (hM : fX5_isWord l0 l1 h = some res) : Met l yX5_isWord (e_W yX5_isWord cX5_isWord 3 (some FieldType.boolean)) (e_rm 4 85) (e_Pc G h [.ref (e_ad G l0), .ref (G.2.2.2.2.1 l1)]) (e_Q G h (some (.int (e_b res)))) 0 0 (e_A G) := by
  refine Met.ofW (cc := cX5_isWord) (maxL := 3) (ret := (some FieldType.boolean)) (by decide) rfl ?_
  intro p e s m args below meth c s₁ B hml hv
  obtain ⟨rfl, hS, hP⟩ := hv
  have E := e_enter (own := RX5) (ret := (some FieldType.boolean)) B hml rfl hS hP
  have J : e_J G s h s.heap [] := ⟨hP, va_S.rf⟩
  have hl := lv_entry ([.ref (e_ad G l0), .ref (G.2.2.2.2.1 l1)]) (n := 3) (Nat.le_of_ble_eq_true rfl)
  rw [lg_entry_eq]
  generalize (lg_sl ([.ref (e_ad G l0), .ref (G.2.2.2.2.1 l1)]) ++ List.replicate (3 - (lg_sl ([.ref (e_ad G l0), .ref (G.2.2.2.2.1 l1)])).length) Slot.unset).toArray = ls at hl ⊢
  have hl : lv_has ls 3 [(0, .ref (e_ad G l0)), (1, .ref (G.2.2.2.2.1 l1))] := hl
  obtain ⟨hx, hb, hr, hml, hown, hts, hlocks, hES, hbs⟩ := id E
  unfold fX5_isWord at hM
  obtain ⟨fs_, hk_, hM⟩ := e_bs hM
  refine lv_iconst (v := nI 0) hx hb dX5_isWord_0 (by decide) ?_
  refine lv_istore_n (lv' := [(2, .int (nI 0)), (0, .ref (e_ad G l0)), (1, .ref (G.2.2.2.2.1 l1))]) hx hb dX5_isWord_1 rfl hl (by decide) rfl (fun ls hl => ?_)
  exact mX5_isWord_L2 E h 200 l0 l1 (nI 0) hM J (lv_sub hl [1, 2, 0] rfl)
set_option maxRecDepth 100000 in
set_option maxHeartbeats 4000000 in
theorem mX5_readKey_b32 {p : Program} {l : Launch} {e : Env} {s : State} {m : MethodId} {args : Array Value} {below : List Frame} {meth : Method} {c : Code} {G : e_G} {res : (Int32 × e_H)} {k6 : Nat → Int32 → e_H → Option (Int32 × e_H)} (E : e_M G p s args m meth c cX5_readKey 3 (some FieldType.int) RX5) (K6 : ∀ (l0 : Nat) (l1 : Int32) (h : e_H), k6 l0 l1 h = some res → ∀ (H : Heap) (locs : List Loc), e_J G s h H locs → ∀ (ls : Array Slot), lv_has ls 3 [(0, .ref (e_ad G l0)), (1, .int l1)] → W p l e (e_rm 5 107) s m args below meth c H locs 0 0 (MQ below (e_Q G res.2 (some (.int res.1))) args s 0 0 (e_A G)) (F0 m 6 ls [])) (l0 : Nat) (l1 : Int32) (t0 : Nat) (h : e_H) (hM : fX5_readKey_b32 k6 l0 l1 t0 h = some res) {H : Heap} {locs : List Loc} (J : e_J G s h H locs) {ls : Array Slot} (hl : lv_has ls 3 [(0, .ref (e_ad G l0)), (1, .int l1)]) : W p l e (e_rm 5 107) s m args below meth c H locs 0 0 (MQ below (e_Q G res.2 (some (.int res.1))) args s 0 0 (e_A G)) (F0 m 32 ls [.ref (G.2.2.2.2.1 t0)]) := by
  obtain ⟨hx, hb, hr, hml, hown, hts, hlocks, hES, hbs⟩ := id E
  unfold fX5_readKey_b32 at hM
  refine lv_astore_n (lv' := [(2, .ref (G.2.2.2.2.1 t0)), (0, .ref (e_ad G l0)), (1, .int l1)]) hx hb dX5_readKey_32 rfl hl (by decide) rfl (fun ls hl => ?_)
  refine lv_aload_n hx hb dX5_readKey_33 rfl (lv_at hl 1 rfl) ?_
  refine lv_aload_n hx hb dX5_readKey_34 rfl (lv_at hl 0 rfl) ?_
  obtain ⟨v1, hv, hM⟩ := e_bs hM
  obtain ⟨fs_, hk, -⟩ := e_bs hv
  refine e_callV (ci := 5) (As := [.ref (G.2.2.2.2.1 t0)]) (rest := []) (n := 1) E J hk rfl (mX5_isWord (l := l) (G := G) l0 t0 h _ hv) q_3_171 q_3_173 q_p_8 q_1_6 q_3_174 (by decide +kernel) rfl ⟨Nat.le_of_ble_eq_true rfl, Nat.le_of_ble_eq_true rfl⟩ (st0 := [.ref (G.2.2.2.2.1 t0), .ref (e_ad G l0)]) (st1 := [.int (e_b v1)]) rfl rfl hl.1 (Nat.le_of_ble_eq_true rfl) dX5_readKey_35 ⟨Nat.le_refl _, Nat.le_refl _⟩ (fun H locs J => ?_)
  refine lv_if_eq (tgt := 56) hx hb dX5_readKey_38 (by decide) (fun hc => ?_) (fun hc => ?_)
  · have hM := e_ip hc hM
    refine lv_iinc (v := (l1 + (nI 1))) (lv' := [(1, .int (l1 + (nI 1))), (2, .ref (G.2.2.2.2.1 t0)), (0, .ref (e_ad G l0))]) hx hb dX5_readKey_56 hl (k := 2) rfl rfl (by decide) rfl (fun ls hl => ?_)
    refine lv_goto (tgt := 6) hx hb dX5_readKey_59 (by decide) ?_
    exact K6 l0 (l1 + (nI 1)) h hM _ _ J _ (lv_sub hl [2, 0] rfl)
  · have hM := e_in hc hM
    refine lv_aload_n hx hb dX5_readKey_41 rfl (lv_at hl 1 rfl) ?_
    refine lv_dup hx hb dX5_readKey_42 rfl ?_
    obtain ⟨v2, hv, hM⟩ := e_bs hM
    refine e_getI (C := RX5) (T := TX5) (N := 7) E J hv rfl inX5 (by decide) q_1_133 dX5_readKey_43 ?_
    refine lv_aload_n hx hb dX5_readKey_46 rfl (lv_at hl 0 rfl) ?_
    obtain ⟨v3, hv, hM⟩ := e_bs hM
    have h13 := (e_if1 hv).1
    refine e_callVS (As := []) (rest := [.int v2, .ref (e_ad G l0)]) (n := 0) E J h13 (mJ0_length_8abf5 (l := l) (G := G) t0 h _ hv) q_3_175 q_3_176 q_3_177 q_1_14 q_3_178 (by decide +kernel) rfl ⟨Nat.le_of_ble_eq_true rfl, Nat.le_of_ble_eq_true rfl⟩ (st0 := [.ref (G.2.2.2.2.1 t0), .int v2, .ref (e_ad G l0)]) (st1 := [.int v3, .int v2, .ref (e_ad G l0)]) rfl rfl hl.1 (Nat.le_of_ble_eq_true rfl) dX5_readKey_47 ⟨Nat.le_refl _, Nat.le_refl _⟩ (fun H locs J => ?_)
    refine lv_iadd hx hb dX5_readKey_50 ?_
    obtain ⟨h4, hv, hM⟩ := e_bs hM
    refine e_putv (C := RX5) (T := TX5) (N := 7) E J hv rfl rfl inX5 tyX5 tyX5_ok nmX5 (by decide) q_1_133 rfl rfl rfl rfl dX5_readKey_51 (fun H locs J => ?_)
    refine lv_iload_n hx hb dX5_readKey_54 rfl (lv_at hl 2 rfl) ?_
    obtain rfl := e_so hM
    exact e_iret E J dX5_readKey_55
set_option maxRecDepth 100000 in
set_option maxHeartbeats 4000000 in
theorem mX5_readKey_b6 {p : Program} {l : Launch} {e : Env} {s : State} {m : MethodId} {args : Array Value} {below : List Frame} {meth : Method} {c : Code} {G : e_G} {res : (Int32 × e_H)} {k6 : Nat → Int32 → e_H → Option (Int32 × e_H)} (E : e_M G p s args m meth c cX5_readKey 3 (some FieldType.int) RX5) (K6 : ∀ (l0 : Nat) (l1 : Int32) (h : e_H), k6 l0 l1 h = some res → ∀ (H : Heap) (locs : List Loc), e_J G s h H locs → ∀ (ls : Array Slot), lv_has ls 3 [(0, .ref (e_ad G l0)), (1, .int l1)] → W p l e (e_rm 5 107) s m args below meth c H locs 0 0 (MQ below (e_Q G res.2 (some (.int res.1))) args s 0 0 (e_A G)) (F0 m 6 ls [])) (l0 : Nat) (l1 : Int32) (h : e_H) (hM : fX5_readKey_b6 k6 l0 l1 h = some res) {H : Heap} {locs : List Loc} (J : e_J G s h H locs) {ls : Array Slot} (hl : lv_has ls 3 [(0, .ref (e_ad G l0)), (1, .int l1)]) : W p l e (e_rm 5 107) s m args below meth c H locs 0 0 (MQ below (e_Q G res.2 (some (.int res.1))) args s 0 0 (e_A G)) (F0 m 6 ls []) := by
  obtain ⟨hx, hb, hr, hml, hown, hts, hlocks, hES, hbs⟩ := id E
  unfold fX5_readKey_b6 at hM
  refine lv_iload_n hx hb dX5_readKey_6 rfl (lv_at hl 1 rfl) ?_
  refine lv_iconst (v := nI 2) hx hb dX5_readKey_7 (by decide) ?_
  refine lv_icmp_gt (tgt := 62) hx hb dX5_readKey_8 (by decide) (fun hc => ?_) (fun hc => ?_)
  · have hM := e_ip hc hM
    refine lv_iconst (v := -1) hx hb dX5_readKey_62 (by decide) ?_
    obtain rfl := e_so hM
    exact e_iret E J dX5_readKey_63
  · have hM := e_in hc hM
    refine lv_iload_n hx hb dX5_readKey_11 rfl (lv_at hl 1 rfl) ?_
    refine lv_if_ne (tgt := 20) hx hb dX5_readKey_12 (by decide) (fun hc => ?_) (fun hc => ?_)
    · have hM := e_in hc hM
      refine lv_iload_n hx hb dX5_readKey_20 rfl (lv_at hl 1 rfl) ?_
      refine lv_iconst (v := nI 1) hx hb dX5_readKey_21 (by decide) ?_
      refine lv_icmp_ne (tgt := 30) hx hb dX5_readKey_22 (by decide) (fun hc => ?_) (fun hc => ?_)
      · have hM := e_in hc hM
        refine va_ldcS hx hb hown (hES.2.2.2.2.2.2.1 2 _ rfl) dX5_readKey_30 ?_
        exact mX5_readKey_b32 E K6 l0 l1 (2 : Nat) h hM J (lv_sub hl [0, 1] rfl)
      · have hM := e_ip hc hM
        refine va_ldcS hx hb hown (hES.2.2.2.2.2.2.1 1 _ rfl) dX5_readKey_25 ?_
        refine lv_goto (tgt := 32) hx hb dX5_readKey_27 (by decide) ?_
        exact mX5_readKey_b32 E K6 l0 l1 (1 : Nat) h hM J (lv_sub hl [0, 1] rfl)
    · have hM := e_ip hc hM
      refine va_ldcS hx hb hown (hES.2.2.2.2.2.2.1 0 _ rfl) dX5_readKey_15 ?_
      refine lv_goto (tgt := 32) hx hb dX5_readKey_17 (by decide) ?_
      exact mX5_readKey_b32 E K6 l0 l1 (0 : Nat) h hM J (lv_sub hl [0, 1] rfl)
set_option maxRecDepth 100000 in
set_option maxHeartbeats 4000000 in
theorem mX5_readKey_L6 {p : Program} {l : Launch} {e : Env} {s : State} {m : MethodId} {args : Array Value} {below : List Frame} {meth : Method} {c : Code} {G : e_G} {res : (Int32 × e_H)} (E : e_M G p s args m meth c cX5_readKey 3 (some FieldType.int) RX5) (n : Nat) (l0 : Nat) (l1 : Int32) (h : e_H) (hM : fX5_readKey_L6 n l0 l1 h = some res) {H : Heap} {locs : List Loc} (J : e_J G s h H locs) {ls : Array Slot} (hl : lv_has ls 3 [(0, .ref (e_ad G l0)), (1, .int l1)]) : W p l e (e_rm 5 107) s m args below meth c H locs 0 0 (MQ below (e_Q G res.2 (some (.int res.1))) args s 0 0 (e_A G)) (F0 m 6 ls []) := by
  induction n generalizing l0 l1 h H locs ls with
  | zero => exact e_no hM
  | succ n ih => exact mX5_readKey_b6 (k6 := (fX5_readKey_L6 n)) E   (fun l0 l1 h hM H locs J ls hl => ih l0 l1 h hM J hl) l0 l1 h hM J hl
set_option maxRecDepth 100000 in
set_option maxHeartbeats 4000000 in
theorem mX5_readKey {l : Launch} {G : e_G} (l0 : Nat) (h : e_H) (res : (Int32 × e_H)) (hM : fX5_readKey l0 h = some res) : Met l yX5_readKey (e_W yX5_readKey cX5_readKey 3 (some FieldType.int)) (e_rm 5 107) (e_Pc G h [.ref (e_ad G l0)]) (e_Q G res.2 (some (.int res.1))) 0 0 (e_A G) := by
  refine Met.ofW (cc := cX5_readKey) (maxL := 3) (ret := (some FieldType.int)) (by decide) rfl ?_
  intro p e s m args below meth c s₁ B hml hv
  obtain ⟨rfl, hS, hP⟩ := hv
  have E := e_enter (own := RX5) (ret := (some FieldType.int)) B hml rfl hS hP
  have J : e_J G s h s.heap [] := ⟨hP, va_S.rf⟩
  have hl := lv_entry ([.ref (e_ad G l0)]) (n := 3) (Nat.le_of_ble_eq_true rfl)
  rw [lg_entry_eq]
  generalize (lg_sl ([.ref (e_ad G l0)]) ++ List.replicate (3 - (lg_sl ([.ref (e_ad G l0)])).length) Slot.unset).toArray = ls at hl ⊢
  have hl : lv_has ls 3 [(0, .ref (e_ad G l0))] := hl
  obtain ⟨hx, hb, hr, hml, hown, hts, hlocks, hES, hbs⟩ := id E
  unfold fX5_readKey at hM
  obtain ⟨fs_, hk_, hM⟩ := e_bs hM
  refine lv_aload_n hx hb dX5_readKey_0 rfl (lv_at hl 0 rfl) ?_
  obtain ⟨h1, hv, hM⟩ := e_bs hM
  obtain ⟨fs_, hk, -⟩ := e_bs hv
  refine e_callV (ci := 5) (As := []) (rest := []) (n := 0) E J hk rfl (mX5_skipBlanks (l := l) (G := G) l0 h _ hv) q_3_160 q_3_162 q_p_6 q_1_6 q_3_163 (by decide +kernel) rfl ⟨Nat.le_of_ble_eq_true rfl, Nat.le_of_ble_eq_true rfl⟩ (st0 := [.ref (e_ad G l0)]) (st1 := []) rfl rfl hl.1 (Nat.le_of_ble_eq_true rfl) dX5_readKey_1 ⟨Nat.le_refl _, Nat.le_refl _⟩ (fun H locs J => ?_)
  refine lv_iconst (v := nI 0) hx hb dX5_readKey_4 (by decide) ?_
  refine lv_istore_n (lv' := [(1, .int (nI 0)), (0, .ref (e_ad G l0))]) hx hb dX5_readKey_5 rfl hl (by decide) rfl (fun ls hl => ?_)
  exact mX5_readKey_L6 E 200 l0 (nI 0) h1 hM J (lv_sub hl [1, 0] rfl)
set_option maxRecDepth 100000 in
set_option maxHeartbeats 4000000 in
theorem mX5_isDigit {l : Launch} {G : e_G} (l0 : Int32) (h : e_H) (res : Bool) (hM : fX5_isDigit l0 = some res) : Met l yX5_isDigit (e_W yX5_isDigit cX5_isDigit 1 (some FieldType.boolean)) (e_rm 0 0) (e_Pc G h [.int l0]) (e_Q G h (some (.int (e_b res)))) 0 0 (e_A G) := by
  refine Met.ofW (cc := cX5_isDigit) (maxL := 1) (ret := (some FieldType.boolean)) (by decide) rfl ?_
  intro p e s m args below meth c s₁ B hml hv
  obtain ⟨rfl, hS, hP⟩ := hv
  have E := e_enter (own := RX5) (ret := (some FieldType.boolean)) B hml rfl hS hP
  have J : e_J G s h s.heap [] := ⟨hP, va_S.rf⟩
  have hl := lv_entry ([.int l0]) (n := 1) (Nat.le_of_ble_eq_true rfl)
  rw [lg_entry_eq]
  generalize (lg_sl ([.int l0]) ++ List.replicate (1 - (lg_sl ([.int l0])).length) Slot.unset).toArray = ls at hl ⊢
  have hl : lv_has ls 1 [(0, .int l0)] := hl
  obtain ⟨hx, hb, hr, hml, hown, hts, hlocks, hES, hbs⟩ := id E
  unfold fX5_isDigit at hM
  refine lv_iload_n hx hb dX5_isDigit_0 rfl (lv_at hl 0 rfl) ?_
  refine lv_bipush (v := nI 48) hx hb dX5_isDigit_1 (by decide) ?_
  refine lv_icmp_lt (tgt := 16) hx hb dX5_isDigit_3 (by decide) (fun hc => ?_) (fun hc => ?_)
  · have hM := e_ip hc hM
    refine lv_iconst (v := nI 0) hx hb dX5_isDigit_16 (by decide) ?_
    obtain rfl := e_so hM
    exact e_zret E J (false) rfl dX5_isDigit_17
  · have hM := e_in hc hM
    refine lv_iload_n hx hb dX5_isDigit_6 rfl (lv_at hl 0 rfl) ?_
    refine lv_bipush (v := nI 57) hx hb dX5_isDigit_7 (by decide) ?_
    refine lv_icmp_gt (tgt := 16) hx hb dX5_isDigit_9 (by decide) (fun hc => ?_) (fun hc => ?_)
    · have hM := e_ip hc hM
      refine lv_iconst (v := nI 0) hx hb dX5_isDigit_16 (by decide) ?_
      obtain rfl := e_so hM
      exact e_zret E J (false) rfl dX5_isDigit_17
    · have hM := e_in hc hM
      refine lv_iconst (v := nI 1) hx hb dX5_isDigit_12 (by decide) ?_
      refine lv_goto (tgt := 17) hx hb dX5_isDigit_13 (by decide) ?_
      obtain rfl := e_so hM
      exact e_zret E J (true) rfl dX5_isDigit_17
set_option maxRecDepth 100000 in
set_option maxHeartbeats 4000000 in
theorem mJ1_canEncode_9a6ad {l : Launch} {G : e_G} (l0 : Int32) (h : e_H) (res : Bool) (hM : fJ1_canEncode_9a6ad l0 = some res) : Met l yJ1_canEncode_9a6ad (e_W yJ1_canEncode_9a6ad cJ1_canEncode_9a6ad 1 (some FieldType.boolean)) (e_rm 0 0) (e_Pc G h [.int l0]) (e_Q G h (some (.int (e_b res)))) 0 0 (e_A G) := by
  refine Met.ofW (cc := cJ1_canEncode_9a6ad) (maxL := 1) (ret := (some FieldType.boolean)) (by decide) rfl ?_
  intro p e s m args below meth c s₁ B hml hv
  obtain ⟨rfl, hS, hP⟩ := hv
  have E := e_enter (own := RJ1) (ret := (some FieldType.boolean)) B hml rfl hS hP
  have J : e_J G s h s.heap [] := ⟨hP, va_S.rf⟩
  have hl := lv_entry ([.int l0]) (n := 1) (Nat.le_of_ble_eq_true rfl)
  rw [lg_entry_eq]
  generalize (lg_sl ([.int l0]) ++ List.replicate (1 - (lg_sl ([.int l0])).length) Slot.unset).toArray = ls at hl ⊢
  have hl : lv_has ls 1 [(0, .int l0)] := hl
  obtain ⟨hx, hb, hr, hml, hown, hts, hlocks, hES, hbs⟩ := id E
  unfold fJ1_canEncode_9a6ad at hM
  refine lv_iload_n hx hb dJ1_canEncode_9a6ad_0 rfl (lv_at hl 0 rfl) ?_
  refine lv_if_lt (tgt := 15) hx hb dJ1_canEncode_9a6ad_1 (by decide) (fun hc => ?_) (fun hc => ?_)
  · have hM := e_ip hc hM
    refine lv_iconst (v := nI 0) hx hb dJ1_canEncode_9a6ad_15 (by decide) ?_
    obtain rfl := e_so hM
    exact e_zret E J (false) rfl dJ1_canEncode_9a6ad_16
  · have hM := e_in hc hM
    refine lv_iload_n hx hb dJ1_canEncode_9a6ad_4 rfl (lv_at hl 0 rfl) ?_
    refine lv_sipush (v := nI 255) hx hb dJ1_canEncode_9a6ad_5 (by decide) ?_
    refine lv_icmp_gt (tgt := 15) hx hb dJ1_canEncode_9a6ad_8 (by decide) (fun hc => ?_) (fun hc => ?_)
    · have hM := e_ip hc hM
      refine lv_iconst (v := nI 0) hx hb dJ1_canEncode_9a6ad_15 (by decide) ?_
      obtain rfl := e_so hM
      exact e_zret E J (false) rfl dJ1_canEncode_9a6ad_16
    · have hM := e_in hc hM
      refine lv_iconst (v := nI 1) hx hb dJ1_canEncode_9a6ad_11 (by decide) ?_
      refine lv_goto (tgt := 16) hx hb dJ1_canEncode_9a6ad_12 (by decide) ?_
      obtain rfl := e_so hM
      exact e_zret E J (true) rfl dJ1_canEncode_9a6ad_16
set_option maxRecDepth 100000 in
set_option maxHeartbeats 4000000 in
theorem mJ1_indexOfChar_4cfef_b7 {p : Program} {l : Launch} {e : Env} {s : State} {m : MethodId} {args : Array Value} {below : List Frame} {meth : Method} {c : Code} {G : e_G} {res : Int32} {k7 : Nat → Int32 → Int32 → Int32 → Option Int32} (E : e_M G p s args m meth c cJ1_indexOfChar_4cfef 6 (some FieldType.int) RJ1) (h : e_H) (K7 : ∀ (l0 : Nat) (l3 : Int32) (l4 : Int32) (l5 : Int32), k7 l0 l3 l4 l5 = some res → ∀ (H : Heap) (locs : List Loc), e_J G s h H locs → ∀ (ls : Array Slot), lv_has ls 6 [(0, .ref (G.2.2.2.2.2 l0)), (3, .int l3), (4, .int l4), (5, .int l5)] → W p l e (e_rm 0 0) s m args below meth c H locs 0 0 (MQ below (e_Q G h (some (.int res))) args s 0 0 (e_A G)) (F0 m 7 ls [])) (l0 : Nat) (l3 : Int32) (l4 : Int32) (l5 : Int32) (hM : fJ1_indexOfChar_4cfef_b7 k7 l0 l3 l4 l5 = some res) {H : Heap} {locs : List Loc} (J : e_J G s h H locs) {ls : Array Slot} (hl : lv_has ls 6 [(0, .ref (G.2.2.2.2.2 l0)), (3, .int l3), (4, .int l4), (5, .int l5)]) : W p l e (e_rm 0 0) s m args below meth c H locs 0 0 (MQ below (e_Q G h (some (.int res))) args s 0 0 (e_A G)) (F0 m 7 ls []) := by
  obtain ⟨hx, hb, hr, hml, hown, hts, hlocks, hES, hbs⟩ := id E
  unfold fJ1_indexOfChar_4cfef_b7 at hM
  refine lv_iload hx hb dJ1_indexOfChar_4cfef_7 (lv_at hl 3 rfl) ?_
  refine lv_iload_n hx hb dJ1_indexOfChar_4cfef_9 rfl (lv_at hl 1 rfl) ?_
  refine lv_icmp_ge (tgt := 31) hx hb dJ1_indexOfChar_4cfef_10 (by decide) (fun hc => ?_) (fun hc => ?_)
  · have hM := e_ip hc hM
    refine lv_iconst (v := -1) hx hb dJ1_indexOfChar_4cfef_31 (by decide) ?_
    obtain rfl := e_so hM
    exact e_iret E J dJ1_indexOfChar_4cfef_32
  · have hM := e_in hc hM
    refine lv_aload_n hx hb dJ1_indexOfChar_4cfef_13 rfl (lv_at hl 0 rfl) ?_
    refine lv_iload hx hb dJ1_indexOfChar_4cfef_14 (lv_at hl 3 rfl) ?_
    obtain ⟨h13, hM⟩ := e_if1 hM
    obtain ⟨hz, hM⟩ := e_if0 hM
    refine e_tbald hx hb (hES.2.2.2.2.2.1.1 _ h13).2.2.2 J.2 (fun z => hz (Or.inl z)) (Nat.not_le.mp fun z => hz (Or.inr z)) dJ1_indexOfChar_4cfef_16 ?_
    refine lv_iload hx hb dJ1_indexOfChar_4cfef_17 (lv_at hl 2 rfl) ?_
    refine lv_icmp_ne (tgt := 25) hx hb dJ1_indexOfChar_4cfef_19 (by decide) (fun hc => ?_) (fun hc => ?_)
    · have hM := e_in hc hM
      refine lv_iinc (v := (l5 + (nI 1))) (lv' := [(5, .int (l5 + (nI 1))), (0, .ref (G.2.2.2.2.2 l0)), (3, .int l3), (4, .int l4)]) hx hb dJ1_indexOfChar_4cfef_25 hl (k := 3) rfl rfl (by decide) rfl (fun ls hl => ?_)
      refine lv_goto (tgt := 7) hx hb dJ1_indexOfChar_4cfef_28 (by decide) ?_
      exact K7 l0 l3 l4 (l5 + (nI 1)) hM _ _ J _ (lv_sub hl [1, 2, 3, 0] rfl)
    · have hM := e_ip hc hM
      refine lv_iload hx hb dJ1_indexOfChar_4cfef_22 (lv_at hl 3 rfl) ?_
      obtain rfl := e_so hM
      exact e_iret E J dJ1_indexOfChar_4cfef_24
set_option maxRecDepth 100000 in
set_option maxHeartbeats 4000000 in
theorem mJ1_indexOfChar_4cfef_L7 {p : Program} {l : Launch} {e : Env} {s : State} {m : MethodId} {args : Array Value} {below : List Frame} {meth : Method} {c : Code} {G : e_G} {res : Int32} (E : e_M G p s args m meth c cJ1_indexOfChar_4cfef 6 (some FieldType.int) RJ1) (h : e_H) (n : Nat) (l0 : Nat) (l3 : Int32) (l4 : Int32) (l5 : Int32) (hM : fJ1_indexOfChar_4cfef_L7 n l0 l3 l4 l5 = some res) {H : Heap} {locs : List Loc} (J : e_J G s h H locs) {ls : Array Slot} (hl : lv_has ls 6 [(0, .ref (G.2.2.2.2.2 l0)), (3, .int l3), (4, .int l4), (5, .int l5)]) : W p l e (e_rm 0 0) s m args below meth c H locs 0 0 (MQ below (e_Q G h (some (.int res))) args s 0 0 (e_A G)) (F0 m 7 ls []) := by
  induction n generalizing l0 l3 l4 l5 H locs ls with
  | zero => exact e_no hM
  | succ n ih => exact mJ1_indexOfChar_4cfef_b7 (k7 := (fJ1_indexOfChar_4cfef_L7 n)) E h  (fun l0 l3 l4 l5 hM H locs J ls hl => ih l0 l3 l4 l5 hM J hl) l0 l3 l4 l5 hM J hl
set_option maxRecDepth 100000 in
set_option maxHeartbeats 4000000 in
theorem mJ1_indexOfChar_4cfef {l : Launch} {G : e_G} (l0 : Nat) (l1 : Int32) (l2 : Int32) (l3 : Int32) (h : e_H) (res : Int32) (hM : fJ1_indexOfChar_4cfef l0 l1 l2 l3 = some res) : Met l yJ1_indexOfChar_4cfef (e_W yJ1_indexOfChar_4cfef cJ1_indexOfChar_4cfef 6 (some FieldType.int)) (e_rm 0 0) (e_Pc G h [.ref (G.2.2.2.2.2 l0), .int l1, .int l2, .int l3]) (e_Q G h (some (.int res))) 0 0 (e_A G) := by
  refine Met.ofW (cc := cJ1_indexOfChar_4cfef) (maxL := 6) (ret := (some FieldType.int)) (by decide) rfl ?_
  intro p e s m args below meth c s₁ B hml hv
  obtain ⟨rfl, hS, hP⟩ := hv
  have E := e_enter (own := RJ1) (ret := (some FieldType.int)) B hml rfl hS hP
  have J : e_J G s h s.heap [] := ⟨hP, va_S.rf⟩
  have hl := lv_entry ([.ref (G.2.2.2.2.2 l0), .int l1, .int l2, .int l3]) (n := 6) (Nat.le_of_ble_eq_true rfl)
  rw [lg_entry_eq]
  generalize (lg_sl ([.ref (G.2.2.2.2.2 l0), .int l1, .int l2, .int l3]) ++ List.replicate (6 - (lg_sl ([.ref (G.2.2.2.2.2 l0), .int l1, .int l2, .int l3])).length) Slot.unset).toArray = ls at hl ⊢
  have hl : lv_has ls 6 [(0, .ref (G.2.2.2.2.2 l0)), (1, .int l1), (2, .int l2), (3, .int l3)] := hl
  obtain ⟨hx, hb, hr, hml, hown, hts, hlocks, hES, hbs⟩ := id E
  unfold fJ1_indexOfChar_4cfef at hM
  refine lv_iload_n hx hb dJ1_indexOfChar_4cfef_0 rfl (lv_at hl 1 rfl) ?_
  refine lv_i2b hx hb dJ1_indexOfChar_4cfef_1 rfl ?_
  refine lv_istore (lv' := [(4, .int (l1).toInt8.toInt32), (0, .ref (G.2.2.2.2.2 l0)), (1, .int l1), (2, .int l2), (3, .int l3)]) hx hb dJ1_indexOfChar_4cfef_2 hl (by decide) rfl (fun ls hl => ?_)
  refine lv_iload_n hx hb dJ1_indexOfChar_4cfef_4 rfl (lv_at hl 3 rfl) ?_
  refine lv_istore (lv' := [(5, .int l2), (4, .int (l1).toInt8.toInt32), (0, .ref (G.2.2.2.2.2 l0)), (1, .int l1), (2, .int l2), (3, .int l3)]) hx hb dJ1_indexOfChar_4cfef_5 hl (by decide) rfl (fun ls hl => ?_)
  exact mJ1_indexOfChar_4cfef_L7 E h 200 l0 l3 (l1).toInt8.toInt32 l2 hM J (lv_sub hl [2, 5, 1, 0] rfl)
set_option maxRecDepth 100000 in
set_option maxHeartbeats 4000000 in
theorem mJ1_indexOf_4cfef {l : Launch} {G : e_G} (l0 : Nat) (l1 : Int32) (l2 : Int32) (l3 : Int32) (h : e_H) (res : Int32) (hM : fJ1_indexOf_4cfef l0 l1 l2 l3 = some res) : Met l yJ1_indexOf_4cfef (e_W yJ1_indexOf_4cfef cJ1_indexOf_4cfef 4 (some FieldType.int)) (e_rm 1 40) (e_Pc G h [.ref (G.2.2.2.2.2 l0), .int l1, .int l2, .int l3]) (e_Q G h (some (.int res))) 0 0 (e_A G) := by
  refine Met.ofW (cc := cJ1_indexOf_4cfef) (maxL := 4) (ret := (some FieldType.int)) (by decide) rfl ?_
  intro p e s m args below meth c s₁ B hml hv
  obtain ⟨rfl, hS, hP⟩ := hv
  have E := e_enter (own := RJ1) (ret := (some FieldType.int)) B hml rfl hS hP
  have J : e_J G s h s.heap [] := ⟨hP, va_S.rf⟩
  have hl := lv_entry ([.ref (G.2.2.2.2.2 l0), .int l1, .int l2, .int l3]) (n := 4) (Nat.le_of_ble_eq_true rfl)
  rw [lg_entry_eq]
  generalize (lg_sl ([.ref (G.2.2.2.2.2 l0), .int l1, .int l2, .int l3]) ++ List.replicate (4 - (lg_sl ([.ref (G.2.2.2.2.2 l0), .int l1, .int l2, .int l3])).length) Slot.unset).toArray = ls at hl ⊢
  have hl : lv_has ls 4 [(0, .ref (G.2.2.2.2.2 l0)), (1, .int l1), (2, .int l2), (3, .int l3)] := hl
  obtain ⟨hx, hb, hr, hml, hown, hts, hlocks, hES, hbs⟩ := id E
  unfold fJ1_indexOf_4cfef at hM
  refine lv_iload_n hx hb dJ1_indexOf_4cfef_0 rfl (lv_at hl 1 rfl) ?_
  obtain ⟨v1, hv, hM⟩ := e_bs hM
  refine e_callS (As := [.int l1]) (rest := []) (n := 1) E J (mJ1_canEncode_9a6ad (l := l) (G := G) l1 h _ hv) q_4_12 q_4_13 q_1_15 q_4_14 (by decide +kernel) rfl ⟨Nat.le_of_ble_eq_true rfl, Nat.le_of_ble_eq_true rfl⟩ (st0 := [.int l1]) (st1 := [.int (e_b v1)]) rfl rfl hl.1 (Nat.le_of_ble_eq_true rfl) dJ1_indexOf_4cfef_1 ⟨Nat.le_refl _, Nat.le_refl _⟩ (fun H locs J => ?_)
  refine lv_if_ne (tgt := 9) hx hb dJ1_indexOf_4cfef_4 (by decide) (fun hc => ?_) (fun hc => ?_)
  · have hM := e_in hc hM
    refine lv_iload_n hx hb dJ1_indexOf_4cfef_9 rfl (lv_at hl 2 rfl) ?_
    refine lv_iconst (v := nI 0) hx hb dJ1_indexOf_4cfef_10 (by decide) ?_
    refine va_mmax hx hb (hml.trans hl.1.symm) hown (hts _ q_4_15) (hts _ q_2_79) (hts _ q_1_12) (hts _ q_2_80) (Nat.le_of_ble_eq_true rfl) (Nat.le_of_ble_eq_true rfl) (Nat.zero_le _) (Nat.zero_le _) dJ1_indexOf_4cfef_11 ?_
    refine lv_istore_n (lv' := [(2, .int (if l2 < (nI 0) then (nI 0) else l2)), (0, .ref (G.2.2.2.2.2 l0)), (1, .int l1), (3, .int l3)]) hx hb dJ1_indexOf_4cfef_14 rfl hl (by decide) rfl (fun ls hl => ?_)
    refine lv_iload_n hx hb dJ1_indexOf_4cfef_15 rfl (lv_at hl 3 rfl) ?_
    refine lv_aload_n hx hb dJ1_indexOf_4cfef_16 rfl (lv_at hl 1 rfl) ?_
    obtain ⟨h13, hM⟩ := e_if1 hM
    refine e_tlen (v := Int32.ofNat (o_sn l0)) hx hb (hES.2.2.2.2.2.1.1 _ h13).2.2.2 J.2 rfl dJ1_indexOf_4cfef_17 ?_
    refine va_mmin hx hb (hml.trans hl.1.symm) hown (hts _ q_4_16) (hts _ q_2_76) (hts _ q_1_12) (hts _ q_2_77) (Nat.le_of_ble_eq_true rfl) (Nat.le_of_ble_eq_true rfl) (Nat.zero_le _) (Nat.zero_le _) dJ1_indexOf_4cfef_18 ?_
    refine lv_istore_n (lv' := [(3, .int (if (Int32.ofNat (o_sn l0)) < l3 then (Int32.ofNat (o_sn l0)) else l3)), (2, .int (if l2 < (nI 0) then (nI 0) else l2)), (0, .ref (G.2.2.2.2.2 l0)), (1, .int l1)]) hx hb dJ1_indexOf_4cfef_21 rfl hl (by decide) rfl (fun ls hl => ?_)
    refine lv_iload_n hx hb dJ1_indexOf_4cfef_22 rfl (lv_at hl 1 rfl) ?_
    refine lv_iload_n hx hb dJ1_indexOf_4cfef_23 rfl (lv_at hl 0 rfl) ?_
    refine lv_icmp_lt (tgt := 29) hx hb dJ1_indexOf_4cfef_24 (by decide) (fun hc => ?_) (fun hc => ?_)
    · have hM := e_ip hc hM
      refine lv_aload_n hx hb dJ1_indexOf_4cfef_29 rfl (lv_at hl 2 rfl) ?_
      refine lv_iload_n hx hb dJ1_indexOf_4cfef_30 rfl (lv_at hl 3 rfl) ?_
      refine lv_iload_n hx hb dJ1_indexOf_4cfef_31 rfl (lv_at hl 1 rfl) ?_
      refine lv_iload_n hx hb dJ1_indexOf_4cfef_32 rfl (lv_at hl 0 rfl) ?_
      obtain ⟨v2, hv, hM⟩ := e_bs hM
      refine e_callS (As := [.ref (G.2.2.2.2.2 l0), .int l1, .int (if l2 < (nI 0) then (nI 0) else l2), .int (if (Int32.ofNat (o_sn l0)) < l3 then (Int32.ofNat (o_sn l0)) else l3)]) (rest := []) (n := 4) E J (mJ1_indexOfChar_4cfef (l := l) (G := G) l0 l1 (if l2 < (nI 0) then (nI 0) else l2) (if (Int32.ofNat (o_sn l0)) < l3 then (Int32.ofNat (o_sn l0)) else l3) h _ hv) q_4_17 q_4_18 q_1_15 q_4_19 (by decide +kernel) rfl ⟨Nat.le_of_ble_eq_true rfl, Nat.le_of_ble_eq_true rfl⟩ (st0 := [.int (if (Int32.ofNat (o_sn l0)) < l3 then (Int32.ofNat (o_sn l0)) else l3), .int (if l2 < (nI 0) then (nI 0) else l2), .int l1, .ref (G.2.2.2.2.2 l0)]) (st1 := [.int v2]) rfl rfl hl.1 (Nat.le_of_ble_eq_true rfl) dJ1_indexOf_4cfef_33 ⟨Nat.le_refl _, Nat.le_refl _⟩ (fun H locs J => ?_)
      obtain rfl := e_so hM
      exact e_iret E J dJ1_indexOf_4cfef_36
    · have hM := e_in hc hM
      refine lv_iconst (v := -1) hx hb dJ1_indexOf_4cfef_27 (by decide) ?_
      obtain rfl := e_so hM
      exact e_iret E J dJ1_indexOf_4cfef_28
  · have hM := e_ip hc hM
    refine lv_iconst (v := -1) hx hb dJ1_indexOf_4cfef_7 (by decide) ?_
    obtain rfl := e_so hM
    exact e_iret E J dJ1_indexOf_4cfef_8
set_option maxRecDepth 100000 in
set_option maxHeartbeats 4000000 in
theorem mJ0_indexOf_7cf53 {l : Launch} {G : e_G} (l0 : Nat) (l1 : Int32) (l2 : Int32) (h : e_H) (res : Int32) (hM : fJ0_indexOf_7cf53 l0 l1 l2 = some res) : Met l yJ0_indexOf_7cf53 (e_W yJ0_indexOf_7cf53 cJ0_indexOf_7cf53 3 (some FieldType.int)) (e_rm 2 63) (e_Pc G h [.ref (G.2.2.2.2.1 l0), .int l1, .int l2]) (e_Q G h (some (.int res))) 0 0 (e_A G) := by
  refine Met.ofW (cc := cJ0_indexOf_7cf53) (maxL := 3) (ret := (some FieldType.int)) (by decide) rfl ?_
  intro p e s m args below meth c s₁ B hml hv
  obtain ⟨rfl, hS, hP⟩ := hv
  have E := e_enter (own := RJ0) (ret := (some FieldType.int)) B hml rfl hS hP
  have J : e_J G s h s.heap [] := ⟨hP, va_S.rf⟩
  have hl := lv_entry ([.ref (G.2.2.2.2.1 l0), .int l1, .int l2]) (n := 3) (Nat.le_of_ble_eq_true rfl)
  rw [lg_entry_eq]
  generalize (lg_sl ([.ref (G.2.2.2.2.1 l0), .int l1, .int l2]) ++ List.replicate (3 - (lg_sl ([.ref (G.2.2.2.2.1 l0), .int l1, .int l2])).length) Slot.unset).toArray = ls at hl ⊢
  have hl : lv_has ls 3 [(0, .ref (G.2.2.2.2.1 l0)), (1, .int l1), (2, .int l2)] := hl
  obtain ⟨hx, hb, hr, hml, hown, hts, hlocks, hES, hbs⟩ := id E
  unfold fJ0_indexOf_7cf53 at hM
  obtain ⟨h13, hM⟩ := e_if1 hM
  refine lv_aload_n hx hb dJ0_indexOf_7cf53_0 rfl (lv_at hl 0 rfl) ?_
  obtain ⟨v1, hv, hM⟩ := e_bs hM
  have h13 := (e_if1 hv).1
  refine e_callVS (As := []) (rest := []) (n := 0) E J h13 (mJ0_isLatin1_aae02 (l := l) (G := G) l0 h _ hv) q_3_189 q_3_190 q_3_191 q_1_14 q_3_192 (by decide +kernel) rfl ⟨Nat.le_of_ble_eq_true rfl, Nat.le_of_ble_eq_true rfl⟩ (st0 := [.ref (G.2.2.2.2.1 l0)]) (st1 := [.int (e_b v1)]) rfl rfl hl.1 (Nat.le_of_ble_eq_true rfl) dJ0_indexOf_7cf53_1 ⟨Nat.le_refl _, Nat.le_refl _⟩ (fun H locs J => ?_)
  refine lv_if_eq (tgt := 23) hx hb dJ0_indexOf_7cf53_4 (by decide) (fun hc => ?_) (fun hc => ?_)
  · have hM := e_ip hc hM
    refine lv_aload_n hx hb dJ0_indexOf_7cf53_23 rfl (lv_at hl 0 rfl) ?_
    refine vk_getf hx hb (hES.2.2.2.2.2.1.1 _ h13).2.2.1 J.2 hown (hts _ q_7_7) (fun _ h9 => h9) dJ0_indexOf_7cf53_24 ?_
    refine lv_iload_n hx hb dJ0_indexOf_7cf53_27 rfl (lv_at hl 1 rfl) ?_
    refine lv_iload_n hx hb dJ0_indexOf_7cf53_28 rfl (lv_at hl 2 rfl) ?_
    refine lv_aload_n hx hb dJ0_indexOf_7cf53_29 rfl (lv_at hl 0 rfl) ?_
    obtain ⟨v2, hv, hM⟩ := e_bs hM
    have h13 := (e_if1 hv).1
    refine e_callVS (As := []) (rest := [.int l2, .int l1, .ref (G.2.2.2.2.2 l0)]) (n := 0) E J h13 (mJ0_length_8abf5 (l := l) (G := G) l0 h _ hv) q_4_8 q_3_176 q_3_177 q_1_14 q_3_178 (by decide +kernel) rfl ⟨Nat.le_of_ble_eq_true rfl, Nat.le_of_ble_eq_true rfl⟩ (st0 := [.ref (G.2.2.2.2.1 l0), .int l2, .int l1, .ref (G.2.2.2.2.2 l0)]) (st1 := [.int v2, .int l2, .int l1, .ref (G.2.2.2.2.2 l0)]) rfl rfl hl.1 (Nat.le_of_ble_eq_true rfl) dJ0_indexOf_7cf53_30 ⟨Nat.le_refl _, Nat.le_refl _⟩ (fun H locs J => ?_)
    exact e_no hM
  · have hM := e_in hc hM
    refine lv_aload_n hx hb dJ0_indexOf_7cf53_7 rfl (lv_at hl 0 rfl) ?_
    refine vk_getf hx hb (hES.2.2.2.2.2.1.1 _ h13).2.2.1 J.2 hown (hts _ q_7_7) (fun _ h9 => h9) dJ0_indexOf_7cf53_8 ?_
    refine lv_iload_n hx hb dJ0_indexOf_7cf53_11 rfl (lv_at hl 1 rfl) ?_
    refine lv_iload_n hx hb dJ0_indexOf_7cf53_12 rfl (lv_at hl 2 rfl) ?_
    refine lv_aload_n hx hb dJ0_indexOf_7cf53_13 rfl (lv_at hl 0 rfl) ?_
    obtain ⟨v3, hv, hM⟩ := e_bs hM
    have h13 := (e_if1 hv).1
    refine e_callVS (As := []) (rest := [.int l2, .int l1, .ref (G.2.2.2.2.2 l0)]) (n := 0) E J h13 (mJ0_length_8abf5 (l := l) (G := G) l0 h _ hv) q_4_8 q_3_176 q_3_177 q_1_14 q_3_178 (by decide +kernel) rfl ⟨Nat.le_of_ble_eq_true rfl, Nat.le_of_ble_eq_true rfl⟩ (st0 := [.ref (G.2.2.2.2.1 l0), .int l2, .int l1, .ref (G.2.2.2.2.2 l0)]) (st1 := [.int v3, .int l2, .int l1, .ref (G.2.2.2.2.2 l0)]) rfl rfl hl.1 (Nat.le_of_ble_eq_true rfl) dJ0_indexOf_7cf53_14 ⟨Nat.le_refl _, Nat.le_refl _⟩ (fun H locs J => ?_)
    obtain ⟨v4, hv, hM⟩ := e_bs hM
    refine e_callS (As := [.ref (G.2.2.2.2.2 l0), .int l1, .int l2, .int v3]) (rest := []) (n := 4) E J (mJ1_indexOf_4cfef (l := l) (G := G) l0 l1 l2 v3 h _ hv) q_4_9 q_4_10 q_1_15 q_4_11 (by decide +kernel) rfl ⟨Nat.le_of_ble_eq_true rfl, Nat.le_of_ble_eq_true rfl⟩ (st0 := [.int v3, .int l2, .int l1, .ref (G.2.2.2.2.2 l0)]) (st1 := [.int v4]) rfl rfl hl.1 (Nat.le_of_ble_eq_true rfl) dJ0_indexOf_7cf53_17 ⟨Nat.le_refl _, Nat.le_refl _⟩ (fun H locs J => ?_)
    refine lv_goto (tgt := 36) hx hb dJ0_indexOf_7cf53_20 (by decide) ?_
    obtain rfl := e_so hM
    exact e_iret E J dJ0_indexOf_7cf53_36
set_option maxRecDepth 100000 in
set_option maxHeartbeats 4000000 in
theorem mJ0_indexOf_0f7a4 {l : Launch} {G : e_G} (l0 : Nat) (l1 : Int32) (h : e_H) (res : Int32) (hM : fJ0_indexOf_0f7a4 l0 l1 = some res) : Met l yJ0_indexOf_0f7a4 (e_W yJ0_indexOf_0f7a4 cJ0_indexOf_0f7a4 2 (some FieldType.int)) (e_rm 3 85) (e_Pc G h [.ref (G.2.2.2.2.1 l0), .int l1]) (e_Q G h (some (.int res))) 0 0 (e_A G) := by
  refine Met.ofW (cc := cJ0_indexOf_0f7a4) (maxL := 2) (ret := (some FieldType.int)) (by decide) rfl ?_
  intro p e s m args below meth c s₁ B hml hv
  obtain ⟨rfl, hS, hP⟩ := hv
  have E := e_enter (own := RJ0) (ret := (some FieldType.int)) B hml rfl hS hP
  have J : e_J G s h s.heap [] := ⟨hP, va_S.rf⟩
  have hl := lv_entry ([.ref (G.2.2.2.2.1 l0), .int l1]) (n := 2) (Nat.le_of_ble_eq_true rfl)
  rw [lg_entry_eq]
  generalize (lg_sl ([.ref (G.2.2.2.2.1 l0), .int l1]) ++ List.replicate (2 - (lg_sl ([.ref (G.2.2.2.2.1 l0), .int l1])).length) Slot.unset).toArray = ls at hl ⊢
  have hl : lv_has ls 2 [(0, .ref (G.2.2.2.2.1 l0)), (1, .int l1)] := hl
  obtain ⟨hx, hb, hr, hml, hown, hts, hlocks, hES, hbs⟩ := id E
  unfold fJ0_indexOf_0f7a4 at hM
  obtain ⟨h13, hM⟩ := e_if1 hM
  refine lv_aload_n hx hb dJ0_indexOf_0f7a4_0 rfl (lv_at hl 0 rfl) ?_
  refine lv_iload_n hx hb dJ0_indexOf_0f7a4_1 rfl (lv_at hl 1 rfl) ?_
  refine lv_iconst (v := nI 0) hx hb dJ0_indexOf_0f7a4_2 (by decide) ?_
  obtain ⟨v1, hv, hM⟩ := e_bs hM
  have h13 := (e_if1 hv).1
  refine e_callVS (As := [.int l1, .int (nI 0)]) (rest := []) (n := 2) E J h13 (mJ0_indexOf_7cf53 (l := l) (G := G) l0 l1 (nI 0) h _ hv) q_4_4 q_4_5 q_4_6 q_1_14 q_4_7 (by decide +kernel) rfl ⟨Nat.le_of_ble_eq_true rfl, Nat.le_of_ble_eq_true rfl⟩ (st0 := [.int (nI 0), .int l1, .ref (G.2.2.2.2.1 l0)]) (st1 := [.int v1]) rfl rfl hl.1 (Nat.le_of_ble_eq_true rfl) dJ0_indexOf_0f7a4_3 ⟨Nat.le_refl _, Nat.le_refl _⟩ (fun H locs J => ?_)
  obtain rfl := e_so hM
  exact e_iret E J dJ0_indexOf_0f7a4_6
set_option maxRecDepth 100000 in
set_option maxHeartbeats 4000000 in
theorem mX5_nextOf {l : Launch} {G : e_G} (l0 : Nat) (l1 : Nat) (h : e_H) (res : (Int32 × e_H)) (hM : fX5_nextOf l0 l1 h = some res) : Met l yX5_nextOf (e_W yX5_nextOf cX5_nextOf 3 (some FieldType.int)) (e_rm 4 106) (e_Pc G h [.ref (e_ad G l0), .ref (G.2.2.2.2.1 l1)]) (e_Q G res.2 (some (.int res.1))) 0 0 (e_A G) := by
  refine Met.ofW (cc := cX5_nextOf) (maxL := 3) (ret := (some FieldType.int)) (by decide) rfl ?_
  intro p e s m args below meth c s₁ B hml hv
  obtain ⟨rfl, hS, hP⟩ := hv
  have E := e_enter (own := RX5) (ret := (some FieldType.int)) B hml rfl hS hP
  have J : e_J G s h s.heap [] := ⟨hP, va_S.rf⟩
  have hl := lv_entry ([.ref (e_ad G l0), .ref (G.2.2.2.2.1 l1)]) (n := 3) (Nat.le_of_ble_eq_true rfl)
  rw [lg_entry_eq]
  generalize (lg_sl ([.ref (e_ad G l0), .ref (G.2.2.2.2.1 l1)]) ++ List.replicate (3 - (lg_sl ([.ref (e_ad G l0), .ref (G.2.2.2.2.1 l1)])).length) Slot.unset).toArray = ls at hl ⊢
  have hl : lv_has ls 3 [(0, .ref (e_ad G l0)), (1, .ref (G.2.2.2.2.1 l1))] := hl
  obtain ⟨hx, hb, hr, hml, hown, hts, hlocks, hES, hbs⟩ := id E
  unfold fX5_nextOf at hM
  obtain ⟨fs_, hk_, hM⟩ := e_bs hM
  refine lv_aload_n hx hb dX5_nextOf_0 rfl (lv_at hl 0 rfl) ?_
  obtain ⟨h1, hv, hM⟩ := e_bs hM
  obtain ⟨fs_, hk, -⟩ := e_bs hv
  refine e_callV (ci := 5) (As := []) (rest := []) (n := 0) E J hk rfl (mX5_skipBlanks (l := l) (G := G) l0 h _ hv) q_3_160 q_3_162 q_p_6 q_1_6 q_3_163 (by decide +kernel) rfl ⟨Nat.le_of_ble_eq_true rfl, Nat.le_of_ble_eq_true rfl⟩ (st0 := [.ref (e_ad G l0)]) (st1 := []) rfl rfl hl.1 (Nat.le_of_ble_eq_true rfl) dX5_nextOf_1 ⟨Nat.le_refl _, Nat.le_refl _⟩ (fun H locs J => ?_)
  refine lv_aload_n hx hb dX5_nextOf_4 rfl (lv_at hl 0 rfl) ?_
  refine lv_aload_n hx hb dX5_nextOf_5 rfl (lv_at hl 0 rfl) ?_
  obtain ⟨v2, hv, hM⟩ := e_bs hM
  refine e_getI (C := RX5) (T := TX5) (N := 7) E J hv rfl inX5 (by decide) q_1_133 dX5_nextOf_6 ?_
  obtain ⟨v3, hv, hM⟩ := e_bs hM
  obtain ⟨fs_, hk, -⟩ := e_bs hv
  refine e_callV (ci := 5) (As := [.int v2]) (rest := []) (n := 1) E J hk rfl (mX5_byteAt (l := l) (G := G) l0 v2 h1 _ hv) q_3_164 q_3_166 q_p_7 q_1_6 q_3_167 (by decide +kernel) rfl ⟨Nat.le_of_ble_eq_true rfl, Nat.le_of_ble_eq_true rfl⟩ (st0 := [.int v2, .ref (e_ad G l0)]) (st1 := [.int v3]) rfl rfl hl.1 (Nat.le_of_ble_eq_true rfl) dX5_nextOf_9 ⟨Nat.le_refl _, Nat.le_refl _⟩ (fun H locs J => ?_)
  refine lv_istore_n (lv' := [(2, .int v3), (0, .ref (e_ad G l0)), (1, .ref (G.2.2.2.2.1 l1))]) hx hb dX5_nextOf_12 rfl hl (by decide) rfl (fun ls hl => ?_)
  refine lv_iload_n hx hb dX5_nextOf_13 rfl (lv_at hl 0 rfl) ?_
  refine lv_if_lt (tgt := 30) hx hb dX5_nextOf_14 (by decide) (fun hc => ?_) (fun hc => ?_)
  · have hM := e_ip hc hM
    refine lv_iconst (v := -1) hx hb dX5_nextOf_30 (by decide) ?_
    obtain rfl := e_so hM
    exact e_iret E J dX5_nextOf_31
  · have hM := e_in hc hM
    refine lv_aload_n hx hb dX5_nextOf_17 rfl (lv_at hl 2 rfl) ?_
    refine lv_iload_n hx hb dX5_nextOf_18 rfl (lv_at hl 0 rfl) ?_
    refine lv_i2c hx hb dX5_nextOf_19 rfl ?_
    obtain ⟨v4, hv, hM⟩ := e_bs hM
    have h13 := (e_if1 hv).1
    refine e_callVS (As := [.int ((v3).toUInt32 % 65536).toInt32]) (rest := []) (n := 1) E J h13 (mJ0_indexOf_0f7a4 (l := l) (G := G) l1 ((v3).toUInt32 % 65536).toInt32 h1 _ hv) q_4_0 q_4_1 q_4_2 q_1_14 q_4_3 (by decide +kernel) rfl ⟨Nat.le_of_ble_eq_true rfl, Nat.le_of_ble_eq_true rfl⟩ (st0 := [.int ((v3).toUInt32 % 65536).toInt32, .ref (G.2.2.2.2.1 l1)]) (st1 := [.int v4]) rfl rfl hl.1 (Nat.le_of_ble_eq_true rfl) dX5_nextOf_20 ⟨Nat.le_refl _, Nat.le_refl _⟩ (fun H locs J => ?_)
    refine lv_if_lt (tgt := 30) hx hb dX5_nextOf_23 (by decide) (fun hc => ?_) (fun hc => ?_)
    · have hM := e_ip hc hM
      refine lv_iconst (v := -1) hx hb dX5_nextOf_30 (by decide) ?_
      obtain rfl := e_so hM
      exact e_iret E J dX5_nextOf_31
    · have hM := e_in hc hM
      refine lv_iload_n hx hb dX5_nextOf_26 rfl (lv_at hl 0 rfl) ?_
      refine lv_goto (tgt := 31) hx hb dX5_nextOf_27 (by decide) ?_
      obtain rfl := e_so hM
      exact e_iret E J dX5_nextOf_31
set_option maxRecDepth 100000 in
set_option maxHeartbeats 4000000 in
theorem mX5_write {l : Launch} {G : e_G} (l0 : Nat) (l1 : Int32) (h : e_H) (res : e_H) (hM : fX5_write l0 l1 h = some res) : Met l yX5_write (e_W yX5_write cX5_write 2 none) (e_rm 0 0) (e_Pc G h [.ref (e_ad G l0), .int l1]) (e_Q G res (none)) 0 0 (e_A G) := by
  refine Met.ofW (cc := cX5_write) (maxL := 2) (ret := none) (by decide) rfl ?_
  intro p e s m args below meth c s₁ B hml hv
  obtain ⟨rfl, hS, hP⟩ := hv
  have E := e_enter (own := RX5) (ret := none) B hml rfl hS hP
  have J : e_J G s h s.heap [] := ⟨hP, va_S.rf⟩
  have hl := lv_entry ([.ref (e_ad G l0), .int l1]) (n := 2) (Nat.le_of_ble_eq_true rfl)
  rw [lg_entry_eq]
  generalize (lg_sl ([.ref (e_ad G l0), .int l1]) ++ List.replicate (2 - (lg_sl ([.ref (e_ad G l0), .int l1])).length) Slot.unset).toArray = ls at hl ⊢
  have hl : lv_has ls 2 [(0, .ref (e_ad G l0)), (1, .int l1)] := hl
  obtain ⟨hx, hb, hr, hml, hown, hts, hlocks, hES, hbs⟩ := id E
  unfold fX5_write at hM
  obtain ⟨fs_, hk_, hM⟩ := e_bs hM
  refine lv_aload_n hx hb dX5_write_0 rfl (lv_at hl 0 rfl) ?_
  obtain ⟨v1, hv, hM⟩ := e_bs hM
  refine e_getI (C := RX5) (T := TX5) (N := 7) E J hv rfl inX5 (by decide) q_1_132 dX5_write_1 ?_
  refine lv_if_lt (tgt := 39) hx hb dX5_write_4 (by decide) (fun hc => ?_) (fun hc => ?_)
  · have hM := e_ip hc hM
    obtain rfl := e_so hM
    exact e_vret E J dX5_write_39
  · have hM := e_in hc hM
    refine lv_aload_n hx hb dX5_write_7 rfl (lv_at hl 0 rfl) ?_
    obtain ⟨v2, hv, hM⟩ := e_bs hM
    refine e_getI (C := RX5) (T := TX5) (N := 7) E J hv rfl inX5 (by decide) q_1_132 dX5_write_8 ?_
    refine lv_aload_n hx hb dX5_write_11 rfl (lv_at hl 0 rfl) ?_
    obtain ⟨v3, hv, hM⟩ := e_bs hM
    refine e_getR (C := RX5) (T := TX5) (N := 7) E J hv rfl inX5 (by decide) q_1_131 dX5_write_12 ?_
    rcases v3 with _ | a4
    · have hM := e_on0 hM
      refine W.eq (g2 := F0 m 15 ls [.null, .int v2]) rfl ?_
      exact e_no hM
    · have hM := e_on1 hM
      refine W.eq (g2 := F0 m 15 ls [.ref (e_ad G a4), .int v2]) rfl ?_
      obtain ⟨v5, hv, hM⟩ := e_bs hM
      refine e_alen E J hv rfl rfl dX5_write_15 ?_
      refine lv_icmp_ge (tgt := 39) hx hb dX5_write_16 (by decide) (fun hc => ?_) (fun hc => ?_)
      · have hM := e_ip hc hM
        obtain rfl := e_so hM
        exact e_vret E J dX5_write_39
      · have hM := e_in hc hM
        refine lv_aload_n hx hb dX5_write_19 rfl (lv_at hl 0 rfl) ?_
        obtain ⟨v6, hv, hM⟩ := e_bs hM
        refine e_getR (C := RX5) (T := TX5) (N := 7) E J hv rfl inX5 (by decide) q_1_131 dX5_write_20 ?_
        rcases v6 with _ | a7
        · have hM := e_on0 hM
          refine W.eq (g2 := F0 m 23 ls [.null]) rfl ?_
          refine lv_aload_n hx hb dX5_write_23 rfl (lv_at hl 0 rfl) ?_
          obtain ⟨v8, hv, hM⟩ := e_bs hM
          refine e_getI (C := RX5) (T := TX5) (N := 7) E J hv rfl inX5 (by decide) q_1_132 dX5_write_24 ?_
          refine lv_iload_n hx hb dX5_write_27 rfl (lv_at hl 1 rfl) ?_
          exact e_no hM
        · have hM := e_on1 hM
          refine W.eq (g2 := F0 m 23 ls [.ref (e_ad G a7)]) rfl ?_
          refine lv_aload_n hx hb dX5_write_23 rfl (lv_at hl 0 rfl) ?_
          obtain ⟨v10, hv, hM⟩ := e_bs hM
          refine e_getI (C := RX5) (T := TX5) (N := 7) E J hv rfl inX5 (by decide) q_1_132 dX5_write_24 ?_
          refine lv_iload_n hx hb dX5_write_27 rfl (lv_at hl 1 rfl) ?_
          obtain ⟨h11, hv, hM⟩ := e_bs hM
          refine e_iast E J hv dX5_write_28 (fun H locs J => ?_)
          refine lv_aload_n hx hb dX5_write_29 rfl (lv_at hl 0 rfl) ?_
          refine lv_dup hx hb dX5_write_30 rfl ?_
          obtain ⟨v12, hv, hM⟩ := e_bs hM
          refine e_getI (C := RX5) (T := TX5) (N := 7) E J hv rfl inX5 (by decide) q_1_132 dX5_write_31 ?_
          refine lv_iconst (v := nI 1) hx hb dX5_write_34 (by decide) ?_
          refine lv_iadd hx hb dX5_write_35 ?_
          obtain ⟨h13, hv, hM⟩ := e_bs hM
          refine e_putv (C := RX5) (T := TX5) (N := 7) E J hv rfl rfl inX5 tyX5 tyX5_ok nmX5 (by decide) q_1_132 rfl rfl rfl rfl dX5_write_36 (fun H locs J => ?_)
          obtain rfl := e_so hM
          exact e_vret E J dX5_write_39
set_option maxRecDepth 100000 in
set_option maxHeartbeats 4000000 in
theorem mX5_readNumber_b50 {p : Program} {l : Launch} {e : Env} {s : State} {m : MethodId} {args : Array Value} {below : List Frame} {meth : Method} {c : Code} {G : e_G} {res : (Bool × e_H)} (E : e_M G p s args m meth c cX5_readNumber 3 (some FieldType.boolean) RX5) (l0 : Nat) (l1 : Int32) (l2 : Int32) (h : e_H) (hM : fX5_readNumber_b50 l0 l1 l2 h = some res) {H : Heap} {locs : List Loc} (J : e_J G s h H locs) {ls : Array Slot} (hl : lv_has ls 3 [(0, .ref (e_ad G l0)), (1, .int l1), (2, .int l2)]) : W p l e (e_rm 1 21) s m args below meth c H locs 0 0 (MQ below (e_Q G res.2 (some (.int (e_b res.1)))) args s 0 0 (e_A G)) (F0 m 50 ls []) := by
  obtain ⟨hx, hb, hr, hml, hown, hts, hlocks, hES, hbs⟩ := id E
  unfold fX5_readNumber_b50 at hM
  refine lv_iload_n hx hb dX5_readNumber_50 rfl (lv_at hl 2 rfl) ?_
  refine lv_iconst (v := nI 4) hx hb dX5_readNumber_51 (by decide) ?_
  refine lv_icmp_le (tgt := 57) hx hb dX5_readNumber_52 (by decide) (fun hc => ?_) (fun hc => ?_)
  · have hM := e_ip hc hM
    refine lv_aload_n hx hb dX5_readNumber_57 rfl (lv_at hl 0 rfl) ?_
    refine lv_dup hx hb dX5_readNumber_58 rfl ?_
    obtain ⟨v1, hv, hM⟩ := e_bs hM
    refine e_getI (C := RX5) (T := TX5) (N := 7) E J hv rfl inX5 (by decide) q_1_133 dX5_readNumber_59 ?_
    refine lv_iload_n hx hb dX5_readNumber_62 rfl (lv_at hl 2 rfl) ?_
    refine lv_iadd hx hb dX5_readNumber_63 ?_
    obtain ⟨h2, hv, hM⟩ := e_bs hM
    refine e_putv (C := RX5) (T := TX5) (N := 7) E J hv rfl rfl inX5 tyX5 tyX5_ok nmX5 (by decide) q_1_133 rfl rfl rfl rfl dX5_readNumber_64 (fun H locs J => ?_)
    refine lv_aload_n hx hb dX5_readNumber_67 rfl (lv_at hl 0 rfl) ?_
    refine lv_dup hx hb dX5_readNumber_68 rfl ?_
    obtain ⟨v3, hv, hM⟩ := e_bs hM
    refine e_getI (C := RX5) (T := TX5) (N := 7) E J hv rfl inX5 (by decide) q_1_135 dX5_readNumber_69 ?_
    refine lv_iconst (v := nI 1) hx hb dX5_readNumber_72 (by decide) ?_
    refine lv_iadd hx hb dX5_readNumber_73 ?_
    obtain ⟨h4, hv, hM⟩ := e_bs hM
    refine e_putv (C := RX5) (T := TX5) (N := 7) E J hv rfl rfl inX5 tyX5 tyX5_ok nmX5 (by decide) q_1_135 rfl rfl rfl rfl dX5_readNumber_74 (fun H locs J => ?_)
    refine lv_aload_n hx hb dX5_readNumber_77 rfl (lv_at hl 0 rfl) ?_
    refine lv_iload_n hx hb dX5_readNumber_78 rfl (lv_at hl 1 rfl) ?_
    obtain ⟨h5, hv, hM⟩ := e_bs hM
    obtain ⟨fs_, hk, -⟩ := e_bs hv
    refine e_callV (ci := 5) (As := [.int l1]) (rest := []) (n := 1) E J hk rfl (mX5_write (l := l) (G := G) l0 l1 h4 _ hv) q_4_62 q_4_64 q_p_11 q_1_6 q_4_65 (by decide +kernel) rfl ⟨Nat.le_of_ble_eq_true rfl, Nat.le_of_ble_eq_true rfl⟩ (st0 := [.int l1, .ref (e_ad G l0)]) (st1 := []) rfl rfl hl.1 (Nat.le_of_ble_eq_true rfl) dX5_readNumber_79 ⟨Nat.le_refl _, Nat.le_refl _⟩ (fun H locs J => ?_)
    refine lv_iconst (v := nI 1) hx hb dX5_readNumber_82 (by decide) ?_
    obtain rfl := e_so hM
    exact e_zret E J (true) rfl dX5_readNumber_83
  · have hM := e_in hc hM
    refine lv_iconst (v := nI 0) hx hb dX5_readNumber_55 (by decide) ?_
    obtain rfl := e_so hM
    exact e_zret E J (false) rfl dX5_readNumber_56
set_option maxRecDepth 100000 in
set_option maxHeartbeats 4000000 in
theorem mX5_readNumber_b4 {p : Program} {l : Launch} {e : Env} {s : State} {m : MethodId} {args : Array Value} {below : List Frame} {meth : Method} {c : Code} {G : e_G} {res : (Bool × e_H)} {k4 : Nat → Int32 → Int32 → e_H → Option (Bool × e_H)} (E : e_M G p s args m meth c cX5_readNumber 3 (some FieldType.boolean) RX5) (K4 : ∀ (l0 : Nat) (l1 : Int32) (l2 : Int32) (h : e_H), k4 l0 l1 l2 h = some res → ∀ (H : Heap) (locs : List Loc), e_J G s h H locs → ∀ (ls : Array Slot), lv_has ls 3 [(0, .ref (e_ad G l0)), (1, .int l1), (2, .int l2)] → W p l e (e_rm 1 21) s m args below meth c H locs 0 0 (MQ below (e_Q G res.2 (some (.int (e_b res.1)))) args s 0 0 (e_A G)) (F0 m 4 ls [])) (l0 : Nat) (l1 : Int32) (l2 : Int32) (h : e_H) (hM : fX5_readNumber_b4 k4 l0 l1 l2 h = some res) {H : Heap} {locs : List Loc} (J : e_J G s h H locs) {ls : Array Slot} (hl : lv_has ls 3 [(0, .ref (e_ad G l0)), (1, .int l1), (2, .int l2)]) : W p l e (e_rm 1 21) s m args below meth c H locs 0 0 (MQ below (e_Q G res.2 (some (.int (e_b res.1)))) args s 0 0 (e_A G)) (F0 m 4 ls []) := by
  obtain ⟨hx, hb, hr, hml, hown, hts, hlocks, hES, hbs⟩ := id E
  unfold fX5_readNumber_b4 at hM
  refine lv_iload_n hx hb dX5_readNumber_4 rfl (lv_at hl 2 rfl) ?_
  refine lv_iconst (v := nI 4) hx hb dX5_readNumber_5 (by decide) ?_
  refine lv_icmp_gt (tgt := 50) hx hb dX5_readNumber_6 (by decide) (fun hc => ?_) (fun hc => ?_)
  · have hM := e_ip hc hM
    exact mX5_readNumber_b50 E l0 l1 l2 h hM J (lv_sub hl [0, 1, 2] rfl)
  · have hM := e_in hc hM
    refine lv_aload_n hx hb dX5_readNumber_9 rfl (lv_at hl 0 rfl) ?_
    refine lv_aload_n hx hb dX5_readNumber_10 rfl (lv_at hl 0 rfl) ?_
    obtain ⟨v1, hv, hM⟩ := e_bs hM
    refine e_getI (C := RX5) (T := TX5) (N := 7) E J hv rfl inX5 (by decide) q_1_133 dX5_readNumber_11 ?_
    refine lv_iload_n hx hb dX5_readNumber_14 rfl (lv_at hl 2 rfl) ?_
    refine lv_iadd hx hb dX5_readNumber_15 ?_
    obtain ⟨v2, hv, hM⟩ := e_bs hM
    obtain ⟨fs_, hk, -⟩ := e_bs hv
    refine e_callV (ci := 5) (As := [.int (v1 + l2)]) (rest := []) (n := 1) E J hk rfl (mX5_byteAt (l := l) (G := G) l0 (v1 + l2) h _ hv) q_3_164 q_3_166 q_p_7 q_1_6 q_3_167 (by decide +kernel) rfl ⟨Nat.le_of_ble_eq_true rfl, Nat.le_of_ble_eq_true rfl⟩ (st0 := [.int (v1 + l2), .ref (e_ad G l0)]) (st1 := [.int v2]) rfl rfl hl.1 (Nat.le_of_ble_eq_true rfl) dX5_readNumber_16 ⟨Nat.le_refl _, Nat.le_refl _⟩ (fun H locs J => ?_)
    obtain ⟨v3, hv, hM⟩ := e_bs hM
    refine e_callS (As := [.int v2]) (rest := []) (n := 1) E J (mX5_isDigit (l := l) (G := G) v2 h _ hv) q_3_226 q_3_227 q_1_6 q_3_228 (by decide +kernel) rfl ⟨Nat.le_of_ble_eq_true rfl, Nat.le_of_ble_eq_true rfl⟩ (st0 := [.int v2]) (st1 := [.int (e_b v3)]) rfl rfl hl.1 (Nat.le_of_ble_eq_true rfl) dX5_readNumber_19 ⟨Nat.le_refl _, Nat.le_refl _⟩ (fun H locs J => ?_)
    refine lv_if_eq (tgt := 50) hx hb dX5_readNumber_22 (by decide) (fun hc => ?_) (fun hc => ?_)
    · have hM := e_ip hc hM
      exact mX5_readNumber_b50 E l0 l1 l2 h hM J (lv_sub hl [0, 1, 2] rfl)
    · have hM := e_in hc hM
      refine lv_iload_n hx hb dX5_readNumber_25 rfl (lv_at hl 1 rfl) ?_
      refine lv_bipush (v := nI 10) hx hb dX5_readNumber_26 (by decide) ?_
      refine lv_imul hx hb dX5_readNumber_28 ?_
      refine lv_aload_n hx hb dX5_readNumber_29 rfl (lv_at hl 0 rfl) ?_
      refine lv_aload_n hx hb dX5_readNumber_30 rfl (lv_at hl 0 rfl) ?_
      obtain ⟨v4, hv, hM⟩ := e_bs hM
      refine e_getI (C := RX5) (T := TX5) (N := 7) E J hv rfl inX5 (by decide) q_1_133 dX5_readNumber_31 ?_
      refine lv_iload_n hx hb dX5_readNumber_34 rfl (lv_at hl 2 rfl) ?_
      refine lv_iadd hx hb dX5_readNumber_35 ?_
      obtain ⟨v5, hv, hM⟩ := e_bs hM
      obtain ⟨fs_, hk, -⟩ := e_bs hv
      refine e_callV (ci := 5) (As := [.int (v4 + l2)]) (rest := [.int (l1 * (nI 10))]) (n := 1) E J hk rfl (mX5_byteAt (l := l) (G := G) l0 (v4 + l2) h _ hv) q_3_164 q_3_166 q_p_7 q_1_6 q_3_167 (by decide +kernel) rfl ⟨Nat.le_of_ble_eq_true rfl, Nat.le_of_ble_eq_true rfl⟩ (st0 := [.int (v4 + l2), .ref (e_ad G l0), .int (l1 * (nI 10))]) (st1 := [.int v5, .int (l1 * (nI 10))]) rfl rfl hl.1 (Nat.le_of_ble_eq_true rfl) dX5_readNumber_36 ⟨Nat.le_refl _, Nat.le_refl _⟩ (fun H locs J => ?_)
      refine lv_iadd hx hb dX5_readNumber_39 ?_
      refine lv_bipush (v := nI 48) hx hb dX5_readNumber_40 (by decide) ?_
      refine lv_isub hx hb dX5_readNumber_42 ?_
      refine lv_istore_n (lv' := [(1, .int (((l1 * (nI 10)) + v5) - (nI 48))), (0, .ref (e_ad G l0)), (2, .int l2)]) hx hb dX5_readNumber_43 rfl hl (by decide) rfl (fun ls hl => ?_)
      refine lv_iinc (v := (l2 + (nI 1))) (lv' := [(2, .int (l2 + (nI 1))), (1, .int (((l1 * (nI 10)) + v5) - (nI 48))), (0, .ref (e_ad G l0))]) hx hb dX5_readNumber_44 hl (k := 2) rfl rfl (by decide) rfl (fun ls hl => ?_)
      refine lv_goto (tgt := 4) hx hb dX5_readNumber_47 (by decide) ?_
      exact K4 l0 (((l1 * (nI 10)) + v5) - (nI 48)) (l2 + (nI 1)) h hM _ _ J _ (lv_sub hl [2, 1, 0] rfl)
set_option maxRecDepth 100000 in
set_option maxHeartbeats 4000000 in
theorem mX5_readNumber_L4 {p : Program} {l : Launch} {e : Env} {s : State} {m : MethodId} {args : Array Value} {below : List Frame} {meth : Method} {c : Code} {G : e_G} {res : (Bool × e_H)} (E : e_M G p s args m meth c cX5_readNumber 3 (some FieldType.boolean) RX5) (n : Nat) (l0 : Nat) (l1 : Int32) (l2 : Int32) (h : e_H) (hM : fX5_readNumber_L4 n l0 l1 l2 h = some res) {H : Heap} {locs : List Loc} (J : e_J G s h H locs) {ls : Array Slot} (hl : lv_has ls 3 [(0, .ref (e_ad G l0)), (1, .int l1), (2, .int l2)]) : W p l e (e_rm 1 21) s m args below meth c H locs 0 0 (MQ below (e_Q G res.2 (some (.int (e_b res.1)))) args s 0 0 (e_A G)) (F0 m 4 ls []) := by
  induction n generalizing l0 l1 l2 h H locs ls with
  | zero => exact e_no hM
  | succ n ih => exact mX5_readNumber_b4 (k4 := (fX5_readNumber_L4 n)) E   (fun l0 l1 l2 h hM H locs J ls hl => ih l0 l1 l2 h hM J hl) l0 l1 l2 h hM J hl
set_option maxRecDepth 100000 in
set_option maxHeartbeats 4000000 in
theorem mX5_readNumber {l : Launch} {G : e_G} (l0 : Nat) (h : e_H) (res : (Bool × e_H)) (hM : fX5_readNumber l0 h = some res) : Met l yX5_readNumber (e_W yX5_readNumber cX5_readNumber 3 (some FieldType.boolean)) (e_rm 1 21) (e_Pc G h [.ref (e_ad G l0)]) (e_Q G res.2 (some (.int (e_b res.1)))) 0 0 (e_A G) := by
  refine Met.ofW (cc := cX5_readNumber) (maxL := 3) (ret := (some FieldType.boolean)) (by decide) rfl ?_
  intro p e s m args below meth c s₁ B hml hv
  obtain ⟨rfl, hS, hP⟩ := hv
  have E := e_enter (own := RX5) (ret := (some FieldType.boolean)) B hml rfl hS hP
  have J : e_J G s h s.heap [] := ⟨hP, va_S.rf⟩
  have hl := lv_entry ([.ref (e_ad G l0)]) (n := 3) (Nat.le_of_ble_eq_true rfl)
  rw [lg_entry_eq]
  generalize (lg_sl ([.ref (e_ad G l0)]) ++ List.replicate (3 - (lg_sl ([.ref (e_ad G l0)])).length) Slot.unset).toArray = ls at hl ⊢
  have hl : lv_has ls 3 [(0, .ref (e_ad G l0))] := hl
  obtain ⟨hx, hb, hr, hml, hown, hts, hlocks, hES, hbs⟩ := id E
  unfold fX5_readNumber at hM
  obtain ⟨fs_, hk_, hM⟩ := e_bs hM
  refine lv_iconst (v := nI 0) hx hb dX5_readNumber_0 (by decide) ?_
  refine lv_istore_n (lv' := [(1, .int (nI 0)), (0, .ref (e_ad G l0))]) hx hb dX5_readNumber_1 rfl hl (by decide) rfl (fun ls hl => ?_)
  refine lv_iconst (v := nI 0) hx hb dX5_readNumber_2 (by decide) ?_
  refine lv_istore_n (lv' := [(2, .int (nI 0)), (1, .int (nI 0)), (0, .ref (e_ad G l0))]) hx hb dX5_readNumber_3 rfl hl (by decide) rfl (fun ls hl => ?_)
  exact mX5_readNumber_L4 E 200 l0 (nI 0) (nI 0) h hM J (lv_sub hl [2, 1, 0] rfl)
set_option maxRecDepth 100000 in
set_option maxHeartbeats 4000000 in
theorem mX5_readName_b27 {p : Program} {l : Launch} {e : Env} {s : State} {m : MethodId} {args : Array Value} {below : List Frame} {meth : Method} {c : Code} {G : e_G} {res : (Bool × e_H)} (E : e_M G p s args m meth c cX5_readName 3 (some FieldType.boolean) RX5) (l0 : Nat) (t0 : Nat) (h : e_H) (hM : fX5_readName_b27 l0 t0 h = some res) {H : Heap} {locs : List Loc} (J : e_J G s h H locs) {ls : Array Slot} (hl : lv_has ls 3 [(0, .ref (e_ad G l0))]) : W p l e (e_rm 4 106) s m args below meth c H locs 0 0 (MQ below (e_Q G res.2 (some (.int (e_b res.1)))) args s 0 0 (e_A G)) (F0 m 27 ls [.ref (G.2.2.2.2.1 t0)]) := by
  obtain ⟨hx, hb, hr, hml, hown, hts, hlocks, hES, hbs⟩ := id E
  unfold fX5_readName_b27 at hM
  refine lv_astore_n (lv' := [(1, .ref (G.2.2.2.2.1 t0)), (0, .ref (e_ad G l0))]) hx hb dX5_readName_27 rfl hl (by decide) rfl (fun ls hl => ?_)
  refine lv_aload_n hx hb dX5_readName_28 rfl (lv_at hl 0 rfl) ?_
  refine lv_aload_n hx hb dX5_readName_29 rfl (lv_at hl 1 rfl) ?_
  refine lv_aload_n hx hb dX5_readName_30 rfl (lv_at hl 1 rfl) ?_
  obtain ⟨v1, hv, hM⟩ := e_bs hM
  refine e_getI (C := RX5) (T := TX5) (N := 7) E J hv rfl inX5 (by decide) q_1_133 dX5_readName_31 ?_
  obtain ⟨v2, hv, hM⟩ := e_bs hM
  obtain ⟨fs_, hk, -⟩ := e_bs hv
  refine e_callV (ci := 5) (As := [.int v1]) (rest := [.ref (G.2.2.2.2.1 t0)]) (n := 1) E J hk rfl (mX5_byteAt (l := l) (G := G) l0 v1 h _ hv) q_3_164 q_3_166 q_p_7 q_1_6 q_3_167 (by decide +kernel) rfl ⟨Nat.le_of_ble_eq_true rfl, Nat.le_of_ble_eq_true rfl⟩ (st0 := [.int v1, .ref (e_ad G l0), .ref (G.2.2.2.2.1 t0)]) (st1 := [.int v2, .ref (G.2.2.2.2.1 t0)]) rfl rfl hl.1 (Nat.le_of_ble_eq_true rfl) dX5_readName_34 ⟨Nat.le_refl _, Nat.le_refl _⟩ (fun H locs J => ?_)
  refine lv_i2c hx hb dX5_readName_37 rfl ?_
  obtain ⟨v3, hv, hM⟩ := e_bs hM
  have h13 := (e_if1 hv).1
  refine e_callVS (As := [.int ((v2).toUInt32 % 65536).toInt32]) (rest := []) (n := 1) E J h13 (mJ0_indexOf_0f7a4 (l := l) (G := G) t0 ((v2).toUInt32 % 65536).toInt32 h _ hv) q_4_0 q_4_1 q_4_2 q_1_14 q_4_3 (by decide +kernel) rfl ⟨Nat.le_of_ble_eq_true rfl, Nat.le_of_ble_eq_true rfl⟩ (st0 := [.int ((v2).toUInt32 % 65536).toInt32, .ref (G.2.2.2.2.1 t0)]) (st1 := [.int v3]) rfl rfl hl.1 (Nat.le_of_ble_eq_true rfl) dX5_readName_38 ⟨Nat.le_refl _, Nat.le_refl _⟩ (fun H locs J => ?_)
  refine lv_istore_n (lv' := [(2, .int v3), (1, .ref (G.2.2.2.2.1 t0)), (0, .ref (e_ad G l0))]) hx hb dX5_readName_41 rfl hl (by decide) rfl (fun ls hl => ?_)
  refine lv_iload_n hx hb dX5_readName_42 rfl (lv_at hl 0 rfl) ?_
  refine lv_if_lt (tgt := 62) hx hb dX5_readName_43 (by decide) (fun hc => ?_) (fun hc => ?_)
  · have hM := e_ip hc hM
    refine lv_iconst (v := nI 0) hx hb dX5_readName_62 (by decide) ?_
    obtain rfl := e_so hM
    exact e_zret E J (false) rfl dX5_readName_63
  · have hM := e_in hc hM
    refine lv_aload_n hx hb dX5_readName_46 rfl (lv_at hl 2 rfl) ?_
    refine lv_aload_n hx hb dX5_readName_47 rfl (lv_at hl 2 rfl) ?_
    obtain ⟨v4, hv, hM⟩ := e_bs hM
    refine e_getI (C := RX5) (T := TX5) (N := 7) E J hv rfl inX5 (by decide) q_1_133 dX5_readName_48 ?_
    refine lv_iconst (v := nI 1) hx hb dX5_readName_51 (by decide) ?_
    refine lv_iadd hx hb dX5_readName_52 ?_
    obtain ⟨v5, hv, hM⟩ := e_bs hM
    obtain ⟨fs_, hk, -⟩ := e_bs hv
    refine e_callV (ci := 5) (As := [.int (v4 + (nI 1))]) (rest := []) (n := 1) E J hk rfl (mX5_byteAt (l := l) (G := G) l0 (v4 + (nI 1)) h _ hv) q_3_164 q_3_166 q_p_7 q_1_6 q_3_167 (by decide +kernel) rfl ⟨Nat.le_of_ble_eq_true rfl, Nat.le_of_ble_eq_true rfl⟩ (st0 := [.int (v4 + (nI 1)), .ref (e_ad G l0)]) (st1 := [.int v5]) rfl rfl hl.1 (Nat.le_of_ble_eq_true rfl) dX5_readName_53 ⟨Nat.le_refl _, Nat.le_refl _⟩ (fun H locs J => ?_)
    obtain ⟨v6, hv, hM⟩ := e_bs hM
    refine e_callS (As := [.int v5]) (rest := []) (n := 1) E J (mX5_isLetter (l := l) (G := G) v5 h _ hv) q_3_223 q_3_224 q_1_6 q_3_225 (by decide +kernel) rfl ⟨Nat.le_of_ble_eq_true rfl, Nat.le_of_ble_eq_true rfl⟩ (st0 := [.int v5]) (st1 := [.int (e_b v6)]) rfl rfl hl.1 (Nat.le_of_ble_eq_true rfl) dX5_readName_56 ⟨Nat.le_refl _, Nat.le_refl _⟩ (fun H locs J => ?_)
    refine lv_if_eq (tgt := 64) hx hb dX5_readName_59 (by decide) (fun hc => ?_) (fun hc => ?_)
    · have hM := e_ip hc hM
      refine lv_aload_n hx hb dX5_readName_64 rfl (lv_at hl 2 rfl) ?_
      refine lv_dup hx hb dX5_readName_65 rfl ?_
      obtain ⟨v7, hv, hM⟩ := e_bs hM
      refine e_getI (C := RX5) (T := TX5) (N := 7) E J hv rfl inX5 (by decide) q_1_133 dX5_readName_66 ?_
      refine lv_iconst (v := nI 1) hx hb dX5_readName_69 (by decide) ?_
      refine lv_iadd hx hb dX5_readName_70 ?_
      obtain ⟨h8, hv, hM⟩ := e_bs hM
      refine e_putv (C := RX5) (T := TX5) (N := 7) E J hv rfl rfl inX5 tyX5 tyX5_ok nmX5 (by decide) q_1_133 rfl rfl rfl rfl dX5_readName_71 (fun H locs J => ?_)
      refine lv_aload_n hx hb dX5_readName_74 rfl (lv_at hl 2 rfl) ?_
      refine lv_dup hx hb dX5_readName_75 rfl ?_
      obtain ⟨v9, hv, hM⟩ := e_bs hM
      refine e_getI (C := RX5) (T := TX5) (N := 7) E J hv rfl inX5 (by decide) q_1_135 dX5_readName_76 ?_
      refine lv_iconst (v := nI 1) hx hb dX5_readName_79 (by decide) ?_
      refine lv_iadd hx hb dX5_readName_80 ?_
      obtain ⟨h10, hv, hM⟩ := e_bs hM
      refine e_putv (C := RX5) (T := TX5) (N := 7) E J hv rfl rfl inX5 tyX5 tyX5_ok nmX5 (by decide) q_1_135 rfl rfl rfl rfl dX5_readName_81 (fun H locs J => ?_)
      refine lv_aload_n hx hb dX5_readName_84 rfl (lv_at hl 2 rfl) ?_
      refine lv_iconst (v := -1) hx hb dX5_readName_85 (by decide) ?_
      refine lv_iload_n hx hb dX5_readName_86 rfl (lv_at hl 0 rfl) ?_
      refine lv_isub hx hb dX5_readName_87 ?_
      obtain ⟨h11, hv, hM⟩ := e_bs hM
      obtain ⟨fs_, hk, -⟩ := e_bs hv
      refine e_callV (ci := 5) (As := [.int ((-1 : Int32) - v3)]) (rest := []) (n := 1) E J hk rfl (mX5_write (l := l) (G := G) l0 ((-1 : Int32) - v3) h10 _ hv) q_4_62 q_4_64 q_p_11 q_1_6 q_4_65 (by decide +kernel) rfl ⟨Nat.le_of_ble_eq_true rfl, Nat.le_of_ble_eq_true rfl⟩ (st0 := [.int ((-1 : Int32) - v3), .ref (e_ad G l0)]) (st1 := []) rfl rfl hl.1 (Nat.le_of_ble_eq_true rfl) dX5_readName_88 ⟨Nat.le_refl _, Nat.le_refl _⟩ (fun H locs J => ?_)
      refine lv_iconst (v := nI 1) hx hb dX5_readName_91 (by decide) ?_
      obtain rfl := e_so hM
      exact e_zret E J (true) rfl dX5_readName_92
    · have hM := e_in hc hM
      refine lv_iconst (v := nI 0) hx hb dX5_readName_62 (by decide) ?_
      obtain rfl := e_so hM
      exact e_zret E J (false) rfl dX5_readName_63
set_option maxRecDepth 100000 in
set_option maxHeartbeats 4000000 in
theorem mX5_readName {l : Launch} {G : e_G} (l0 : Nat) (h : e_H) (res : (Bool × e_H)) (hM : fX5_readName l0 h = some res) : Met l yX5_readName (e_W yX5_readName cX5_readName 3 (some FieldType.boolean)) (e_rm 4 106) (e_Pc G h [.ref (e_ad G l0)]) (e_Q G res.2 (some (.int (e_b res.1)))) 0 0 (e_A G) := by
  refine Met.ofW (cc := cX5_readName) (maxL := 3) (ret := (some FieldType.boolean)) (by decide) rfl ?_
  intro p e s m args below meth c s₁ B hml hv
  obtain ⟨rfl, hS, hP⟩ := hv
  have E := e_enter (own := RX5) (ret := (some FieldType.boolean)) B hml rfl hS hP
  have J : e_J G s h s.heap [] := ⟨hP, va_S.rf⟩
  have hl := lv_entry ([.ref (e_ad G l0)]) (n := 3) (Nat.le_of_ble_eq_true rfl)
  rw [lg_entry_eq]
  generalize (lg_sl ([.ref (e_ad G l0)]) ++ List.replicate (3 - (lg_sl ([.ref (e_ad G l0)])).length) Slot.unset).toArray = ls at hl ⊢
  have hl : lv_has ls 3 [(0, .ref (e_ad G l0))] := hl
  obtain ⟨hx, hb, hr, hml, hown, hts, hlocks, hES, hbs⟩ := id E
  unfold fX5_readName at hM
  obtain ⟨fs_, hk_, hM⟩ := e_bs hM
  refine lv_aload_n hx hb dX5_readName_0 rfl (lv_at hl 0 rfl) ?_
  obtain ⟨v1, hv, hM⟩ := e_bs hM
  refine e_getI (C := RX5) (T := TX5) (N := 7) E J hv rfl inX5 (by decide) q_1_134 dX5_readName_1 ?_
  refine lv_if_ne (tgt := 12) hx hb dX5_readName_4 (by decide) (fun hc => ?_) (fun hc => ?_)
  · have hM := e_in hc hM
    refine lv_aload_n hx hb dX5_readName_12 rfl (lv_at hl 0 rfl) ?_
    obtain ⟨v2, hv, hM⟩ := e_bs hM
    refine e_getI (C := RX5) (T := TX5) (N := 7) E J hv rfl inX5 (by decide) q_1_134 dX5_readName_13 ?_
    refine lv_iconst (v := nI 1) hx hb dX5_readName_16 (by decide) ?_
    refine lv_icmp_ne (tgt := 25) hx hb dX5_readName_17 (by decide) (fun hc => ?_) (fun hc => ?_)
    · have hM := e_in hc hM
      refine va_ldcS hx hb hown (hES.2.2.2.2.2.2.1 6 _ rfl) dX5_readName_25 ?_
      exact mX5_readName_b27 E l0 (6 : Nat) h hM J (lv_sub hl [0] rfl)
    · have hM := e_ip hc hM
      refine va_ldcS hx hb hown (hES.2.2.2.2.2.2.1 5 _ rfl) dX5_readName_20 ?_
      refine lv_goto (tgt := 27) hx hb dX5_readName_22 (by decide) ?_
      exact mX5_readName_b27 E l0 (5 : Nat) h hM J (lv_sub hl [0] rfl)
  · have hM := e_ip hc hM
    refine va_ldcS hx hb hown (hES.2.2.2.2.2.2.1 4 _ rfl) dX5_readName_7 ?_
    refine lv_goto (tgt := 27) hx hb dX5_readName_9 (by decide) ?_
    exact mX5_readName_b27 E l0 (4 : Nat) h hM J (lv_sub hl [0] rfl)
set_option maxRecDepth 100000 in
set_option maxHeartbeats 4000000 in
theorem mX5_signsOf {l : Launch} {G : e_G} (l0 : Int32) (h : e_H) (res : Nat) (hM : fX5_signsOf l0 = some res) : Met l yX5_signsOf (e_W yX5_signsOf cX5_signsOf 1 (some (FieldType.object "java/lang/String"))) (e_rm 0 0) (e_Pc G h [.int l0]) (e_Q G h (some (.ref (G.2.2.2.2.1 res)))) 0 0 (e_A G) := by
  refine Met.ofW (cc := cX5_signsOf) (maxL := 1) (ret := (some (FieldType.object "java/lang/String"))) (by decide) rfl ?_
  intro p e s m args below meth c s₁ B hml hv
  obtain ⟨rfl, hS, hP⟩ := hv
  have E := e_enter (own := RX5) (ret := (some (FieldType.object "java/lang/String"))) B hml rfl hS hP
  have J : e_J G s h s.heap [] := ⟨hP, va_S.rf⟩
  have hl := lv_entry ([.int l0]) (n := 1) (Nat.le_of_ble_eq_true rfl)
  rw [lg_entry_eq]
  generalize (lg_sl ([.int l0]) ++ List.replicate (1 - (lg_sl ([.int l0])).length) Slot.unset).toArray = ls at hl ⊢
  have hl : lv_has ls 1 [(0, .int l0)] := hl
  obtain ⟨hx, hb, hr, hml, hown, hts, hlocks, hES, hbs⟩ := id E
  unfold fX5_signsOf at hM
  refine lv_iload_n hx hb dX5_signsOf_0 rfl (lv_at hl 0 rfl) ?_
  by_cases hc0 : l0 = nI 0
  · have hM := e_ip hc0 hM
    refine e_tin (y := nI 0) (off := 31) (tgt := 32) hx hb dX5_signsOf_1 hc0 (by decide) (by decide) (by decide +kernel) (by decide) ?_
    refine va_ldcS hx hb hown (hES.2.2.2.2.2.2.1 8 _ rfl) dX5_signsOf_32 ?_
    obtain rfl := e_so hM
    exact e_aretS E J (Or.inl ⟨_, rfl⟩) dX5_signsOf_34
  have hM := e_in hc0 hM
  by_cases hc1 : l0 = nI 1
  · have hM := e_ip hc1 hM
    refine e_tin (y := nI 1) (off := 34) (tgt := 35) hx hb dX5_signsOf_1 hc1 (by decide) (by decide) (by decide +kernel) (by decide) ?_
    refine va_ldcS hx hb hown (hES.2.2.2.2.2.2.1 9 _ rfl) dX5_signsOf_35 ?_
    obtain rfl := e_so hM
    exact e_aretS E J (Or.inl ⟨_, rfl⟩) dX5_signsOf_37
  have hM := e_in hc1 hM
  by_cases hc2 : l0 = nI 2
  · have hM := e_ip hc2 hM
    refine e_tin (y := nI 2) (off := 37) (tgt := 38) hx hb dX5_signsOf_1 hc2 (by decide) (by decide) (by decide +kernel) (by decide) ?_
    refine va_ldcS hx hb hown (hES.2.2.2.2.2.2.1 10 _ rfl) dX5_signsOf_38 ?_
    obtain rfl := e_so hM
    exact e_aretS E J (Or.inl ⟨_, rfl⟩) dX5_signsOf_40
  have hM := e_in hc2 hM
  by_cases hc3 : l0 = nI 3
  · have hM := e_ip hc3 hM
    refine e_tin (y := nI 3) (off := 40) (tgt := 41) hx hb dX5_signsOf_1 hc3 (by decide) (by decide) (by decide +kernel) (by decide) ?_
    refine va_ldcS hx hb hown (hES.2.2.2.2.2.2.1 11 _ rfl) dX5_signsOf_41 ?_
    obtain rfl := e_so hM
    exact e_aretS E J (Or.inl ⟨_, rfl⟩) dX5_signsOf_43
  have hM := e_in hc3 hM
  refine lv_tableOut (tgt := 44) hx hb dX5_signsOf_1 (Classical.byContradiction fun hn => by
      have h9 : l0.toInt = 0 ∨ l0.toInt = 1 ∨ l0.toInt = 2 ∨ l0.toInt = 3 := by omega
      rcases h9 with h9 | h9 | h9 | h9
      · exact hc0 (e_i32 (h9.trans (by decide)))
      · exact hc1 (e_i32 (h9.trans (by decide)))
      · exact hc2 (e_i32 (h9.trans (by decide)))
      · exact hc3 (e_i32 (h9.trans (by decide)))) (by decide) ?_
  refine va_ldcS hx hb hown (hES.2.2.2.2.2.2.1 12 _ rfl) dX5_signsOf_44 ?_
  obtain rfl := e_so hM
  exact e_aretS E J (Or.inl ⟨_, rfl⟩) dX5_signsOf_46
set_option maxRecDepth 100000 in
set_option maxHeartbeats 4000000 in
theorem mX5_readInner_r {l : Launch} {G : e_G} {rec : Nat → Int32 → Int32 → Int32 → e_H → Option (Bool × e_H)} {fr nr : Nat} (Hrec : ∀ (a0 : Nat) (a1 : Int32) (a2 : Int32) (a3 : Int32) (h : e_H) (res : (Bool × e_H)), rec a0 a1 a2 a3 h = some res → Met l yX5_readLevel (e_W yX5_readLevel cX5_readLevel 7 (some FieldType.boolean)) (e_rm fr nr) (e_Pc G h [.ref (e_ad G a0), .int a1, .int a2, .int a3]) (e_Q G res.2 (some (.int (e_b res.1)))) 0 0 (e_A G)) (hcf : 5 ≤ fr) (hcn : 128 ≤ nr) (l0 : Nat) (l1 : Int32) (l2 : Int32) (h : e_H) (res : (Bool × e_H)) (hM : fX5_readInner_r rec l0 l1 l2 h = some res) : Met l yX5_readInner (e_W yX5_readInner cX5_readInner 4 (some FieldType.boolean)) (e_rm (fr + 1) (nr + 40)) (e_Pc G h [.ref (e_ad G l0), .int l1, .int l2]) (e_Q G res.2 (some (.int (e_b res.1)))) 0 0 (e_A G) := by
  refine Met.ofW (cc := cX5_readInner) (maxL := 4) (ret := (some FieldType.boolean)) (by decide) rfl ?_
  intro p e s m args below meth c s₁ B hml hv
  obtain ⟨rfl, hS, hP⟩ := hv
  have E := e_enter (own := RX5) (ret := (some FieldType.boolean)) B hml rfl hS hP
  have J : e_J G s h s.heap [] := ⟨hP, va_S.rf⟩
  have hl := lv_entry ([.ref (e_ad G l0), .int l1, .int l2]) (n := 4) (Nat.le_of_ble_eq_true rfl)
  rw [lg_entry_eq]
  generalize (lg_sl ([.ref (e_ad G l0), .int l1, .int l2]) ++ List.replicate (4 - (lg_sl ([.ref (e_ad G l0), .int l1, .int l2])).length) Slot.unset).toArray = ls at hl ⊢
  have hl : lv_has ls 4 [(0, .ref (e_ad G l0)), (1, .int l1), (2, .int l2)] := hl
  obtain ⟨hx, hb, hr, hml, hown, hts, hlocks, hES, hbs⟩ := id E
  unfold fX5_readInner_r at hM
  refine lv_aload_n hx hb dX5_readInner_0 rfl (lv_at hl 0 rfl) ?_
  refine lv_aload_n hx hb dX5_readInner_1 rfl (lv_at hl 0 rfl) ?_
  obtain ⟨v1, hv, hM⟩ := e_bs hM
  refine e_getI (C := RX5) (T := TX5) (N := 7) E J hv rfl inX5 (by decide) q_1_133 dX5_readInner_2 ?_
  obtain ⟨v2, hv, hM⟩ := e_bs hM
  obtain ⟨fs_, hk, -⟩ := e_bs hv
  refine e_callV (ci := 5) (As := [.int v1]) (rest := []) (n := 1) E J hk rfl (mX5_byteAt (l := l) (G := G) l0 v1 h _ hv) q_3_164 q_3_166 q_p_7 q_1_6 q_3_167 (by decide +kernel) rfl ⟨e_rf (by omega), e_rl (by omega)⟩ (st0 := [.int v1, .ref (e_ad G l0)]) (st1 := [.int v2]) rfl rfl hl.1 (Nat.le_of_ble_eq_true rfl) dX5_readInner_5 ⟨Nat.le_refl _, Nat.le_refl _⟩ (fun H locs J => ?_)
  refine lv_istore_n (lv' := [(3, .int v2), (0, .ref (e_ad G l0)), (1, .int l1), (2, .int l2)]) hx hb dX5_readInner_8 rfl hl (by decide) rfl (fun ls hl => ?_)
  refine lv_iload_n hx hb dX5_readInner_9 rfl (lv_at hl 0 rfl) ?_
  obtain ⟨v3, hv, hM⟩ := e_bs hM
  refine e_callS (As := [.int v2]) (rest := []) (n := 1) E J (mX5_isDigit (l := l) (G := G) v2 h _ hv) q_3_226 q_3_227 q_1_6 q_3_228 (by decide +kernel) rfl ⟨e_rf (by omega), e_rl (by omega)⟩ (st0 := [.int v2]) (st1 := [.int (e_b v3)]) rfl rfl hl.1 (Nat.le_of_ble_eq_true rfl) dX5_readInner_10 ⟨Nat.le_refl _, Nat.le_refl _⟩ (fun H locs J => ?_)
  refine lv_if_eq (tgt := 21) hx hb dX5_readInner_13 (by decide) (fun hc => ?_) (fun hc => ?_)
  · have hM := e_ip hc hM
    refine lv_iload_n hx hb dX5_readInner_21 rfl (lv_at hl 0 rfl) ?_
    obtain ⟨v4, hv, hM⟩ := e_bs hM
    refine e_callS (As := [.int v2]) (rest := []) (n := 1) E J (mX5_isLetter (l := l) (G := G) v2 h _ hv) q_3_223 q_3_224 q_1_6 q_3_225 (by decide +kernel) rfl ⟨e_rf (by omega), e_rl (by omega)⟩ (st0 := [.int v2]) (st1 := [.int (e_b v4)]) rfl rfl hl.1 (Nat.le_of_ble_eq_true rfl) dX5_readInner_22 ⟨Nat.le_refl _, Nat.le_refl _⟩ (fun H locs J => ?_)
    refine lv_if_eq (tgt := 33) hx hb dX5_readInner_25 (by decide) (fun hc => ?_) (fun hc => ?_)
    · have hM := e_ip hc hM
      refine lv_iload_n hx hb dX5_readInner_33 rfl (lv_at hl 0 rfl) ?_
      refine lv_bipush (v := nI 40) hx hb dX5_readInner_34 (by decide) ?_
      refine lv_icmp_ne (tgt := 45) hx hb dX5_readInner_36 (by decide) (fun hc => ?_) (fun hc => ?_)
      · have hM := e_in hc hM
        refine lv_iconst (v := nI 0) hx hb dX5_readInner_45 (by decide) ?_
        obtain rfl := e_so hM
        exact e_zret E J (false) rfl dX5_readInner_46
      · have hM := e_ip hc hM
        refine lv_iload_n hx hb dX5_readInner_39 rfl (lv_at hl 2 rfl) ?_
        refine lv_bipush (v := nI 8) hx hb dX5_readInner_40 (by decide) ?_
        refine lv_icmp_lt (tgt := 47) hx hb dX5_readInner_42 (by decide) (fun hc => ?_) (fun hc => ?_)
        · have hM := e_ip hc hM
          refine lv_aload_n hx hb dX5_readInner_47 rfl (lv_at hl 1 rfl) ?_
          refine lv_dup hx hb dX5_readInner_48 rfl ?_
          obtain ⟨v5, hv, hM⟩ := e_bs hM
          refine e_getI (C := RX5) (T := TX5) (N := 7) E J hv rfl inX5 (by decide) q_1_133 dX5_readInner_49 ?_
          refine lv_iconst (v := nI 1) hx hb dX5_readInner_52 (by decide) ?_
          refine lv_iadd hx hb dX5_readInner_53 ?_
          obtain ⟨h6, hv, hM⟩ := e_bs hM
          refine e_putv (C := RX5) (T := TX5) (N := 7) E J hv rfl rfl inX5 tyX5 tyX5_ok nmX5 (by decide) q_1_133 rfl rfl rfl rfl dX5_readInner_54 (fun H locs J => ?_)
          refine lv_aload_n hx hb dX5_readInner_57 rfl (lv_at hl 1 rfl) ?_
          refine lv_iconst (v := nI 0) hx hb dX5_readInner_58 (by decide) ?_
          refine lv_iload_n hx hb dX5_readInner_59 rfl (lv_at hl 2 rfl) ?_
          refine lv_iconst (v := nI 1) hx hb dX5_readInner_60 (by decide) ?_
          refine lv_iadd hx hb dX5_readInner_61 ?_
          refine lv_iload_n hx hb dX5_readInner_62 rfl (lv_at hl 3 rfl) ?_
          obtain ⟨p7, hv, hM⟩ := e_bs hM
          refine e_callS (As := [.ref (e_ad G l0), .int (nI 0), .int (l1 + (nI 1)), .int l2]) (rest := []) (n := 4) E J (Hrec l0 (nI 0) (l1 + (nI 1)) l2 h6 _ hv) q_3_229 q_3_230 q_1_6 q_3_231 (by decide +kernel) rfl ⟨e_rf (by omega), e_rl (by omega)⟩ (st0 := [.int l2, .int (l1 + (nI 1)), .int (nI 0), .ref (e_ad G l0)]) (st1 := [.int (e_b p7.1)]) rfl rfl hl.1 (Nat.le_of_ble_eq_true rfl) dX5_readInner_63 ⟨Nat.le_refl _, Nat.le_refl _⟩ (fun H locs J => ?_)
          refine lv_if_eq (tgt := 78) hx hb dX5_readInner_66 (by decide) (fun hc => ?_) (fun hc => ?_)
          · have hM := e_ip hc hM
            refine lv_iconst (v := nI 0) hx hb dX5_readInner_78 (by decide) ?_
            obtain rfl := e_so hM
            exact e_zret E J (false) rfl dX5_readInner_79
          · have hM := e_in hc hM
            refine lv_aload_n hx hb dX5_readInner_69 rfl (lv_at hl 1 rfl) ?_
            refine va_ldcS hx hb hown (hES.2.2.2.2.2.2.1 7 _ rfl) dX5_readInner_70 ?_
            obtain ⟨p8, hv, hM⟩ := e_bs hM
            obtain ⟨fs_, hk, -⟩ := e_bs hv
            refine e_callV (ci := 5) (As := [.ref (G.2.2.2.2.1 (7 : Nat))]) (rest := []) (n := 1) E J hk rfl (mX5_nextOf (l := l) (G := G) l0 (7 : Nat) p7.2 _ hv) q_3_236 q_3_238 q_p_9 q_1_6 q_3_239 (by decide +kernel) rfl ⟨e_rf (by omega), e_rl (by omega)⟩ (st0 := [.ref (G.2.2.2.2.1 (7 : Nat)), .ref (e_ad G l0)]) (st1 := [.int p8.1]) rfl rfl hl.1 (Nat.le_of_ble_eq_true rfl) dX5_readInner_72 ⟨Nat.le_refl _, Nat.le_refl _⟩ (fun H locs J => ?_)
            refine lv_if_ge (tgt := 80) hx hb dX5_readInner_75 (by decide) (fun hc => ?_) (fun hc => ?_)
            · have hM := e_ip hc hM
              refine lv_aload_n hx hb dX5_readInner_80 rfl (lv_at hl 1 rfl) ?_
              refine lv_dup hx hb dX5_readInner_81 rfl ?_
              obtain ⟨v9, hv, hM⟩ := e_bs hM
              refine e_getI (C := RX5) (T := TX5) (N := 7) E J hv rfl inX5 (by decide) q_1_133 dX5_readInner_82 ?_
              refine lv_iconst (v := nI 1) hx hb dX5_readInner_85 (by decide) ?_
              refine lv_iadd hx hb dX5_readInner_86 ?_
              obtain ⟨h10, hv, hM⟩ := e_bs hM
              refine e_putv (C := RX5) (T := TX5) (N := 7) E J hv rfl rfl inX5 tyX5 tyX5_ok nmX5 (by decide) q_1_133 rfl rfl rfl rfl dX5_readInner_87 (fun H locs J => ?_)
              refine lv_iconst (v := nI 1) hx hb dX5_readInner_90 (by decide) ?_
              obtain rfl := e_so hM
              exact e_zret E J (true) rfl dX5_readInner_91
            · have hM := e_in hc hM
              refine lv_iconst (v := nI 0) hx hb dX5_readInner_78 (by decide) ?_
              obtain rfl := e_so hM
              exact e_zret E J (false) rfl dX5_readInner_79
        · have hM := e_in hc hM
          refine lv_iconst (v := nI 0) hx hb dX5_readInner_45 (by decide) ?_
          obtain rfl := e_so hM
          exact e_zret E J (false) rfl dX5_readInner_46
    · have hM := e_in hc hM
      refine lv_aload_n hx hb dX5_readInner_28 rfl (lv_at hl 1 rfl) ?_
      obtain ⟨p11, hv, hM⟩ := e_bs hM
      obtain ⟨fs_, hk, -⟩ := e_bs hv
      refine e_callV (ci := 5) (As := []) (rest := []) (n := 0) E J hk rfl (mX5_readName (l := l) (G := G) l0 h _ hv) q_4_66 q_4_68 q_p_12 q_1_6 q_4_69 (by decide +kernel) rfl ⟨e_rf (by omega), e_rl (by omega)⟩ (st0 := [.ref (e_ad G l0)]) (st1 := [.int (e_b p11.1)]) rfl rfl hl.1 (Nat.le_of_ble_eq_true rfl) dX5_readInner_29 ⟨Nat.le_refl _, Nat.le_refl _⟩ (fun H locs J => ?_)
      obtain rfl := e_so hM
      exact e_zret E J (p11.1) rfl dX5_readInner_32
  · have hM := e_in hc hM
    refine lv_aload_n hx hb dX5_readInner_16 rfl (lv_at hl 1 rfl) ?_
    obtain ⟨p12, hv, hM⟩ := e_bs hM
    obtain ⟨fs_, hk, -⟩ := e_bs hv
    refine e_callV (ci := 5) (As := []) (rest := []) (n := 0) E J hk rfl (mX5_readNumber (l := l) (G := G) l0 h _ hv) q_4_58 q_4_60 q_p_10 q_1_6 q_4_61 (by decide +kernel) rfl ⟨e_rf (by omega), e_rl (by omega)⟩ (st0 := [.ref (e_ad G l0)]) (st1 := [.int (e_b p12.1)]) rfl rfl hl.1 (Nat.le_of_ble_eq_true rfl) dX5_readInner_17 ⟨Nat.le_refl _, Nat.le_refl _⟩ (fun H locs J => ?_)
    obtain rfl := e_so hM
    exact e_zret E J (p12.1) rfl dX5_readInner_20
set_option maxRecDepth 100000 in
set_option maxHeartbeats 4000000 in
theorem mX5_readPiece_b62 {p : Program} {l : Launch} {e : Env} {s : State} {m : MethodId} {args : Array Value} {below : List Frame} {meth : Method} {c : Code} {G : e_G} {rec : Nat → Int32 → Int32 → Int32 → e_H → Option (Bool × e_H)} {fr nr : Nat} {res : (Bool × e_H)} {k62 : Nat → Int32 → Int32 → e_H → Option (Bool × e_H)} (E : e_M G p s args m meth c cX5_readPiece 5 (some FieldType.boolean) RX5) (Hrec : ∀ (a0 : Nat) (a1 : Int32) (a2 : Int32) (a3 : Int32) (h : e_H) (res : (Bool × e_H)), rec a0 a1 a2 a3 h = some res → Met l yX5_readLevel (e_W yX5_readLevel cX5_readLevel 7 (some FieldType.boolean)) (e_rm fr nr) (e_Pc G h [.ref (e_ad G a0), .int a1, .int a2, .int a3]) (e_Q G res.2 (some (.int (e_b res.1)))) 0 0 (e_A G)) (hcf : 5 ≤ fr) (hcn : 128 ≤ nr) (K62 : ∀ (l0 : Nat) (l3 : Int32) (l4 : Int32) (h : e_H), k62 l0 l3 l4 h = some res → ∀ (H : Heap) (locs : List Loc), e_J G s h H locs → ∀ (ls : Array Slot), lv_has ls 5 [(0, .ref (e_ad G l0)), (3, .int l3), (4, .int l4)] → W p l e (e_rm (fr + 2) (nr + 80)) s m args below meth c H locs 0 0 (MQ below (e_Q G res.2 (some (.int (e_b res.1)))) args s 0 0 (e_A G)) (F0 m 62 ls [])) (l0 : Nat) (l3 : Int32) (l4 : Int32) (h : e_H) (hM : fX5_readPiece_b62 rec k62 l0 l3 l4 h = some res) {H : Heap} {locs : List Loc} (J : e_J G s h H locs) {ls : Array Slot} (hl : lv_has ls 5 [(0, .ref (e_ad G l0)), (3, .int l3), (4, .int l4)]) : W p l e (e_rm (fr + 2) (nr + 80)) s m args below meth c H locs 0 0 (MQ below (e_Q G res.2 (some (.int (e_b res.1)))) args s 0 0 (e_A G)) (F0 m 62 ls []) := by
  obtain ⟨hx, hb, hr, hml, hown, hts, hlocks, hES, hbs⟩ := id E
  unfold fX5_readPiece_b62 at hM
  refine lv_iload hx hb dX5_readPiece_62 (lv_at hl 2 rfl) ?_
  refine lv_iload_n hx hb dX5_readPiece_64 rfl (lv_at hl 1 rfl) ?_
  refine lv_icmp_ge (tgt := 80) hx hb dX5_readPiece_65 (by decide) (fun hc => ?_) (fun hc => ?_)
  · have hM := e_ip hc hM
    refine lv_iconst (v := nI 1) hx hb dX5_readPiece_80 (by decide) ?_
    obtain rfl := e_so hM
    exact e_zret E J (true) rfl dX5_readPiece_81
  · have hM := e_in hc hM
    refine lv_aload_n hx hb dX5_readPiece_68 rfl (lv_at hl 0 rfl) ?_
    refine lv_bipush (v := -33) hx hb dX5_readPiece_69 (by decide) ?_
    obtain ⟨h1, hv, hM⟩ := e_bs hM
    obtain ⟨fs_, hk, -⟩ := e_bs hv
    refine e_callV (ci := 5) (As := [.int (-33 : Int32)]) (rest := []) (n := 1) E J hk rfl (mX5_write (l := l) (G := G) l0 (-33 : Int32) h _ hv) q_4_62 q_4_64 q_p_11 q_1_6 q_4_65 (by decide +kernel) rfl ⟨e_rf (by omega), e_rl (by omega)⟩ (st0 := [.int (-33 : Int32), .ref (e_ad G l0)]) (st1 := []) rfl rfl hl.1 (Nat.le_of_ble_eq_true rfl) dX5_readPiece_71 ⟨Nat.le_refl _, Nat.le_refl _⟩ (fun H locs J => ?_)
    refine lv_iinc (v := (l4 + (nI 1))) (lv' := [(4, .int (l4 + (nI 1))), (0, .ref (e_ad G l0)), (3, .int l3)]) hx hb dX5_readPiece_74 hl (k := 2) rfl rfl (by decide) rfl (fun ls hl => ?_)
    refine lv_goto (tgt := 62) hx hb dX5_readPiece_77 (by decide) ?_
    exact K62 l0 l3 (l4 + (nI 1)) h1 hM _ _ J _ (lv_sub hl [1, 2, 0] rfl)
set_option maxRecDepth 100000 in
set_option maxHeartbeats 4000000 in
theorem mX5_readPiece_L62 {p : Program} {l : Launch} {e : Env} {s : State} {m : MethodId} {args : Array Value} {below : List Frame} {meth : Method} {c : Code} {G : e_G} {rec : Nat → Int32 → Int32 → Int32 → e_H → Option (Bool × e_H)} {fr nr : Nat} {res : (Bool × e_H)} (E : e_M G p s args m meth c cX5_readPiece 5 (some FieldType.boolean) RX5) (Hrec : ∀ (a0 : Nat) (a1 : Int32) (a2 : Int32) (a3 : Int32) (h : e_H) (res : (Bool × e_H)), rec a0 a1 a2 a3 h = some res → Met l yX5_readLevel (e_W yX5_readLevel cX5_readLevel 7 (some FieldType.boolean)) (e_rm fr nr) (e_Pc G h [.ref (e_ad G a0), .int a1, .int a2, .int a3]) (e_Q G res.2 (some (.int (e_b res.1)))) 0 0 (e_A G)) (hcf : 5 ≤ fr) (hcn : 128 ≤ nr) (n : Nat) (l0 : Nat) (l3 : Int32) (l4 : Int32) (h : e_H) (hM : fX5_readPiece_L62 rec n l0 l3 l4 h = some res) {H : Heap} {locs : List Loc} (J : e_J G s h H locs) {ls : Array Slot} (hl : lv_has ls 5 [(0, .ref (e_ad G l0)), (3, .int l3), (4, .int l4)]) : W p l e (e_rm (fr + 2) (nr + 80)) s m args below meth c H locs 0 0 (MQ below (e_Q G res.2 (some (.int (e_b res.1)))) args s 0 0 (e_A G)) (F0 m 62 ls []) := by
  induction n generalizing l0 l3 l4 h H locs ls with
  | zero => exact e_no hM
  | succ n ih => exact mX5_readPiece_b62 (k62 := (fX5_readPiece_L62 rec n)) E Hrec hcf hcn   (fun l0 l3 l4 h hM H locs J ls hl => ih l0 l3 l4 h hM J hl) l0 l3 l4 h hM J hl
set_option maxRecDepth 100000 in
set_option maxHeartbeats 4000000 in
theorem mX5_readPiece_b48 {p : Program} {l : Launch} {e : Env} {s : State} {m : MethodId} {args : Array Value} {below : List Frame} {meth : Method} {c : Code} {G : e_G} {rec : Nat → Int32 → Int32 → Int32 → e_H → Option (Bool × e_H)} {fr nr : Nat} {res : (Bool × e_H)} (E : e_M G p s args m meth c cX5_readPiece 5 (some FieldType.boolean) RX5) (Hrec : ∀ (a0 : Nat) (a1 : Int32) (a2 : Int32) (a3 : Int32) (h : e_H) (res : (Bool × e_H)), rec a0 a1 a2 a3 h = some res → Met l yX5_readLevel (e_W yX5_readLevel cX5_readLevel 7 (some FieldType.boolean)) (e_rm fr nr) (e_Pc G h [.ref (e_ad G a0), .int a1, .int a2, .int a3]) (e_Q G res.2 (some (.int (e_b res.1)))) 0 0 (e_A G)) (hcf : 5 ≤ fr) (hcn : 128 ≤ nr) (l0 : Nat) (l1 : Int32) (l2 : Int32) (l3 : Int32) (h : e_H) (hM : fX5_readPiece_b48 rec l0 l1 l2 l3 h = some res) {H : Heap} {locs : List Loc} (J : e_J G s h H locs) {ls : Array Slot} (hl : lv_has ls 5 [(0, .ref (e_ad G l0)), (1, .int l1), (2, .int l2), (3, .int l3)]) : W p l e (e_rm (fr + 2) (nr + 80)) s m args below meth c H locs 0 0 (MQ below (e_Q G res.2 (some (.int (e_b res.1)))) args s 0 0 (e_A G)) (F0 m 48 ls []) := by
  obtain ⟨hx, hb, hr, hml, hown, hts, hlocks, hES, hbs⟩ := id E
  unfold fX5_readPiece_b48 at hM
  refine lv_aload_n hx hb dX5_readPiece_48 rfl (lv_at hl 0 rfl) ?_
  refine lv_iload_n hx hb dX5_readPiece_49 rfl (lv_at hl 1 rfl) ?_
  refine lv_iload_n hx hb dX5_readPiece_50 rfl (lv_at hl 3 rfl) ?_
  obtain ⟨p1, hv, hM⟩ := e_bs hM
  refine e_callS (As := [.ref (e_ad G l0), .int l1, .int l3]) (rest := []) (n := 3) E J (mX5_readInner_r (l := l) (G := G) Hrec hcf hcn l0 l1 l3 h _ hv) q_4_55 q_4_56 q_1_6 q_4_57 (by decide +kernel) rfl ⟨e_rf (by omega), e_rl (by omega)⟩ (st0 := [.int l3, .int l1, .ref (e_ad G l0)]) (st1 := [.int (e_b p1.1)]) rfl rfl hl.1 (Nat.le_of_ble_eq_true rfl) dX5_readPiece_51 ⟨Nat.le_refl _, Nat.le_refl _⟩ (fun H locs J => ?_)
  refine lv_if_ne (tgt := 59) hx hb dX5_readPiece_54 (by decide) (fun hc => ?_) (fun hc => ?_)
  · have hM := e_in hc hM
    refine lv_iload_n hx hb dX5_readPiece_59 rfl (lv_at hl 2 rfl) ?_
    refine lv_istore (lv' := [(4, .int l2), (0, .ref (e_ad G l0)), (1, .int l1), (2, .int l2), (3, .int l3)]) hx hb dX5_readPiece_60 hl (by decide) rfl (fun ls hl => ?_)
    exact mX5_readPiece_L62 E Hrec hcf hcn 200 l0 l3 l2 p1.2 hM J (lv_sub hl [1, 4, 0] rfl)
  · have hM := e_ip hc hM
    refine lv_iconst (v := nI 0) hx hb dX5_readPiece_57 (by decide) ?_
    obtain rfl := e_so hM
    exact e_zret E J (false) rfl dX5_readPiece_58
set_option maxRecDepth 100000 in
set_option maxHeartbeats 4000000 in
theorem mX5_readPiece_b5 {p : Program} {l : Launch} {e : Env} {s : State} {m : MethodId} {args : Array Value} {below : List Frame} {meth : Method} {c : Code} {G : e_G} {rec : Nat → Int32 → Int32 → Int32 → e_H → Option (Bool × e_H)} {fr nr : Nat} {res : (Bool × e_H)} {k5 : Nat → Int32 → Int32 → Int32 → Int32 → e_H → Option (Bool × e_H)} (E : e_M G p s args m meth c cX5_readPiece 5 (some FieldType.boolean) RX5) (Hrec : ∀ (a0 : Nat) (a1 : Int32) (a2 : Int32) (a3 : Int32) (h : e_H) (res : (Bool × e_H)), rec a0 a1 a2 a3 h = some res → Met l yX5_readLevel (e_W yX5_readLevel cX5_readLevel 7 (some FieldType.boolean)) (e_rm fr nr) (e_Pc G h [.ref (e_ad G a0), .int a1, .int a2, .int a3]) (e_Q G res.2 (some (.int (e_b res.1)))) 0 0 (e_A G)) (hcf : 5 ≤ fr) (hcn : 128 ≤ nr) (K5 : ∀ (l0 : Nat) (l1 : Int32) (l2 : Int32) (l3 : Int32) (l4 : Int32) (h : e_H), k5 l0 l1 l2 l3 l4 h = some res → ∀ (H : Heap) (locs : List Loc), e_J G s h H locs → ∀ (ls : Array Slot), lv_has ls 5 [(0, .ref (e_ad G l0)), (1, .int l1), (2, .int l2), (3, .int l3), (4, .int l4)] → W p l e (e_rm (fr + 2) (nr + 80)) s m args below meth c H locs 0 0 (MQ below (e_Q G res.2 (some (.int (e_b res.1)))) args s 0 0 (e_A G)) (F0 m 5 ls [])) (l0 : Nat) (l1 : Int32) (l2 : Int32) (l3 : Int32) (l4 : Int32) (h : e_H) (hM : fX5_readPiece_b5 rec k5 l0 l1 l2 l3 l4 h = some res) {H : Heap} {locs : List Loc} (J : e_J G s h H locs) {ls : Array Slot} (hl : lv_has ls 5 [(0, .ref (e_ad G l0)), (1, .int l1), (2, .int l2), (3, .int l3), (4, .int l4)]) : W p l e (e_rm (fr + 2) (nr + 80)) s m args below meth c H locs 0 0 (MQ below (e_Q G res.2 (some (.int (e_b res.1)))) args s 0 0 (e_A G)) (F0 m 5 ls []) := by
  obtain ⟨hx, hb, hr, hml, hown, hts, hlocks, hES, hbs⟩ := id E
  unfold fX5_readPiece_b5 at hM
  refine lv_iload hx hb dX5_readPiece_5 (lv_at hl 4 rfl) ?_
  refine lv_bipush (v := nI 96) hx hb dX5_readPiece_7 (by decide) ?_
  refine lv_icmp_ge (tgt := 48) hx hb dX5_readPiece_9 (by decide) (fun hc => ?_) (fun hc => ?_)
  · have hM := e_ip hc hM
    exact mX5_readPiece_b48 E Hrec hcf hcn l0 l1 l2 l3 h hM J (lv_sub hl [0, 1, 2, 3] rfl)
  · have hM := e_in hc hM
    refine lv_aload_n hx hb dX5_readPiece_12 rfl (lv_at hl 0 rfl) ?_
    refine va_ldcS hx hb hown (hES.2.2.2.2.2.2.1 3 _ rfl) dX5_readPiece_13 ?_
    obtain ⟨p1, hv, hM⟩ := e_bs hM
    obtain ⟨fs_, hk, -⟩ := e_bs hv
    refine e_callV (ci := 5) (As := [.ref (G.2.2.2.2.1 (3 : Nat))]) (rest := []) (n := 1) E J hk rfl (mX5_nextOf (l := l) (G := G) l0 (3 : Nat) h _ hv) q_3_236 q_3_238 q_p_9 q_1_6 q_3_239 (by decide +kernel) rfl ⟨e_rf (by omega), e_rl (by omega)⟩ (st0 := [.ref (G.2.2.2.2.1 (3 : Nat)), .ref (e_ad G l0)]) (st1 := [.int p1.1]) rfl rfl hl.1 (Nat.le_of_ble_eq_true rfl) dX5_readPiece_15 ⟨Nat.le_refl _, Nat.le_refl _⟩ (fun H locs J => ?_)
    refine lv_if_lt (tgt := 48) hx hb dX5_readPiece_18 (by decide) (fun hc => ?_) (fun hc => ?_)
    · have hM := e_ip hc hM
      exact mX5_readPiece_b48 E Hrec hcf hcn l0 l1 l2 l3 p1.2 hM J (lv_sub hl [0, 1, 2, 3] rfl)
    · have hM := e_in hc hM
      refine lv_iload_n hx hb dX5_readPiece_21 rfl (lv_at hl 3 rfl) ?_
      refine lv_bipush (v := nI 8) hx hb dX5_readPiece_22 (by decide) ?_
      refine lv_icmp_lt (tgt := 29) hx hb dX5_readPiece_24 (by decide) (fun hc => ?_) (fun hc => ?_)
      · have hM := e_ip hc hM
        refine lv_iinc (v := (l3 + (nI 1))) (lv' := [(3, .int (l3 + (nI 1))), (0, .ref (e_ad G l0)), (1, .int l1), (2, .int l2), (4, .int l4)]) hx hb dX5_readPiece_29 hl (k := 3) rfl rfl (by decide) rfl (fun ls hl => ?_)
        refine lv_aload_n hx hb dX5_readPiece_32 rfl (lv_at hl 1 rfl) ?_
        refine lv_dup hx hb dX5_readPiece_33 rfl ?_
        obtain ⟨v2, hv, hM⟩ := e_bs hM
        refine e_getI (C := RX5) (T := TX5) (N := 7) E J hv rfl inX5 (by decide) q_1_133 dX5_readPiece_34 ?_
        refine lv_iconst (v := nI 1) hx hb dX5_readPiece_37 (by decide) ?_
        refine lv_iadd hx hb dX5_readPiece_38 ?_
        obtain ⟨h3, hv, hM⟩ := e_bs hM
        refine e_putv (C := RX5) (T := TX5) (N := 7) E J hv rfl rfl inX5 tyX5 tyX5_ok nmX5 (by decide) q_1_133 rfl rfl rfl rfl dX5_readPiece_39 (fun H locs J => ?_)
        refine lv_iinc (v := (l4 + (nI 1))) (lv' := [(4, .int (l4 + (nI 1))), (3, .int (l3 + (nI 1))), (0, .ref (e_ad G l0)), (1, .int l1), (2, .int l2)]) hx hb dX5_readPiece_42 hl (k := 4) rfl rfl (by decide) rfl (fun ls hl => ?_)
        refine lv_goto (tgt := 5) hx hb dX5_readPiece_45 (by decide) ?_
        exact K5 l0 l1 l2 (l3 + (nI 1)) (l4 + (nI 1)) h3 hM _ _ J _ (lv_sub hl [2, 3, 4, 1, 0] rfl)
      · have hM := e_in hc hM
        refine lv_iconst (v := nI 0) hx hb dX5_readPiece_27 (by decide) ?_
        obtain rfl := e_so hM
        exact e_zret E J (false) rfl dX5_readPiece_28
set_option maxRecDepth 100000 in
set_option maxHeartbeats 4000000 in
theorem mX5_readPiece_L5 {p : Program} {l : Launch} {e : Env} {s : State} {m : MethodId} {args : Array Value} {below : List Frame} {meth : Method} {c : Code} {G : e_G} {rec : Nat → Int32 → Int32 → Int32 → e_H → Option (Bool × e_H)} {fr nr : Nat} {res : (Bool × e_H)} (E : e_M G p s args m meth c cX5_readPiece 5 (some FieldType.boolean) RX5) (Hrec : ∀ (a0 : Nat) (a1 : Int32) (a2 : Int32) (a3 : Int32) (h : e_H) (res : (Bool × e_H)), rec a0 a1 a2 a3 h = some res → Met l yX5_readLevel (e_W yX5_readLevel cX5_readLevel 7 (some FieldType.boolean)) (e_rm fr nr) (e_Pc G h [.ref (e_ad G a0), .int a1, .int a2, .int a3]) (e_Q G res.2 (some (.int (e_b res.1)))) 0 0 (e_A G)) (hcf : 5 ≤ fr) (hcn : 128 ≤ nr) (n : Nat) (l0 : Nat) (l1 : Int32) (l2 : Int32) (l3 : Int32) (l4 : Int32) (h : e_H) (hM : fX5_readPiece_L5 rec n l0 l1 l2 l3 l4 h = some res) {H : Heap} {locs : List Loc} (J : e_J G s h H locs) {ls : Array Slot} (hl : lv_has ls 5 [(0, .ref (e_ad G l0)), (1, .int l1), (2, .int l2), (3, .int l3), (4, .int l4)]) : W p l e (e_rm (fr + 2) (nr + 80)) s m args below meth c H locs 0 0 (MQ below (e_Q G res.2 (some (.int (e_b res.1)))) args s 0 0 (e_A G)) (F0 m 5 ls []) := by
  induction n generalizing l0 l1 l2 l3 l4 h H locs ls with
  | zero => exact e_no hM
  | succ n ih => exact mX5_readPiece_b5 (k5 := (fX5_readPiece_L5 rec n)) E Hrec hcf hcn   (fun l0 l1 l2 l3 l4 h hM H locs J ls hl => ih l0 l1 l2 l3 l4 h hM J hl) l0 l1 l2 l3 l4 h hM J hl
set_option maxRecDepth 100000 in
set_option maxHeartbeats 4000000 in
theorem mX5_readPiece_r {l : Launch} {G : e_G} {rec : Nat → Int32 → Int32 → Int32 → e_H → Option (Bool × e_H)} {fr nr : Nat} (Hrec : ∀ (a0 : Nat) (a1 : Int32) (a2 : Int32) (a3 : Int32) (h : e_H) (res : (Bool × e_H)), rec a0 a1 a2 a3 h = some res → Met l yX5_readLevel (e_W yX5_readLevel cX5_readLevel 7 (some FieldType.boolean)) (e_rm fr nr) (e_Pc G h [.ref (e_ad G a0), .int a1, .int a2, .int a3]) (e_Q G res.2 (some (.int (e_b res.1)))) 0 0 (e_A G)) (hcf : 5 ≤ fr) (hcn : 128 ≤ nr) (l0 : Nat) (l1 : Int32) (l2 : Int32) (h : e_H) (res : (Bool × e_H)) (hM : fX5_readPiece_r rec l0 l1 l2 h = some res) : Met l yX5_readPiece (e_W yX5_readPiece cX5_readPiece 5 (some FieldType.boolean)) (e_rm (fr + 2) (nr + 80)) (e_Pc G h [.ref (e_ad G l0), .int l1, .int l2]) (e_Q G res.2 (some (.int (e_b res.1)))) 0 0 (e_A G) := by
  refine Met.ofW (cc := cX5_readPiece) (maxL := 5) (ret := (some FieldType.boolean)) (by decide) rfl ?_
  intro p e s m args below meth c s₁ B hml hv
  obtain ⟨rfl, hS, hP⟩ := hv
  have E := e_enter (own := RX5) (ret := (some FieldType.boolean)) B hml rfl hS hP
  have J : e_J G s h s.heap [] := ⟨hP, va_S.rf⟩
  have hl := lv_entry ([.ref (e_ad G l0), .int l1, .int l2]) (n := 5) (Nat.le_of_ble_eq_true rfl)
  rw [lg_entry_eq]
  generalize (lg_sl ([.ref (e_ad G l0), .int l1, .int l2]) ++ List.replicate (5 - (lg_sl ([.ref (e_ad G l0), .int l1, .int l2])).length) Slot.unset).toArray = ls at hl ⊢
  have hl : lv_has ls 5 [(0, .ref (e_ad G l0)), (1, .int l1), (2, .int l2)] := hl
  obtain ⟨hx, hb, hr, hml, hown, hts, hlocks, hES, hbs⟩ := id E
  unfold fX5_readPiece_r at hM
  refine lv_iload_n hx hb dX5_readPiece_0 rfl (lv_at hl 2 rfl) ?_
  refine lv_istore_n (lv' := [(3, .int l2), (0, .ref (e_ad G l0)), (1, .int l1), (2, .int l2)]) hx hb dX5_readPiece_1 rfl hl (by decide) rfl (fun ls hl => ?_)
  refine lv_iconst (v := nI 0) hx hb dX5_readPiece_2 (by decide) ?_
  refine lv_istore (lv' := [(4, .int (nI 0)), (3, .int l2), (0, .ref (e_ad G l0)), (1, .int l1), (2, .int l2)]) hx hb dX5_readPiece_3 hl (by decide) rfl (fun ls hl => ?_)
  exact mX5_readPiece_L5 E Hrec hcf hcn 200 l0 l1 l2 l2 (nI 0) h hM J (lv_sub hl [2, 3, 4, 1, 0] rfl)
set_option maxRecDepth 100000 in
set_option maxHeartbeats 4000000 in
theorem mX5_readLevel_b42 {p : Program} {l : Launch} {e : Env} {s : State} {m : MethodId} {args : Array Value} {below : List Frame} {meth : Method} {c : Code} {G : e_G} {rec : Nat → Int32 → Int32 → Int32 → e_H → Option (Bool × e_H)} {fr nr : Nat} {res : (Bool × e_H)} {k42 : Nat → Int32 → Int32 → Int32 → Int32 → Int32 → e_H → Option (Bool × e_H)} (E : e_M G p s args m meth c cX5_readLevel 7 (some FieldType.boolean) RX5) (Hrec : ∀ (a0 : Nat) (a1 : Int32) (a2 : Int32) (a3 : Int32) (h : e_H) (res : (Bool × e_H)), rec a0 a1 a2 a3 h = some res → Met l yX5_readLevel (e_W yX5_readLevel cX5_readLevel 7 (some FieldType.boolean)) (e_rm fr nr) (e_Pc G h [.ref (e_ad G a0), .int a1, .int a2, .int a3]) (e_Q G res.2 (some (.int (e_b res.1)))) 0 0 (e_A G)) (hcf : 5 ≤ fr) (hcn : 128 ≤ nr) (K42 : ∀ (l0 : Nat) (l1 : Int32) (l2 : Int32) (l3 : Int32) (l4 : Int32) (l5 : Int32) (h : e_H), k42 l0 l1 l2 l3 l4 l5 h = some res → ∀ (H : Heap) (locs : List Loc), e_J G s h H locs → ∀ (ls : Array Slot), lv_has ls 7 [(0, .ref (e_ad G l0)), (1, .int l1), (2, .int l2), (3, .int l3), (4, .int l4), (5, .int l5)] → W p l e (e_rm (fr + 3) (nr + 120)) s m args below meth c H locs 0 0 (MQ below (e_Q G res.2 (some (.int (e_b res.1)))) args s 0 0 (e_A G)) (F0 m 42 ls [])) (l0 : Nat) (l1 : Int32) (l2 : Int32) (l3 : Int32) (l4 : Int32) (l5 : Int32) (h : e_H) (hM : fX5_readLevel_b42 rec k42 l0 l1 l2 l3 l4 l5 h = some res) {H : Heap} {locs : List Loc} (J : e_J G s h H locs) {ls : Array Slot} (hl : lv_has ls 7 [(0, .ref (e_ad G l0)), (1, .int l1), (2, .int l2), (3, .int l3), (4, .int l4), (5, .int l5)]) : W p l e (e_rm (fr + 3) (nr + 120)) s m args below meth c H locs 0 0 (MQ below (e_Q G res.2 (some (.int (e_b res.1)))) args s 0 0 (e_A G)) (F0 m 42 ls []) := by
  obtain ⟨hx, hb, hr, hml, hown, hts, hlocks, hES, hbs⟩ := id E
  unfold fX5_readLevel_b42 at hM
  refine lv_iload hx hb dX5_readLevel_42 (lv_at hl 5 rfl) ?_
  refine lv_iload hx hb dX5_readLevel_44 (lv_at hl 4 rfl) ?_
  refine lv_icmp_ge (tgt := 103) hx hb dX5_readLevel_46 (by decide) (fun hc => ?_) (fun hc => ?_)
  · have hM := e_ip hc hM
    refine lv_iconst (v := nI 1) hx hb dX5_readLevel_103 (by decide) ?_
    obtain rfl := e_so hM
    exact e_zret E J (true) rfl dX5_readLevel_104
  · have hM := e_in hc hM
    refine lv_aload_n hx hb dX5_readLevel_49 rfl (lv_at hl 0 rfl) ?_
    refine lv_iload_n hx hb dX5_readLevel_50 rfl (lv_at hl 1 rfl) ?_
    obtain ⟨v1, hv, hM⟩ := e_bs hM
    refine e_callS (As := [.int l1]) (rest := [.ref (e_ad G l0)]) (n := 1) E J (mX5_signsOf (l := l) (G := G) l1 h _ hv) q_4_74 q_4_75 q_1_6 q_4_76 (by decide +kernel) rfl ⟨e_rf (by omega), e_rl (by omega)⟩ (st0 := [.int l1, .ref (e_ad G l0)]) (st1 := [.ref (G.2.2.2.2.1 v1), .ref (e_ad G l0)]) rfl rfl hl.1 (Nat.le_of_ble_eq_true rfl) dX5_readLevel_51 ⟨Nat.le_refl _, Nat.le_refl _⟩ (fun H locs J => ?_)
    obtain ⟨p2, hv, hM⟩ := e_bs hM
    obtain ⟨fs_, hk, -⟩ := e_bs hv
    refine e_callV (ci := 5) (As := [.ref (G.2.2.2.2.1 v1)]) (rest := []) (n := 1) E J hk rfl (mX5_nextOf (l := l) (G := G) l0 v1 h _ hv) q_3_236 q_3_238 q_p_9 q_1_6 q_3_239 (by decide +kernel) rfl ⟨e_rf (by omega), e_rl (by omega)⟩ (st0 := [.ref (G.2.2.2.2.1 v1), .ref (e_ad G l0)]) (st1 := [.int p2.1]) rfl rfl hl.1 (Nat.le_of_ble_eq_true rfl) dX5_readLevel_54 ⟨Nat.le_refl _, Nat.le_refl _⟩ (fun H locs J => ?_)
    refine lv_istore (lv' := [(6, .int p2.1), (0, .ref (e_ad G l0)), (1, .int l1), (2, .int l2), (3, .int l3), (4, .int l4), (5, .int l5)]) hx hb dX5_readLevel_57 hl (by decide) rfl (fun ls hl => ?_)
    refine lv_iload hx hb dX5_readLevel_59 (lv_at hl 0 rfl) ?_
    refine lv_if_ge (tgt := 66) hx hb dX5_readLevel_61 (by decide) (fun hc => ?_) (fun hc => ?_)
    · have hM := e_ip hc hM
      refine lv_aload_n hx hb dX5_readLevel_66 rfl (lv_at hl 1 rfl) ?_
      refine lv_dup hx hb dX5_readLevel_67 rfl ?_
      obtain ⟨v3, hv, hM⟩ := e_bs hM
      refine e_getI (C := RX5) (T := TX5) (N := 7) E J hv rfl inX5 (by decide) q_1_133 dX5_readLevel_68 ?_
      refine lv_iconst (v := nI 1) hx hb dX5_readLevel_71 (by decide) ?_
      refine lv_iadd hx hb dX5_readLevel_72 ?_
      obtain ⟨h4, hv, hM⟩ := e_bs hM
      refine e_putv (C := RX5) (T := TX5) (N := 7) E J hv rfl rfl inX5 tyX5 tyX5_ok nmX5 (by decide) q_1_133 rfl rfl rfl rfl dX5_readLevel_73 (fun H locs J => ?_)
      refine lv_aload_n hx hb dX5_readLevel_76 rfl (lv_at hl 1 rfl) ?_
      refine lv_iload_n hx hb dX5_readLevel_77 rfl (lv_at hl 2 rfl) ?_
      refine lv_iconst (v := nI 1) hx hb dX5_readLevel_78 (by decide) ?_
      refine lv_iadd hx hb dX5_readLevel_79 ?_
      refine lv_iload_n hx hb dX5_readLevel_80 rfl (lv_at hl 3 rfl) ?_
      refine lv_iload_n hx hb dX5_readLevel_81 rfl (lv_at hl 4 rfl) ?_
      obtain ⟨p5, hv, hM⟩ := e_bs hM
      refine e_callS (As := [.ref (e_ad G l0), .int (l1 + (nI 1)), .int l2, .int l3]) (rest := []) (n := 4) E J (Hrec l0 (l1 + (nI 1)) l2 l3 h4 _ hv) q_3_229 q_3_230 q_1_6 q_3_231 (by decide +kernel) rfl ⟨e_rf (by omega), e_rl (by omega)⟩ (st0 := [.int l3, .int l2, .int (l1 + (nI 1)), .ref (e_ad G l0)]) (st1 := [.int (e_b p5.1)]) rfl rfl hl.1 (Nat.le_of_ble_eq_true rfl) dX5_readLevel_82 ⟨Nat.le_refl _, Nat.le_refl _⟩ (fun H locs J => ?_)
      refine lv_if_ne (tgt := 90) hx hb dX5_readLevel_85 (by decide) (fun hc => ?_) (fun hc => ?_)
      · have hM := e_in hc hM
        refine lv_aload_n hx hb dX5_readLevel_90 rfl (lv_at hl 1 rfl) ?_
        refine lv_iload hx hb dX5_readLevel_91 (lv_at hl 0 rfl) ?_
        refine lv_ineg hx hb dX5_readLevel_93 ?_
        obtain ⟨h6, hv, hM⟩ := e_bs hM
        obtain ⟨fs_, hk, -⟩ := e_bs hv
        refine e_callV (ci := 5) (As := [.int (-p2.1)]) (rest := []) (n := 1) E J hk rfl (mX5_write (l := l) (G := G) l0 (-p2.1) p5.2 _ hv) q_4_62 q_4_64 q_p_11 q_1_6 q_4_65 (by decide +kernel) rfl ⟨e_rf (by omega), e_rl (by omega)⟩ (st0 := [.int (-p2.1), .ref (e_ad G l0)]) (st1 := []) rfl rfl hl.1 (Nat.le_of_ble_eq_true rfl) dX5_readLevel_94 ⟨Nat.le_refl _, Nat.le_refl _⟩ (fun H locs J => ?_)
        refine lv_iinc (v := (l5 + (nI 1))) (lv' := [(5, .int (l5 + (nI 1))), (6, .int p2.1), (0, .ref (e_ad G l0)), (1, .int l1), (2, .int l2), (3, .int l3), (4, .int l4)]) hx hb dX5_readLevel_97 hl (k := 6) rfl rfl (by decide) rfl (fun ls hl => ?_)
        refine lv_goto (tgt := 42) hx hb dX5_readLevel_100 (by decide) ?_
        exact K42 l0 l1 l2 l3 l4 (l5 + (nI 1)) h6 hM _ _ J _ (lv_sub hl [2, 3, 4, 5, 6, 0] rfl)
      · have hM := e_ip hc hM
        refine lv_iconst (v := nI 0) hx hb dX5_readLevel_88 (by decide) ?_
        obtain rfl := e_so hM
        exact e_zret E J (false) rfl dX5_readLevel_89
    · have hM := e_in hc hM
      refine lv_iconst (v := nI 1) hx hb dX5_readLevel_64 (by decide) ?_
      obtain rfl := e_so hM
      exact e_zret E J (true) rfl dX5_readLevel_65
set_option maxRecDepth 100000 in
set_option maxHeartbeats 4000000 in
theorem mX5_readLevel_L42 {p : Program} {l : Launch} {e : Env} {s : State} {m : MethodId} {args : Array Value} {below : List Frame} {meth : Method} {c : Code} {G : e_G} {rec : Nat → Int32 → Int32 → Int32 → e_H → Option (Bool × e_H)} {fr nr : Nat} {res : (Bool × e_H)} (E : e_M G p s args m meth c cX5_readLevel 7 (some FieldType.boolean) RX5) (Hrec : ∀ (a0 : Nat) (a1 : Int32) (a2 : Int32) (a3 : Int32) (h : e_H) (res : (Bool × e_H)), rec a0 a1 a2 a3 h = some res → Met l yX5_readLevel (e_W yX5_readLevel cX5_readLevel 7 (some FieldType.boolean)) (e_rm fr nr) (e_Pc G h [.ref (e_ad G a0), .int a1, .int a2, .int a3]) (e_Q G res.2 (some (.int (e_b res.1)))) 0 0 (e_A G)) (hcf : 5 ≤ fr) (hcn : 128 ≤ nr) (n : Nat) (l0 : Nat) (l1 : Int32) (l2 : Int32) (l3 : Int32) (l4 : Int32) (l5 : Int32) (h : e_H) (hM : fX5_readLevel_L42 rec n l0 l1 l2 l3 l4 l5 h = some res) {H : Heap} {locs : List Loc} (J : e_J G s h H locs) {ls : Array Slot} (hl : lv_has ls 7 [(0, .ref (e_ad G l0)), (1, .int l1), (2, .int l2), (3, .int l3), (4, .int l4), (5, .int l5)]) : W p l e (e_rm (fr + 3) (nr + 120)) s m args below meth c H locs 0 0 (MQ below (e_Q G res.2 (some (.int (e_b res.1)))) args s 0 0 (e_A G)) (F0 m 42 ls []) := by
  induction n generalizing l0 l1 l2 l3 l4 l5 h H locs ls with
  | zero => exact e_no hM
  | succ n ih => exact mX5_readLevel_b42 (k42 := (fX5_readLevel_L42 rec n)) E Hrec hcf hcn   (fun l0 l1 l2 l3 l4 l5 h hM H locs J ls hl => ih l0 l1 l2 l3 l4 l5 h hM J hl) l0 l1 l2 l3 l4 l5 h hM J hl
set_option maxRecDepth 100000 in
set_option maxHeartbeats 4000000 in
theorem mX5_readLevel_b37 {p : Program} {l : Launch} {e : Env} {s : State} {m : MethodId} {args : Array Value} {below : List Frame} {meth : Method} {c : Code} {G : e_G} {rec : Nat → Int32 → Int32 → Int32 → e_H → Option (Bool × e_H)} {fr nr : Nat} {res : (Bool × e_H)} (E : e_M G p s args m meth c cX5_readLevel 7 (some FieldType.boolean) RX5) (Hrec : ∀ (a0 : Nat) (a1 : Int32) (a2 : Int32) (a3 : Int32) (h : e_H) (res : (Bool × e_H)), rec a0 a1 a2 a3 h = some res → Met l yX5_readLevel (e_W yX5_readLevel cX5_readLevel 7 (some FieldType.boolean)) (e_rm fr nr) (e_Pc G h [.ref (e_ad G a0), .int a1, .int a2, .int a3]) (e_Q G res.2 (some (.int (e_b res.1)))) 0 0 (e_A G)) (hcf : 5 ≤ fr) (hcn : 128 ≤ nr) (l0 : Nat) (l1 : Int32) (l2 : Int32) (l3 : Int32) (t0 : Int32) (h : e_H) (hM : fX5_readLevel_b37 rec l0 l1 l2 l3 t0 h = some res) {H : Heap} {locs : List Loc} (J : e_J G s h H locs) {ls : Array Slot} (hl : lv_has ls 7 [(0, .ref (e_ad G l0)), (1, .int l1), (2, .int l2), (3, .int l3)]) : W p l e (e_rm (fr + 3) (nr + 120)) s m args below meth c H locs 0 0 (MQ below (e_Q G res.2 (some (.int (e_b res.1)))) args s 0 0 (e_A G)) (F0 m 37 ls [.int t0]) := by
  obtain ⟨hx, hb, hr, hml, hown, hts, hlocks, hES, hbs⟩ := id E
  unfold fX5_readLevel_b37 at hM
  refine lv_istore (lv' := [(4, .int t0), (0, .ref (e_ad G l0)), (1, .int l1), (2, .int l2), (3, .int l3)]) hx hb dX5_readLevel_37 hl (by decide) rfl (fun ls hl => ?_)
  refine lv_iconst (v := nI 0) hx hb dX5_readLevel_39 (by decide) ?_
  refine lv_istore (lv' := [(5, .int (nI 0)), (4, .int t0), (0, .ref (e_ad G l0)), (1, .int l1), (2, .int l2), (3, .int l3)]) hx hb dX5_readLevel_40 hl (by decide) rfl (fun ls hl => ?_)
  exact mX5_readLevel_L42 E Hrec hcf hcn 200 l0 l1 l2 l3 t0 (nI 0) h hM J (lv_sub hl [2, 3, 4, 5, 1, 0] rfl)
set_option maxRecDepth 100000 in
set_option maxHeartbeats 4000000 in
theorem mX5_readLevel_r {l : Launch} {G : e_G} {rec : Nat → Int32 → Int32 → Int32 → e_H → Option (Bool × e_H)} {fr nr : Nat} (Hrec : ∀ (a0 : Nat) (a1 : Int32) (a2 : Int32) (a3 : Int32) (h : e_H) (res : (Bool × e_H)), rec a0 a1 a2 a3 h = some res → Met l yX5_readLevel (e_W yX5_readLevel cX5_readLevel 7 (some FieldType.boolean)) (e_rm fr nr) (e_Pc G h [.ref (e_ad G a0), .int a1, .int a2, .int a3]) (e_Q G res.2 (some (.int (e_b res.1)))) 0 0 (e_A G)) (hcf : 5 ≤ fr) (hcn : 128 ≤ nr) (l0 : Nat) (l1 : Int32) (l2 : Int32) (l3 : Int32) (h : e_H) (res : (Bool × e_H)) (hM : fX5_readLevel_r rec l0 l1 l2 l3 h = some res) : Met l yX5_readLevel (e_W yX5_readLevel cX5_readLevel 7 (some FieldType.boolean)) (e_rm (fr + 3) (nr + 120)) (e_Pc G h [.ref (e_ad G l0), .int l1, .int l2, .int l3]) (e_Q G res.2 (some (.int (e_b res.1)))) 0 0 (e_A G) := by
  refine Met.ofW (cc := cX5_readLevel) (maxL := 7) (ret := (some FieldType.boolean)) (by decide) rfl ?_
  intro p e s m args below meth c s₁ B hml hv
  obtain ⟨rfl, hS, hP⟩ := hv
  have E := e_enter (own := RX5) (ret := (some FieldType.boolean)) B hml rfl hS hP
  have J : e_J G s h s.heap [] := ⟨hP, va_S.rf⟩
  have hl := lv_entry ([.ref (e_ad G l0), .int l1, .int l2, .int l3]) (n := 7) (Nat.le_of_ble_eq_true rfl)
  rw [lg_entry_eq]
  generalize (lg_sl ([.ref (e_ad G l0), .int l1, .int l2, .int l3]) ++ List.replicate (7 - (lg_sl ([.ref (e_ad G l0), .int l1, .int l2, .int l3])).length) Slot.unset).toArray = ls at hl ⊢
  have hl : lv_has ls 7 [(0, .ref (e_ad G l0)), (1, .int l1), (2, .int l2), (3, .int l3)] := hl
  obtain ⟨hx, hb, hr, hml, hown, hts, hlocks, hES, hbs⟩ := id E
  unfold fX5_readLevel_r at hM
  refine lv_iload_n hx hb dX5_readLevel_0 rfl (lv_at hl 1 rfl) ?_
  refine lv_iconst (v := nI 5) hx hb dX5_readLevel_1 (by decide) ?_
  refine lv_icmp_lt (tgt := 12) hx hb dX5_readLevel_2 (by decide) (fun hc => ?_) (fun hc => ?_)
  · have hM := e_ip hc hM
    refine lv_aload_n hx hb dX5_readLevel_12 rfl (lv_at hl 0 rfl) ?_
    refine lv_iload_n hx hb dX5_readLevel_13 rfl (lv_at hl 1 rfl) ?_
    refine lv_iconst (v := nI 1) hx hb dX5_readLevel_14 (by decide) ?_
    refine lv_iadd hx hb dX5_readLevel_15 ?_
    refine lv_iload_n hx hb dX5_readLevel_16 rfl (lv_at hl 2 rfl) ?_
    refine lv_iload_n hx hb dX5_readLevel_17 rfl (lv_at hl 3 rfl) ?_
    obtain ⟨p1, hv, hM⟩ := e_bs hM
    refine e_callS (As := [.ref (e_ad G l0), .int (l1 + (nI 1)), .int l2, .int l3]) (rest := []) (n := 4) E J (Hrec l0 (l1 + (nI 1)) l2 l3 h _ hv) q_3_229 q_3_230 q_1_6 q_3_231 (by decide +kernel) rfl ⟨e_rf (by omega), e_rl (by omega)⟩ (st0 := [.int l3, .int l2, .int (l1 + (nI 1)), .ref (e_ad G l0)]) (st1 := [.int (e_b p1.1)]) rfl rfl hl.1 (Nat.le_of_ble_eq_true rfl) dX5_readLevel_18 ⟨Nat.le_refl _, Nat.le_refl _⟩ (fun H locs J => ?_)
    refine lv_if_ne (tgt := 26) hx hb dX5_readLevel_21 (by decide) (fun hc => ?_) (fun hc => ?_)
    · have hM := e_in hc hM
      refine lv_iload_n hx hb dX5_readLevel_26 rfl (lv_at hl 1 rfl) ?_
      refine lv_iconst (v := nI 2) hx hb dX5_readLevel_27 (by decide) ?_
      refine lv_icmp_ne (tgt := 35) hx hb dX5_readLevel_28 (by decide) (fun hc => ?_) (fun hc => ?_)
      · have hM := e_in hc hM
        refine lv_bipush (v := nI 96) hx hb dX5_readLevel_35 (by decide) ?_
        exact mX5_readLevel_b37 E Hrec hcf hcn l0 l1 l2 l3 (nI 96) p1.2 hM J (lv_sub hl [0, 1, 2, 3] rfl)
      · have hM := e_ip hc hM
        refine lv_iconst (v := nI 1) hx hb dX5_readLevel_31 (by decide) ?_
        refine lv_goto (tgt := 37) hx hb dX5_readLevel_32 (by decide) ?_
        exact mX5_readLevel_b37 E Hrec hcf hcn l0 l1 l2 l3 (nI 1) p1.2 hM J (lv_sub hl [0, 1, 2, 3] rfl)
    · have hM := e_ip hc hM
      refine lv_iconst (v := nI 0) hx hb dX5_readLevel_24 (by decide) ?_
      obtain rfl := e_so hM
      exact e_zret E J (false) rfl dX5_readLevel_25
  · have hM := e_in hc hM
    refine lv_aload_n hx hb dX5_readLevel_5 rfl (lv_at hl 0 rfl) ?_
    refine lv_iload_n hx hb dX5_readLevel_6 rfl (lv_at hl 2 rfl) ?_
    refine lv_iload_n hx hb dX5_readLevel_7 rfl (lv_at hl 3 rfl) ?_
    obtain ⟨p2, hv, hM⟩ := e_bs hM
    refine e_callS (As := [.ref (e_ad G l0), .int l2, .int l3]) (rest := []) (n := 3) E J (mX5_readPiece_r (l := l) (G := G) Hrec hcf hcn l0 l2 l3 h _ hv) q_3_232 q_3_233 q_1_6 q_3_234 (by decide +kernel) rfl ⟨e_rf (by omega), e_rl (by omega)⟩ (st0 := [.int l3, .int l2, .ref (e_ad G l0)]) (st1 := [.int (e_b p2.1)]) rfl rfl hl.1 (Nat.le_of_ble_eq_true rfl) dX5_readLevel_8 ⟨Nat.le_refl _, Nat.le_refl _⟩ (fun H locs J => ?_)
    obtain rfl := e_so hM
    exact e_zret E J (p2.1) rfl dX5_readLevel_11
set_option maxRecDepth 100000 in
set_option maxHeartbeats 4000000 in
theorem mX5_readLevel_R {l : Launch} {G : e_G} : ∀ (n : Nat) (l0 : Nat) (l1 : Int32) (l2 : Int32) (l3 : Int32) (h : e_H) (res : (Bool × e_H)), fX5_readLevel_R n l0 l1 l2 l3 h = some res → Met l yX5_readLevel (e_W yX5_readLevel cX5_readLevel 7 (some FieldType.boolean)) (e_rm (e_F 5 3 n) (e_F 128 120 n)) (e_Pc G h [.ref (e_ad G l0), .int l1, .int l2, .int l3]) (e_Q G (res.2) (some (.int (e_b res.1)))) 0 0 (e_A G)
  | 0, _, _, _, _, _, _, hM => e_no hM
  | n + 1, l0, l1, l2, l3, h, res, hM => mX5_readLevel_r (rec := fX5_readLevel_R n) (mX5_readLevel_R n) (e_Fle _ _ n) (e_Fle _ _ n) l0 l1 l2 l3 h res hM
set_option maxRecDepth 100000 in
set_option maxHeartbeats 4000000 in
theorem mX5_readLevel {l : Launch} {G : e_G} (l0 : Nat) (l1 : Int32) (l2 : Int32) (l3 : Int32) (h : e_H) (res : (Bool × e_H)) (hM : fX5_readLevel l0 l1 l2 l3 h = some res) : Met l yX5_readLevel (e_W yX5_readLevel cX5_readLevel 7 (some FieldType.boolean)) (e_rm 305 12128) (e_Pc G h [.ref (e_ad G l0), .int l1, .int l2, .int l3]) (e_Q G (res.2) (some (.int (e_b res.1)))) 0 0 (e_A G) := mX5_readLevel_R 100 l0 l1 l2 l3 h res hM
set_option maxRecDepth 100000 in
set_option maxHeartbeats 4000000 in
theorem mX5_read_b54 {p : Program} {l : Launch} {e : Env} {s : State} {m : MethodId} {args : Array Value} {below : List Frame} {meth : Method} {c : Code} {G : e_G} {res : (Int32 × e_H)} (E : e_M G p s args m meth c cX5_read 1 (some FieldType.int) RX5) (l0 : Nat) (h : e_H) (hM : fX5_read_b54 l0 h = some res) {H : Heap} {locs : List Loc} (J : e_J G s h H locs) {ls : Array Slot} (hl : lv_has ls 1 [(0, .ref (e_ad G l0))]) : W p l e (e_rm 306 12154) s m args below meth c H locs 0 0 (MQ below (e_Q G res.2 (some (.int res.1))) args s 0 0 (e_A G)) (F0 m 54 ls []) := by
  obtain ⟨hx, hb, hr, hml, hown, hts, hlocks, hES, hbs⟩ := id E
  unfold fX5_read_b54 at hM
  refine lv_aload_n hx hb dX5_read_54 rfl (lv_at hl 0 rfl) ?_
  obtain ⟨v1, hv, hM⟩ := e_bs hM
  refine e_getI (C := RX5) (T := TX5) (N := 7) E J hv rfl inX5 (by decide) q_1_133 dX5_read_55 ?_
  obtain rfl := e_so hM
  exact e_iret E J dX5_read_58
set_option maxRecDepth 100000 in
set_option maxHeartbeats 4000000 in
theorem mX5_read {l : Launch} {G : e_G} (l0 : Nat) (h : e_H) (res : (Int32 × e_H)) (hM : fX5_read l0 h = some res) : Met l yX5_read (e_W yX5_read cX5_read 1 (some FieldType.int)) (e_rm 306 12154) (e_Pc G h [.ref (e_ad G l0)]) (e_Q G res.2 (some (.int res.1))) 0 0 (e_A G) := by
  refine Met.ofW (cc := cX5_read) (maxL := 1) (ret := (some FieldType.int)) (by decide) rfl ?_
  intro p e s m args below meth c s₁ B hml hv
  obtain ⟨rfl, hS, hP⟩ := hv
  have E := e_enter (own := RX5) (ret := (some FieldType.int)) B hml rfl hS hP
  have J : e_J G s h s.heap [] := ⟨hP, va_S.rf⟩
  have hl := lv_entry ([.ref (e_ad G l0)]) (n := 1) (Nat.le_of_ble_eq_true rfl)
  rw [lg_entry_eq]
  generalize (lg_sl ([.ref (e_ad G l0)]) ++ List.replicate (1 - (lg_sl ([.ref (e_ad G l0)])).length) Slot.unset).toArray = ls at hl ⊢
  have hl : lv_has ls 1 [(0, .ref (e_ad G l0))] := hl
  obtain ⟨hx, hb, hr, hml, hown, hts, hlocks, hES, hbs⟩ := id E
  unfold fX5_read at hM
  obtain ⟨fs_, hk_, hM⟩ := e_bs hM
  refine lv_aload_n hx hb dX5_read_0 rfl (lv_at hl 0 rfl) ?_
  refine lv_iconst (v := nI 0) hx hb dX5_read_1 (by decide) ?_
  obtain ⟨h1, hv, hM⟩ := e_bs hM
  refine e_putv (C := RX5) (T := TX5) (N := 7) E J hv rfl rfl inX5 tyX5 tyX5_ok nmX5 (by decide) q_1_133 rfl rfl rfl rfl dX5_read_2 (fun H locs J => ?_)
  refine lv_aload_n hx hb dX5_read_5 rfl (lv_at hl 0 rfl) ?_
  refine lv_iconst (v := nI 0) hx hb dX5_read_6 (by decide) ?_
  obtain ⟨h2, hv, hM⟩ := e_bs hM
  refine e_putv (C := RX5) (T := TX5) (N := 7) E J hv rfl rfl inX5 tyX5 tyX5_ok nmX5 (by decide) q_1_132 rfl rfl rfl rfl dX5_read_7 (fun H locs J => ?_)
  refine lv_aload_n hx hb dX5_read_10 rfl (lv_at hl 0 rfl) ?_
  refine lv_iconst (v := nI 0) hx hb dX5_read_11 (by decide) ?_
  obtain ⟨h3, hv, hM⟩ := e_bs hM
  refine e_putv (C := RX5) (T := TX5) (N := 7) E J hv rfl rfl inX5 tyX5 tyX5_ok nmX5 (by decide) q_1_135 rfl rfl rfl rfl dX5_read_12 (fun H locs J => ?_)
  refine lv_aload_n hx hb dX5_read_15 rfl (lv_at hl 0 rfl) ?_
  refine lv_aload_n hx hb dX5_read_16 rfl (lv_at hl 0 rfl) ?_
  obtain ⟨p4, hv, hM⟩ := e_bs hM
  obtain ⟨fs_, hk, -⟩ := e_bs hv
  refine e_callV (ci := 5) (As := []) (rest := [.ref (e_ad G l0)]) (n := 0) E J hk rfl (mX5_readKey (l := l) (G := G) l0 h3 _ hv) q_3_156 q_3_158 q_p_5 q_1_6 q_3_159 (by decide +kernel) rfl ⟨Nat.le_of_ble_eq_true rfl, Nat.le_of_ble_eq_true rfl⟩ (st0 := [.ref (e_ad G l0), .ref (e_ad G l0)]) (st1 := [.int p4.1, .ref (e_ad G l0)]) rfl rfl hl.1 (Nat.le_of_ble_eq_true rfl) dX5_read_17 ⟨Nat.le_refl _, Nat.le_refl _⟩ (fun H locs J => ?_)
  obtain ⟨h5, hv, hM⟩ := e_bs hM
  refine e_putv (C := RX5) (T := TX5) (N := 7) E J hv rfl rfl inX5 tyX5 tyX5_ok nmX5 (by decide) q_1_134 rfl rfl rfl rfl dX5_read_20 (fun H locs J => ?_)
  refine lv_aload_n hx hb dX5_read_23 rfl (lv_at hl 0 rfl) ?_
  obtain ⟨v6, hv, hM⟩ := e_bs hM
  refine e_getI (C := RX5) (T := TX5) (N := 7) E J hv rfl inX5 (by decide) q_1_134 dX5_read_24 ?_
  refine lv_if_lt (tgt := 54) hx hb dX5_read_27 (by decide) (fun hc => ?_) (fun hc => ?_)
  · have hM := e_ip hc hM
    exact mX5_read_b54 E l0 h5 hM J (lv_sub hl [0] rfl)
  · have hM := e_in hc hM
    refine lv_aload_n hx hb dX5_read_30 rfl (lv_at hl 0 rfl) ?_
    refine lv_aload_n hx hb dX5_read_31 rfl (lv_at hl 0 rfl) ?_
    obtain ⟨v7, hv, hM⟩ := e_bs hM
    refine e_getI (C := RX5) (T := TX5) (N := 7) E J hv rfl inX5 (by decide) q_1_133 dX5_read_32 ?_
    obtain ⟨v8, hv, hM⟩ := e_bs hM
    obtain ⟨fs_, hk, -⟩ := e_bs hv
    refine e_callV (ci := 5) (As := [.int v7]) (rest := []) (n := 1) E J hk rfl (mX5_byteAt (l := l) (G := G) l0 v7 h5 _ hv) q_3_164 q_3_166 q_p_7 q_1_6 q_3_167 (by decide +kernel) rfl ⟨Nat.le_of_ble_eq_true rfl, Nat.le_of_ble_eq_true rfl⟩ (st0 := [.int v7, .ref (e_ad G l0)]) (st1 := [.int v8]) rfl rfl hl.1 (Nat.le_of_ble_eq_true rfl) dX5_read_35 ⟨Nat.le_refl _, Nat.le_refl _⟩ (fun H locs J => ?_)
    obtain ⟨v9, hv, hM⟩ := e_bs hM
    refine e_callS (As := [.int v8]) (rest := []) (n := 1) E J (mX5_isDigit (l := l) (G := G) v8 h5 _ hv) q_3_226 q_3_227 q_1_6 q_3_228 (by decide +kernel) rfl ⟨Nat.le_of_ble_eq_true rfl, Nat.le_of_ble_eq_true rfl⟩ (st0 := [.int v8]) (st1 := [.int (e_b v9)]) rfl rfl hl.1 (Nat.le_of_ble_eq_true rfl) dX5_read_38 ⟨Nat.le_refl _, Nat.le_refl _⟩ (fun H locs J => ?_)
    refine lv_if_ne (tgt := 54) hx hb dX5_read_41 (by decide) (fun hc => ?_) (fun hc => ?_)
    · have hM := e_in hc hM
      exact mX5_read_b54 E l0 h5 hM J (lv_sub hl [0] rfl)
    · have hM := e_ip hc hM
      refine lv_aload_n hx hb dX5_read_44 rfl (lv_at hl 0 rfl) ?_
      refine lv_iconst (v := nI 0) hx hb dX5_read_45 (by decide) ?_
      refine lv_iconst (v := nI 0) hx hb dX5_read_46 (by decide) ?_
      refine lv_iconst (v := nI 0) hx hb dX5_read_47 (by decide) ?_
      obtain ⟨p10, hv, hM⟩ := e_bs hM
      refine e_callS (As := [.ref (e_ad G l0), .int (nI 0), .int (nI 0), .int (nI 0)]) (rest := []) (n := 4) E J (mX5_readLevel (l := l) (G := G) l0 (nI 0) (nI 0) (nI 0) h5 _ hv) q_3_229 q_3_230 q_1_6 q_3_231 (by decide +kernel) rfl ⟨Nat.le_of_ble_eq_true rfl, Nat.le_of_ble_eq_true rfl⟩ (st0 := [.int (nI 0), .int (nI 0), .int (nI 0), .ref (e_ad G l0)]) (st1 := [.int (e_b p10.1)]) rfl rfl hl.1 (Nat.le_of_ble_eq_true rfl) dX5_read_48 ⟨Nat.le_refl _, Nat.le_refl _⟩ (fun H locs J => ?_)
      refine lv_if_ne (tgt := 59) hx hb dX5_read_51 (by decide) (fun hc => ?_) (fun hc => ?_)
      · have hM := e_in hc hM
        refine lv_aload_n hx hb dX5_read_59 rfl (lv_at hl 0 rfl) ?_
        obtain ⟨h11, hv, hM⟩ := e_bs hM
        obtain ⟨fs_, hk, -⟩ := e_bs hv
        refine e_callV (ci := 5) (As := []) (rest := []) (n := 0) E J hk rfl (mX5_skipBlanks (l := l) (G := G) l0 p10.2 _ hv) q_3_160 q_3_162 q_p_6 q_1_6 q_3_163 (by decide +kernel) rfl ⟨Nat.le_of_ble_eq_true rfl, Nat.le_of_ble_eq_true rfl⟩ (st0 := [.ref (e_ad G l0)]) (st1 := []) rfl rfl hl.1 (Nat.le_of_ble_eq_true rfl) dX5_read_60 ⟨Nat.le_refl _, Nat.le_refl _⟩ (fun H locs J => ?_)
        refine lv_aload_n hx hb dX5_read_63 rfl (lv_at hl 0 rfl) ?_
        obtain ⟨v12, hv, hM⟩ := e_bs hM
        refine e_getI (C := RX5) (T := TX5) (N := 7) E J hv rfl inX5 (by decide) q_1_133 dX5_read_64 ?_
        refine lv_aload_n hx hb dX5_read_67 rfl (lv_at hl 0 rfl) ?_
        obtain ⟨v13, hv, hM⟩ := e_bs hM
        refine e_getI (C := RX5) (T := TX5) (N := 7) E J hv rfl inX5 (by decide) q_1_128 dX5_read_68 ?_
        refine lv_icmp_ge (tgt := 81) hx hb dX5_read_71 (by decide) (fun hc => ?_) (fun hc => ?_)
        · have hM := e_ip hc hM
          refine lv_iconst (v := -1) hx hb dX5_read_81 (by decide) ?_
          obtain rfl := e_so hM
          exact e_iret E J dX5_read_82
        · have hM := e_in hc hM
          refine lv_aload_n hx hb dX5_read_74 rfl (lv_at hl 0 rfl) ?_
          obtain ⟨v14, hv, hM⟩ := e_bs hM
          refine e_getI (C := RX5) (T := TX5) (N := 7) E J hv rfl inX5 (by decide) q_1_133 dX5_read_75 ?_
          refine lv_goto (tgt := 82) hx hb dX5_read_78 (by decide) ?_
          obtain rfl := e_so hM
          exact e_iret E J dX5_read_82
      · have hM := e_ip hc hM
        exact mX5_read_b54 E l0 p10.2 hM J (lv_sub hl [0] rfl)
set_option maxRecDepth 100000 in
set_option maxHeartbeats 4000000 in
theorem mJ7_copyOf_59c91 {l : Launch} {G : e_G} (l0 : Nat) (l1 : Int32) (h : e_H) (res : (Option Nat × e_H)) (hM : fJ7_copyOf_59c91 l0 l1 h = some res) : Met l yJ7_copyOf_59c91 (e_W yJ7_copyOf_59c91 cJ7_copyOf_59c91 3 (some (FieldType.array FieldType.int))) (e_rc 1 80 1 96) (e_Pc G h [.ref (e_ad G l0), .int l1]) (e_Q G res.2 (some (e_r G res.1))) 1 96 (e_A G) := by
  refine Met.ofW (cc := cJ7_copyOf_59c91) (maxL := 3) (ret := (some (FieldType.array FieldType.int))) (by decide) rfl ?_
  intro p e s m args below meth c s₁ B hml hv
  obtain ⟨rfl, hS, hP⟩ := hv
  have E := e_enter (own := RJ7) (ret := (some (FieldType.array FieldType.int))) B hml rfl hS hP
  have J : e_J G s h s.heap [] := ⟨hP, va_S.rf⟩
  have hl := lv_entry ([.ref (e_ad G l0), .int l1]) (n := 3) (Nat.le_of_ble_eq_true rfl)
  rw [lg_entry_eq]
  generalize (lg_sl ([.ref (e_ad G l0), .int l1]) ++ List.replicate (3 - (lg_sl ([.ref (e_ad G l0), .int l1])).length) Slot.unset).toArray = ls at hl ⊢
  have hl : lv_has ls 3 [(0, .ref (e_ad G l0)), (1, .int l1)] := hl
  obtain ⟨hx, hb, hr, hml, hown, hts, hlocks, hES, hbs⟩ := id E
  unfold fJ7_copyOf_59c91 at hM
  refine lv_iload_n hx hb dJ7_copyOf_59c91_0 rfl (lv_at hl 1 rfl) ?_
  refine lv_aload_n hx hb dJ7_copyOf_59c91_1 rfl (lv_at hl 0 rfl) ?_
  obtain ⟨v1, hv, hM⟩ := e_bs hM
  refine e_alen E J hv rfl rfl dJ7_copyOf_59c91_2 ?_
  refine lv_icmp_ne (tgt := 14) hx hb dJ7_copyOf_59c91_3 (by decide) (fun hc => ?_) (fun hc => ?_)
  · have hM := e_in hc hM
    refine lv_iload_n hx hb dJ7_copyOf_59c91_14 rfl (lv_at hl 1 rfl) ?_
    obtain ⟨p2, hv, hM⟩ := e_bs hM
    refine e_newA (top := 96) (atype := .int) (ty := .int) E J hv rfl rfl (fun _ => rfl) (fun _ => ⟨_, rfl⟩) (fun h => h) q_1_50 (Nat.le_of_ble_eq_true rfl) (e_rcc (by omega)) (e_rcs (by omega)) dJ7_copyOf_59c91_15 (fun H J => ?_)
    refine lv_astore_n (lv' := [(2, .ref (e_ad G p2.1)), (0, .ref (e_ad G l0)), (1, .int l1)]) hx hb dJ7_copyOf_59c91_17 rfl hl (by decide) rfl (fun ls hl => ?_)
    refine lv_aload_n hx hb dJ7_copyOf_59c91_18 rfl (lv_at hl 1 rfl) ?_
    refine lv_iconst (v := nI 0) hx hb dJ7_copyOf_59c91_19 (by decide) ?_
    refine lv_aload_n hx hb dJ7_copyOf_59c91_20 rfl (lv_at hl 0 rfl) ?_
    refine lv_iconst (v := nI 0) hx hb dJ7_copyOf_59c91_21 (by decide) ?_
    refine lv_aload_n hx hb dJ7_copyOf_59c91_22 rfl (lv_at hl 1 rfl) ?_
    obtain ⟨v3, hv, hM⟩ := e_bs hM
    refine e_alen E J hv rfl rfl dJ7_copyOf_59c91_23 ?_
    refine lv_iload_n hx hb dJ7_copyOf_59c91_24 rfl (lv_at hl 2 rfl) ?_
    refine va_mmin hx hb (hml.trans hl.1.symm) hown (hts _ q_4_99) (hts _ q_2_76) (hts _ q_1_12) (hts _ q_2_77) (Nat.le_of_ble_eq_true rfl) (Nat.le_of_ble_eq_true rfl) (e_rcc (by omega)) (e_rcs (by omega)) dJ7_copyOf_59c91_25 ?_
    obtain ⟨h4, hv, hM⟩ := e_bs hM
    refine e_copy E J hv q_4_100 q_3_131 q_3_130 q_1_13 hl.1 (Nat.le_of_ble_eq_true rfl) (Nat.le_of_ble_eq_true rfl) dJ7_copyOf_59c91_28 (fun H locs J => ?_)
    refine lv_aload_n hx hb dJ7_copyOf_59c91_31 rfl (lv_at hl 0 rfl) ?_
    obtain rfl := e_so hM
    refine W.widen (k := 1) (n := 96) (by omega) (by omega) ?_
    exact e_aretQ E J (Or.inr ⟨_, rfl⟩) dJ7_copyOf_59c91_32
  · have hM := e_ip hc hM
    refine lv_aload_n hx hb dJ7_copyOf_59c91_6 rfl (lv_at hl 0 rfl) ?_
    exact e_no hM
set_option maxRecDepth 100000 in
set_option maxHeartbeats 4000000 in
theorem mX1_init {l : Launch} {G : e_G} (l0 : Nat) (l1 : Int32) (l2 : Int32) (l3 : Nat) (h : e_H) (res : e_H) (hM : fX1_init l0 l1 l2 l3 h = some res) : Met l yX1_init (e_W yX1_init cX1_init 4 none) (e_rc 1 40 0 0) (e_Pc G h [.ref (e_ad G l0), .int l1, .int l2, .ref (e_ad G l3)]) (e_Q G res (none)) 0 0 (e_A G) := by
  refine Met.ofW (cc := cX1_init) (maxL := 4) (ret := none) (by decide) rfl ?_
  intro p e s m args below meth c s₁ B hml hv
  obtain ⟨rfl, hS, hP⟩ := hv
  have E := e_enter (own := RX1) (ret := none) B hml rfl hS hP
  have J : e_J G s h s.heap [] := ⟨hP, va_S.rf⟩
  have hin0 : meth.name = "<init>" := (name_of_methodNamed B.named B.method).1
  have hl := lv_entry ([.ref (e_ad G l0), .int l1, .int l2, .ref (e_ad G l3)]) (n := 4) (Nat.le_of_ble_eq_true rfl)
  rw [lg_entry_eq]
  generalize (lg_sl ([.ref (e_ad G l0), .int l1, .int l2, .ref (e_ad G l3)]) ++ List.replicate (4 - (lg_sl ([.ref (e_ad G l0), .int l1, .int l2, .ref (e_ad G l3)])).length) Slot.unset).toArray = ls at hl ⊢
  have hl : lv_has ls 4 [(0, .ref (e_ad G l0)), (1, .int l1), (2, .int l2), (3, .ref (e_ad G l3))] := hl
  obtain ⟨hx, hb, hr, hml, hown, hts, hlocks, hES, hbs⟩ := id E
  unfold fX1_init at hM
  obtain ⟨fs_, hk_, hM⟩ := e_bs hM
  refine lv_aload_n hx hb dX1_init_0 rfl (lv_at hl 0 rfl) ?_
  refine e_oinit E q_4_104 q_1_25 q_1_26 hl.1 (Nat.le_of_ble_eq_true rfl) (Nat.le_of_ble_eq_true rfl) dX1_init_1 ?_
  refine lv_aload_n hx hb dX1_init_4 rfl (lv_at hl 0 rfl) ?_
  refine lv_iload_n hx hb dX1_init_5 rfl (lv_at hl 1 rfl) ?_
  obtain ⟨h1, hv, hM⟩ := e_bs hM
  refine e_putF (C := RX1) (T := TX1) (N := 3) E J hv rfl rfl inX1 tyX1 tyX1_ok nmX1 (by decide) q_4_105 rfl hin0 rfl rfl rfl rfl dX1_init_6 (fun H locs J => ?_)
  refine lv_aload_n hx hb dX1_init_9 rfl (lv_at hl 0 rfl) ?_
  refine lv_iload_n hx hb dX1_init_10 rfl (lv_at hl 2 rfl) ?_
  obtain ⟨h2, hv, hM⟩ := e_bs hM
  refine e_putF (C := RX1) (T := TX1) (N := 3) E J hv rfl rfl inX1 tyX1 tyX1_ok nmX1 (by decide) q_4_108 rfl hin0 rfl rfl rfl rfl dX1_init_11 (fun H locs J => ?_)
  refine lv_aload_n hx hb dX1_init_14 rfl (lv_at hl 0 rfl) ?_
  refine lv_aload_n hx hb dX1_init_15 rfl (lv_at hl 3 rfl) ?_
  obtain ⟨h3, hv, hM⟩ := e_bs hM
  refine e_putF (C := RX1) (T := TX1) (N := 3) E J hv rfl rfl inX1 tyX1 tyX1_ok nmX1 (by decide) q_4_110 rfl hin0 rfl rfl rfl rfl dX1_init_16 (fun H locs J => ?_)
  obtain rfl := e_so hM
  refine W.widen (k := 0) (n := 0) (by omega) (by omega) ?_
  exact e_vret E J dX1_init_19
set_option maxRecDepth 100000 in
set_option maxHeartbeats 4000000 in
theorem mX5_law {l : Launch} {G : e_G} (l0 : Nat) (h : e_H) (res : (Option Nat × e_H)) (hM : fX5_law l0 h = some res) : Met l yX5_law (e_W yX5_law cX5_law 1 (some (FieldType.object "BentBranches$Law"))) (e_rc 2 102 2 99) (e_Pc G h [.ref (e_ad G l0)]) (e_Q G res.2 (some (e_r G res.1))) 2 99 (e_A G) := by
  refine Met.ofW (cc := cX5_law) (maxL := 1) (ret := (some (FieldType.object "BentBranches$Law"))) (by decide) rfl ?_
  intro p e s m args below meth c s₁ B hml hv
  obtain ⟨rfl, hS, hP⟩ := hv
  have E := e_enter (own := RX5) (ret := (some (FieldType.object "BentBranches$Law"))) B hml rfl hS hP
  have J : e_J G s h s.heap [] := ⟨hP, va_S.rf⟩
  have hl := lv_entry ([.ref (e_ad G l0)]) (n := 1) (Nat.le_of_ble_eq_true rfl)
  rw [lg_entry_eq]
  generalize (lg_sl ([.ref (e_ad G l0)]) ++ List.replicate (1 - (lg_sl ([.ref (e_ad G l0)])).length) Slot.unset).toArray = ls at hl ⊢
  have hl : lv_has ls 1 [(0, .ref (e_ad G l0))] := hl
  obtain ⟨hx, hb, hr, hml, hown, hts, hlocks, hES, hbs⟩ := id E
  unfold fX5_law at hM
  obtain ⟨fs_, hk_, hM⟩ := e_bs hM
  obtain ⟨p1, hv, hM⟩ := e_bs hM
  refine e_new (C := RX1) (T := TX1) (N := 3) E J hv rfl inX1 tyX1 tyX1_ok q_4_86 q_4_87 q_1_11 rfl (by decide +kernel) (e_rcc (by omega)) (e_rcs (by omega)) dX5_law_0 (fun H J => ?_)
  refine lv_dup hx hb dX5_law_3 rfl ?_
  refine lv_aload_n hx hb dX5_law_4 rfl (lv_at hl 0 rfl) ?_
  obtain ⟨v2, hv, hM⟩ := e_bs hM
  refine e_getI (C := RX5) (T := TX5) (N := 7) E J hv rfl inX5 (by decide) q_1_134 dX5_law_5 ?_
  refine lv_aload_n hx hb dX5_law_8 rfl (lv_at hl 0 rfl) ?_
  obtain ⟨v3, hv, hM⟩ := e_bs hM
  refine e_getI (C := RX5) (T := TX5) (N := 7) E J hv rfl inX5 (by decide) q_1_135 dX5_law_9 ?_
  refine lv_aload_n hx hb dX5_law_12 rfl (lv_at hl 0 rfl) ?_
  obtain ⟨v4, hv, hM⟩ := e_bs hM
  refine e_getR (C := RX5) (T := TX5) (N := 7) E J hv rfl inX5 (by decide) q_1_131 dX5_law_13 ?_
  rcases v4 with _ | a5
  · have hM := e_on0 hM
    refine W.eq (g2 := F0 m 16 ls [.null, .int v3, .int v2, .ref (e_ad G p1.1), .ref (e_ad G p1.1)]) rfl ?_
    refine lv_iconst (v := nI 0) hx hb dX5_law_16 (by decide) ?_
    refine lv_aload_n hx hb dX5_law_17 rfl (lv_at hl 0 rfl) ?_
    obtain ⟨v6, hv, hM⟩ := e_bs hM
    refine e_getI (C := RX5) (T := TX5) (N := 7) E J hv rfl inX5 (by decide) q_1_132 dX5_law_18 ?_
    refine va_mmax hx hb (hml.trans hl.1.symm) hown (hts _ q_4_88) (hts _ q_2_79) (hts _ q_1_12) (hts _ q_2_80) (Nat.le_of_ble_eq_true rfl) (Nat.le_of_ble_eq_true rfl) (e_rcc (by omega)) (e_rcs (by omega)) dX5_law_21 ?_
    exact e_no hM
  · have hM := e_on1 hM
    refine W.eq (g2 := F0 m 16 ls [.ref (e_ad G a5), .int v3, .int v2, .ref (e_ad G p1.1), .ref (e_ad G p1.1)]) rfl ?_
    refine lv_iconst (v := nI 0) hx hb dX5_law_16 (by decide) ?_
    refine lv_aload_n hx hb dX5_law_17 rfl (lv_at hl 0 rfl) ?_
    obtain ⟨v7, hv, hM⟩ := e_bs hM
    refine e_getI (C := RX5) (T := TX5) (N := 7) E J hv rfl inX5 (by decide) q_1_132 dX5_law_18 ?_
    refine va_mmax hx hb (hml.trans hl.1.symm) hown (hts _ q_4_88) (hts _ q_2_79) (hts _ q_1_12) (hts _ q_2_80) (Nat.le_of_ble_eq_true rfl) (Nat.le_of_ble_eq_true rfl) (e_rcc (by omega)) (e_rcs (by omega)) dX5_law_21 ?_
    obtain ⟨p8, hv, hM⟩ := e_bs hM
    refine e_callSc (As := [.ref (e_ad G a5), .int (if (nI 0) < v7 then v7 else (nI 0))]) (rest := [.int v3, .int v2, .ref (e_ad G p1.1), .ref (e_ad G p1.1)]) (n := 2) E J (mJ7_copyOf_59c91 (l := l) (G := G) a5 (if (nI 0) < v7 then v7 else (nI 0)) p1.2 _ hv) q_4_89 q_4_90 q_1_10 q_4_91 (by decide +kernel) rfl ⟨Nat.le_of_ble_eq_true rfl, Nat.le_of_ble_eq_true rfl⟩ (st0 := [.int (if (nI 0) < v7 then v7 else (nI 0)), .ref (e_ad G a5), .int v3, .int v2, .ref (e_ad G p1.1), .ref (e_ad G p1.1)]) (st1 := [e_r G p8.1, .int v3, .int v2, .ref (e_ad G p1.1), .ref (e_ad G p1.1)]) rfl rfl hl.1 (Nat.le_of_ble_eq_true rfl) dX5_law_24 ⟨e_rcc (by omega), e_rcs (by omega)⟩ (fun H locs J => ?_)
    obtain ⟨r9, hr9⟩ := p8
    rcases r9 with _ | a10
    · have hM := e_on0 hM
      refine W.eq (g2 := F0 m 27 ls [.null, .int v3, .int v2, .ref (e_ad G p1.1), .ref (e_ad G p1.1)]) rfl ?_
      exact e_no hM
    · have hM := e_on1 hM
      refine W.eq (g2 := F0 m 27 ls [.ref (e_ad G a10), .int v3, .int v2, .ref (e_ad G p1.1), .ref (e_ad G p1.1)]) rfl ?_
      obtain ⟨h11, hv, hM⟩ := e_bs hM
      refine e_callI (As := [.int v2, .int v3, .ref (e_ad G a10)]) (rest := [.ref (e_ad G p1.1)]) (n := 3) E J (mX1_init (l := l) (G := G) p1.1 v2 v3 a10 hr9 _ hv) q_4_101 q_4_102 q_1_11 q_4_103 rfl (by decide +kernel) rfl ⟨Nat.le_of_ble_eq_true rfl, Nat.le_of_ble_eq_true rfl⟩ (st0 := [.ref (e_ad G a10), .int v3, .int v2, .ref (e_ad G p1.1), .ref (e_ad G p1.1)]) rfl hl.1 (Nat.le_of_ble_eq_true rfl) dX5_law_27 ⟨e_rcc (by omega), e_rcs (by omega)⟩ (fun H locs J => ?_)
      obtain rfl := e_so hM
      refine W.widen (k := 2) (n := 99) (by omega) (by omega) ?_
      exact e_aretQ E J (Or.inl ⟨_, rfl⟩) dX5_law_30
set_option maxRecDepth 100000 in
set_option maxHeartbeats 4000000 in
theorem mX7_addLaw {l : Launch} {G : e_G} (l0 : Nat) (l1 : Nat) (h : e_H) (res : (Int32 × e_H)) (hM : fX7_addLaw l0 l1 h = some res) : Met l yX7_addLaw (e_W yX7_addLaw cX7_addLaw 2 (some FieldType.int)) (e_rm 0 0) (e_Pc G h [.ref (e_ad G l0), .ref (e_ad G l1)]) (e_Q G res.2 (some (.int res.1))) 0 0 (e_A G) := by
  refine Met.ofW (cc := cX7_addLaw) (maxL := 2) (ret := (some FieldType.int)) (by decide) rfl ?_
  intro p e s m args below meth c s₁ B hml hv
  obtain ⟨rfl, hS, hP⟩ := hv
  have E := e_enter (own := RX7) (ret := (some FieldType.int)) B hml rfl hS hP
  have J : e_J G s h s.heap [] := ⟨hP, va_S.rf⟩
  have hl := lv_entry ([.ref (e_ad G l0), .ref (e_ad G l1)]) (n := 2) (Nat.le_of_ble_eq_true rfl)
  rw [lg_entry_eq]
  generalize (lg_sl ([.ref (e_ad G l0), .ref (e_ad G l1)]) ++ List.replicate (2 - (lg_sl ([.ref (e_ad G l0), .ref (e_ad G l1)])).length) Slot.unset).toArray = ls at hl ⊢
  have hl : lv_has ls 2 [(0, .ref (e_ad G l0)), (1, .ref (e_ad G l1))] := hl
  obtain ⟨hx, hb, hr, hml, hown, hts, hlocks, hES, hbs⟩ := id E
  unfold fX7_addLaw at hM
  obtain ⟨fs_, hk_, hM⟩ := e_bs hM
  refine lv_aload_n hx hb dX7_addLaw_0 rfl (lv_at hl 0 rfl) ?_
  obtain ⟨v1, hv, hM⟩ := e_bs hM
  refine e_getI (C := RX7) (T := TX7) (N := 6) E J hv rfl inX7 (by decide) q_1_53 dX7_addLaw_1 ?_
  refine lv_if_lt (tgt := 19) hx hb dX7_addLaw_4 (by decide) (fun hc => ?_) (fun hc => ?_)
  · have hM := e_ip hc hM
    refine lv_ldc (v := -1000000003) hx hb hown (hts _ q_4_123) dX7_addLaw_19 ?_
    obtain rfl := e_so hM
    exact e_iret E J dX7_addLaw_21
  · have hM := e_in hc hM
    refine lv_aload_n hx hb dX7_addLaw_7 rfl (lv_at hl 0 rfl) ?_
    obtain ⟨v2, hv, hM⟩ := e_bs hM
    refine e_getI (C := RX7) (T := TX7) (N := 6) E J hv rfl inX7 (by decide) q_1_53 dX7_addLaw_8 ?_
    refine lv_aload_n hx hb dX7_addLaw_11 rfl (lv_at hl 0 rfl) ?_
    obtain ⟨v3, hv, hM⟩ := e_bs hM
    refine e_getR (C := RX7) (T := TX7) (N := 6) E J hv rfl inX7 (by decide) q_1_58 dX7_addLaw_12 ?_
    rcases v3 with _ | a4
    · have hM := e_on0 hM
      refine W.eq (g2 := F0 m 15 ls [.null, .int v2]) rfl ?_
      exact e_no hM
    · have hM := e_on1 hM
      refine W.eq (g2 := F0 m 15 ls [.ref (e_ad G a4), .int v2]) rfl ?_
      obtain ⟨v5, hv, hM⟩ := e_bs hM
      refine e_alen E J hv rfl rfl dX7_addLaw_15 ?_
      refine lv_icmp_lt (tgt := 22) hx hb dX7_addLaw_16 (by decide) (fun hc => ?_) (fun hc => ?_)
      · have hM := e_ip hc hM
        refine lv_aload_n hx hb dX7_addLaw_22 rfl (lv_at hl 0 rfl) ?_
        obtain ⟨v6, hv, hM⟩ := e_bs hM
        refine e_getR (C := RX7) (T := TX7) (N := 6) E J hv rfl inX7 (by decide) q_1_58 dX7_addLaw_23 ?_
        rcases v6 with _ | a7
        · have hM := e_on0 hM
          refine W.eq (g2 := F0 m 26 ls [.null]) rfl ?_
          refine lv_aload_n hx hb dX7_addLaw_26 rfl (lv_at hl 0 rfl) ?_
          obtain ⟨v8, hv, hM⟩ := e_bs hM
          refine e_getI (C := RX7) (T := TX7) (N := 6) E J hv rfl inX7 (by decide) q_1_53 dX7_addLaw_27 ?_
          refine lv_aload_n hx hb dX7_addLaw_30 rfl (lv_at hl 1 rfl) ?_
          exact e_no hM
        · have hM := e_on1 hM
          refine W.eq (g2 := F0 m 26 ls [.ref (e_ad G a7)]) rfl ?_
          refine lv_aload_n hx hb dX7_addLaw_26 rfl (lv_at hl 0 rfl) ?_
          obtain ⟨v10, hv, hM⟩ := e_bs hM
          refine e_getI (C := RX7) (T := TX7) (N := 6) E J hv rfl inX7 (by decide) q_1_53 dX7_addLaw_27 ?_
          refine lv_aload_n hx hb dX7_addLaw_30 rfl (lv_at hl 1 rfl) ?_
          obtain ⟨h11, hv, hM⟩ := e_bs hM
          refine e_aastQ E J hv rfl rfl dX7_addLaw_31 (fun H locs J => ?_)
          refine lv_aload_n hx hb dX7_addLaw_32 rfl (lv_at hl 0 rfl) ?_
          refine lv_dup hx hb dX7_addLaw_33 rfl ?_
          obtain ⟨v12, hv, hM⟩ := e_bs hM
          refine e_getI (C := RX7) (T := TX7) (N := 6) E J hv rfl inX7 (by decide) q_1_53 dX7_addLaw_34 ?_
          refine lv_iconst (v := nI 1) hx hb dX7_addLaw_37 (by decide) ?_
          refine lv_iadd hx hb dX7_addLaw_38 ?_
          obtain ⟨h13, hv, hM⟩ := e_bs hM
          refine e_putv (C := RX7) (T := TX7) (N := 6) E J hv rfl rfl inX7 tyX7 tyX7_ok nmX7 (by decide) q_1_53 rfl rfl rfl rfl dX7_addLaw_39 (fun H locs J => ?_)
          refine lv_aload_n hx hb dX7_addLaw_42 rfl (lv_at hl 0 rfl) ?_
          obtain ⟨v14, hv, hM⟩ := e_bs hM
          refine e_getI (C := RX7) (T := TX7) (N := 6) E J hv rfl inX7 (by decide) q_1_53 dX7_addLaw_43 ?_
          refine lv_iconst (v := nI 1) hx hb dX7_addLaw_46 (by decide) ?_
          refine lv_isub hx hb dX7_addLaw_47 ?_
          obtain rfl := e_so hM
          exact e_iret E J dX7_addLaw_48
      · have hM := e_in hc hM
        refine lv_ldc (v := -1000000003) hx hb hown (hts _ q_4_123) dX7_addLaw_19 ?_
        obtain rfl := e_so hM
        exact e_iret E J dX7_addLaw_21
set_option maxRecDepth 100000 in
set_option maxHeartbeats 4000000 in
theorem mX8_text {l : Launch} {G : e_G} (l0 : Nat) (h : e_H) (res : (Int32 × e_H)) (hM : fX8_text l0 h = some res) : Met l yX8_text (e_W yX8_text cX8_text 2 (some FieldType.int)) (e_rc 307 12174 2 99) (e_Pc G h [.ref (e_ad G l0)]) (e_Q G res.2 (some (.int res.1))) 2 99 (e_A G) := by
  refine Met.ofW (cc := cX8_text) (maxL := 2) (ret := (some FieldType.int)) (by decide) rfl ?_
  intro p e s m args below meth c s₁ B hml hv
  obtain ⟨rfl, hS, hP⟩ := hv
  have E := e_enter (own := RX8) (ret := (some FieldType.int)) B hml rfl hS hP
  have J : e_J G s h s.heap [] := ⟨hP, va_S.rf⟩
  have hl := lv_entry ([.ref (e_ad G l0)]) (n := 2) (Nat.le_of_ble_eq_true rfl)
  rw [lg_entry_eq]
  generalize (lg_sl ([.ref (e_ad G l0)]) ++ List.replicate (2 - (lg_sl ([.ref (e_ad G l0)])).length) Slot.unset).toArray = ls at hl ⊢
  have hl : lv_has ls 2 [(0, .ref (e_ad G l0))] := hl
  obtain ⟨hx, hb, hr, hml, hown, hts, hlocks, hES, hbs⟩ := id E
  unfold fX8_text at hM
  obtain ⟨fs_, hk_, hM⟩ := e_bs hM
  refine lv_aload_n hx hb dX8_text_0 rfl (lv_at hl 0 rfl) ?_
  obtain ⟨v1, hv, hM⟩ := e_bs hM
  refine e_getR (C := RX8) (T := TX8) (N := 10) E J hv rfl inX8 (by decide) q_1_203 dX8_text_1 ?_
  rcases v1 with _ | a2
  · have hM := e_on0 hM
    refine W.eq (g2 := F0 m 4 ls [.null]) rfl ?_
    exact e_no hM
  · have hM := e_on1 hM
    refine W.eq (g2 := F0 m 4 ls [.ref (e_ad G a2)]) rfl ?_
    obtain ⟨p3, hv, hM⟩ := e_bs hM
    obtain ⟨fs_, hk, -⟩ := e_bs hv
    refine e_callV (ci := 5) (As := []) (rest := []) (n := 0) E J hk rfl (mX5_read (l := l) (G := G) a2 h _ hv) q_3_152 q_3_153 q_3_154 q_1_6 q_3_155 (by decide +kernel) rfl ⟨Nat.le_of_ble_eq_true rfl, Nat.le_of_ble_eq_true rfl⟩ (st0 := [.ref (e_ad G a2)]) (st1 := [.int p3.1]) rfl rfl hl.1 (Nat.le_of_ble_eq_true rfl) dX8_text_4 ⟨e_rcc (by omega), e_rcs (by omega)⟩ (fun H locs J => ?_)
    refine lv_istore_n (lv' := [(1, .int p3.1), (0, .ref (e_ad G l0))]) hx hb dX8_text_7 rfl hl (by decide) rfl (fun ls hl => ?_)
    refine lv_aload_n hx hb dX8_text_8 rfl (lv_at hl 1 rfl) ?_
    obtain ⟨v4, hv, hM⟩ := e_bs hM
    refine e_getR (C := RX8) (T := TX8) (N := 10) E J hv rfl inX8 (by decide) q_1_203 dX8_text_9 ?_
    rcases v4 with _ | a5
    · have hM := e_on0 hM
      refine W.eq (g2 := F0 m 12 ls [.null]) rfl ?_
      refine lv_iconst (v := nI 0) hx hb dX8_text_12 (by decide) ?_
      exact e_no hM
    · have hM := e_on1 hM
      refine W.eq (g2 := F0 m 12 ls [.ref (e_ad G a5)]) rfl ?_
      refine lv_iconst (v := nI 0) hx hb dX8_text_12 (by decide) ?_
      obtain ⟨h6, hv, hM⟩ := e_bs hM
      refine e_putv (C := RX5) (T := TX5) (N := 7) E J hv rfl rfl inX5 tyX5 tyX5_ok nmX5 (by decide) q_1_129 rfl rfl rfl rfl dX8_text_13 (fun H locs J => ?_)
      refine lv_iload_n hx hb dX8_text_16 rfl (lv_at hl 0 rfl) ?_
      refine lv_if_lt (tgt := 25) hx hb dX8_text_17 (by decide) (fun hc => ?_) (fun hc => ?_)
      · have hM := e_ip hc hM
        refine lv_aload_n hx hb dX8_text_25 rfl (lv_at hl 1 rfl) ?_
        obtain ⟨v7, hv, hM⟩ := e_bs hM
        refine e_getR (C := RX8) (T := TX8) (N := 10) E J hv rfl inX8 (by decide) q_1_199 dX8_text_26 ?_
        rcases v7 with _ | a8
        · have hM := e_on0 hM
          refine W.eq (g2 := F0 m 29 ls [.null]) rfl ?_
          exact e_no hM
        · have hM := e_on1 hM
          refine W.eq (g2 := F0 m 29 ls [.ref (e_ad G a8)]) rfl ?_
          obtain ⟨v9, hv, hM⟩ := e_bs hM
          refine e_getI (C := RX7) (T := TX7) (N := 6) E J hv rfl inX7 (by decide) q_1_54 dX8_text_29 ?_
          refine lv_bipush (v := nI 14) hx hb dX8_text_32 (by decide) ?_
          refine lv_icmp_lt (tgt := 40) hx hb dX8_text_34 (by decide) (fun hc => ?_) (fun hc => ?_)
          · have hM := e_ip hc hM
            refine lv_aload_n hx hb dX8_text_40 rfl (lv_at hl 1 rfl) ?_
            obtain ⟨v10, hv, hM⟩ := e_bs hM
            refine e_getR (C := RX8) (T := TX8) (N := 10) E J hv rfl inX8 (by decide) q_1_199 dX8_text_41 ?_
            rcases v10 with _ | a11
            · have hM := e_on0 hM
              refine W.eq (g2 := F0 m 44 ls [.null]) rfl ?_
              refine lv_aload_n hx hb dX8_text_44 rfl (lv_at hl 1 rfl) ?_
              obtain ⟨v12, hv, hM⟩ := e_bs hM
              refine e_getR (C := RX8) (T := TX8) (N := 10) E J hv rfl inX8 (by decide) q_1_203 dX8_text_45 ?_
              rcases v12 with _ | a13
              · have hM := e_on0 hM
                refine W.eq (g2 := F0 m 48 ls [.null, .null]) rfl ?_
                exact e_no hM
              · have hM := e_on1 hM
                refine W.eq (g2 := F0 m 48 ls [.ref (e_ad G a13), .null]) rfl ?_
                obtain ⟨p14, hv, hM⟩ := e_bs hM
                obtain ⟨fs_, hk, -⟩ := e_bs hv
                refine e_callVc (ci := 5) (As := []) (rest := [.null]) (n := 0) E J hk rfl (mX5_law (l := l) (G := G) a13 h6 _ hv) q_4_82 q_4_83 q_4_84 q_1_6 q_4_85 (by decide +kernel) rfl ⟨Nat.le_of_ble_eq_true rfl, Nat.le_of_ble_eq_true rfl⟩ (st0 := [.ref (e_ad G a13), .null]) (st1 := [e_r G p14.1, .null]) rfl rfl hl.1 (Nat.le_of_ble_eq_true rfl) dX8_text_48 ⟨e_rcc (by omega), e_rcs (by omega)⟩ (fun H locs J => ?_)
                obtain ⟨r15, hr15⟩ := p14
                rcases r15 with _ | a16
                · have hM := e_on0 hM
                  refine W.eq (g2 := F0 m 51 ls [.null, .null]) rfl ?_
                  exact e_no hM
                · have hM := e_on1 hM
                  refine W.eq (g2 := F0 m 51 ls [.ref (e_ad G a16), .null]) rfl ?_
                  exact e_no hM
            · have hM := e_on1 hM
              refine W.eq (g2 := F0 m 44 ls [.ref (e_ad G a11)]) rfl ?_
              refine lv_aload_n hx hb dX8_text_44 rfl (lv_at hl 1 rfl) ?_
              obtain ⟨v17, hv, hM⟩ := e_bs hM
              refine e_getR (C := RX8) (T := TX8) (N := 10) E J hv rfl inX8 (by decide) q_1_203 dX8_text_45 ?_
              rcases v17 with _ | a18
              · have hM := e_on0 hM
                refine W.eq (g2 := F0 m 48 ls [.null, .ref (e_ad G a11)]) rfl ?_
                exact e_no hM
              · have hM := e_on1 hM
                refine W.eq (g2 := F0 m 48 ls [.ref (e_ad G a18), .ref (e_ad G a11)]) rfl ?_
                obtain ⟨p19, hv, hM⟩ := e_bs hM
                obtain ⟨fs_, hk, -⟩ := e_bs hv
                refine e_callVc (ci := 5) (As := []) (rest := [.ref (e_ad G a11)]) (n := 0) E J hk rfl (mX5_law (l := l) (G := G) a18 h6 _ hv) q_4_82 q_4_83 q_4_84 q_1_6 q_4_85 (by decide +kernel) rfl ⟨Nat.le_of_ble_eq_true rfl, Nat.le_of_ble_eq_true rfl⟩ (st0 := [.ref (e_ad G a18), .ref (e_ad G a11)]) (st1 := [e_r G p19.1, .ref (e_ad G a11)]) rfl rfl hl.1 (Nat.le_of_ble_eq_true rfl) dX8_text_48 ⟨e_rcc (by omega), e_rcs (by omega)⟩ (fun H locs J => ?_)
                obtain ⟨r20, hr20⟩ := p19
                rcases r20 with _ | a21
                · have hM := e_on0 hM
                  refine W.eq (g2 := F0 m 51 ls [.null, .ref (e_ad G a11)]) rfl ?_
                  exact e_no hM
                · have hM := e_on1 hM
                  refine W.eq (g2 := F0 m 51 ls [.ref (e_ad G a21), .ref (e_ad G a11)]) rfl ?_
                  obtain ⟨p22, hv, hM⟩ := e_bs hM
                  obtain ⟨fs_, hk, -⟩ := e_bs hv
                  refine e_callV (ci := 7) (As := [.ref (e_ad G a21)]) (rest := []) (n := 1) E J hk rfl (mX7_addLaw (l := l) (G := G) a11 a21 hr20 _ hv) q_4_119 q_4_120 q_4_121 q_1_2 q_4_122 (by decide +kernel) rfl ⟨Nat.le_of_ble_eq_true rfl, Nat.le_of_ble_eq_true rfl⟩ (st0 := [.ref (e_ad G a21), .ref (e_ad G a11)]) (st1 := [.int p22.1]) rfl rfl hl.1 (Nat.le_of_ble_eq_true rfl) dX8_text_51 ⟨e_rcc (by omega), e_rcs (by omega)⟩ (fun H locs J => ?_)
                  obtain rfl := e_so hM
                  refine W.widen (k := 2) (n := 99) (by omega) (by omega) ?_
                  exact e_iret E J dX8_text_54
          · have hM := e_in hc hM
            refine lv_ldc (v := -1000000003) hx hb hown (hts _ q_2_9) dX8_text_37 ?_
            obtain rfl := e_so hM
            refine W.widen (k := 2) (n := 99) (by omega) (by omega) ?_
            exact e_iret E J dX8_text_39
      · have hM := e_in hc hM
        refine lv_bipush (v := -100) hx hb dX8_text_20 (by decide) ?_
        refine lv_iload_n hx hb dX8_text_22 rfl (lv_at hl 0 rfl) ?_
        refine lv_isub hx hb dX8_text_23 ?_
        obtain rfl := e_so hM
        refine W.widen (k := 2) (n := 99) (by omega) (by omega) ?_
        exact e_iret E J dX8_text_24
set_option maxRecDepth 100000 in
set_option maxHeartbeats 4000000 in
theorem mX8_textTold {l : Launch} {G : e_G} (l0 : Nat) (l1 : Int32) (l2 : Int32) (h : e_H) (res : Int32) (hM : fX8_textTold l0 l1 l2 h = some res) : Met l yX8_textTold (e_W yX8_textTold cX8_textTold 4 (some FieldType.int)) (e_rm 1 21) (e_Pc G h [.ref (e_ad G l0), .int l1, .int l2]) (e_Q G h (some (.int res))) 0 0 (e_A G) := by
  refine Met.ofW (cc := cX8_textTold) (maxL := 4) (ret := (some FieldType.int)) (by decide) rfl ?_
  intro p e s m args below meth c s₁ B hml hv
  obtain ⟨rfl, hS, hP⟩ := hv
  have E := e_enter (own := RX8) (ret := (some FieldType.int)) B hml rfl hS hP
  have J : e_J G s h s.heap [] := ⟨hP, va_S.rf⟩
  have hl := lv_entry ([.ref (e_ad G l0), .int l1, .int l2]) (n := 4) (Nat.le_of_ble_eq_true rfl)
  rw [lg_entry_eq]
  generalize (lg_sl ([.ref (e_ad G l0), .int l1, .int l2]) ++ List.replicate (4 - (lg_sl ([.ref (e_ad G l0), .int l1, .int l2])).length) Slot.unset).toArray = ls at hl ⊢
  have hl : lv_has ls 4 [(0, .ref (e_ad G l0)), (1, .int l1), (2, .int l2)] := hl
  obtain ⟨hx, hb, hr, hml, hown, hts, hlocks, hES, hbs⟩ := id E
  unfold fX8_textTold at hM
  obtain ⟨fs_, hk_, hM⟩ := e_bs hM
  refine lv_aload_n hx hb dX8_textTold_0 rfl (lv_at hl 0 rfl) ?_
  obtain ⟨v1, hv, hM⟩ := e_bs hM
  refine e_getR (C := RX8) (T := TX8) (N := 10) E J hv rfl inX8 (by decide) q_1_199 dX8_textTold_1 ?_
  rcases v1 with _ | a2
  · have hM := e_on0 hM
    refine W.eq (g2 := F0 m 4 ls [.null]) rfl ?_
    refine lv_iload_n hx hb dX8_textTold_4 rfl (lv_at hl 1 rfl) ?_
    exact e_no hM
  · have hM := e_on1 hM
    refine W.eq (g2 := F0 m 4 ls [.ref (e_ad G a2)]) rfl ?_
    refine lv_iload_n hx hb dX8_textTold_4 rfl (lv_at hl 1 rfl) ?_
    obtain ⟨v3, hv, hM⟩ := e_bs hM
    obtain ⟨fs_, hk, -⟩ := e_bs hv
    refine e_callV (ci := 7) (As := [.int l1]) (rest := []) (n := 1) E J hk rfl (mX7_lawAt (l := l) (G := G) a2 l1 h _ hv) q_4_128 q_2_62 q_2_63 q_1_2 q_2_64 (by decide +kernel) rfl ⟨Nat.le_of_ble_eq_true rfl, Nat.le_of_ble_eq_true rfl⟩ (st0 := [.int l1, .ref (e_ad G a2)]) (st1 := [e_r G v3]) rfl rfl hl.1 (Nat.le_of_ble_eq_true rfl) dX8_textTold_5 ⟨Nat.le_refl _, Nat.le_refl _⟩ (fun H locs J => ?_)
    rcases v3 with _ | a4
    · have hM := e_on0 hM
      refine W.eq (g2 := F0 m 8 ls [.null]) rfl ?_
      refine lv_astore_nN (lv' := [(3, .null), (0, .ref (e_ad G l0)), (1, .int l1), (2, .int l2)]) hx hb dX8_textTold_8 rfl hl (by decide) rfl (fun ls hl => ?_)
      refine lv_aload_nN hx hb dX8_textTold_9 rfl (lv_at hl 0 rfl) ?_
      refine lv_ifnullN (tgt := 22) hx hb dX8_textTold_10 (by decide) ?_
      refine lv_ldc (v := -1000000001) hx hb hown (hts _ q_1_237) dX8_textTold_22 ?_
      obtain rfl := e_so hM
      exact e_iret E J dX8_textTold_24
    · have hM := e_on1 hM
      refine W.eq (g2 := F0 m 8 ls [.ref (e_ad G a4)]) rfl ?_
      refine lv_astore_n (lv' := [(3, .ref (e_ad G a4)), (0, .ref (e_ad G l0)), (1, .int l1), (2, .int l2)]) hx hb dX8_textTold_8 rfl hl (by decide) rfl (fun ls hl => ?_)
      refine lv_aload_n hx hb dX8_textTold_9 rfl (lv_at hl 0 rfl) ?_
      refine lv_ifnull hx hb dX8_textTold_10 ?_
      refine lv_iload_n hx hb dX8_textTold_13 rfl (lv_at hl 3 rfl) ?_
      refine lv_if_lt (tgt := 22) hx hb dX8_textTold_14 (by decide) (fun hc => ?_) (fun hc => ?_)
      · have hM := e_ip hc hM
        refine lv_ldc (v := -1000000001) hx hb hown (hts _ q_1_237) dX8_textTold_22 ?_
        obtain rfl := e_so hM
        exact e_iret E J dX8_textTold_24
      · have hM := e_in hc hM
        refine lv_iload_n hx hb dX8_textTold_17 rfl (lv_at hl 3 rfl) ?_
        refine lv_iconst (v := nI 1) hx hb dX8_textTold_18 (by decide) ?_
        refine lv_icmp_le (tgt := 25) hx hb dX8_textTold_19 (by decide) (fun hc => ?_) (fun hc => ?_)
        · have hM := e_ip hc hM
          refine lv_iload_n hx hb dX8_textTold_25 rfl (lv_at hl 3 rfl) ?_
          refine lv_if_ne (tgt := 36) hx hb dX8_textTold_26 (by decide) (fun hc => ?_) (fun hc => ?_)
          · have hM := e_in hc hM
            refine lv_aload_n hx hb dX8_textTold_36 rfl (lv_at hl 0 rfl) ?_
            obtain ⟨v6, hv, hM⟩ := e_bs hM
            refine e_getI (C := RX1) (T := TX1) (N := 3) E J hv rfl inX1 (by decide) q_4_109 dX8_textTold_37 ?_
            obtain rfl := e_so hM
            exact e_iret E J dX8_textTold_40
          · have hM := e_ip hc hM
            refine lv_aload_n hx hb dX8_textTold_29 rfl (lv_at hl 0 rfl) ?_
            obtain ⟨v5, hv, hM⟩ := e_bs hM
            refine e_getI (C := RX1) (T := TX1) (N := 3) E J hv rfl inX1 (by decide) q_4_107 dX8_textTold_30 ?_
            refine lv_goto (tgt := 40) hx hb dX8_textTold_33 (by decide) ?_
            obtain rfl := e_so hM
            exact e_iret E J dX8_textTold_40
        · have hM := e_in hc hM
          refine lv_ldc (v := -1000000001) hx hb hown (hts _ q_1_237) dX8_textTold_22 ?_
          obtain rfl := e_so hM
          exact e_iret E J dX8_textTold_24
set_option maxRecDepth 100000 in
set_option maxHeartbeats 4000000 in
theorem mX8_why {l : Launch} {G : e_G} (l0 : Nat) (l1 : Int32) (h : e_H) (res : Int32) (hM : fX8_why l0 l1 h = some res) : Met l yX8_why (e_W yX8_why cX8_why 3 (some FieldType.int)) (e_rm 2 44) (e_Pc G h [.ref (e_ad G l0), .int l1]) (e_Q G h (some (.int res))) 0 0 (e_A G) := by
  refine Met.ofW (cc := cX8_why) (maxL := 3) (ret := (some FieldType.int)) (by decide) rfl ?_
  intro p e s m args below meth c s₁ B hml hv
  obtain ⟨rfl, hS, hP⟩ := hv
  have E := e_enter (own := RX8) (ret := (some FieldType.int)) B hml rfl hS hP
  have J : e_J G s h s.heap [] := ⟨hP, va_S.rf⟩
  have hl := lv_entry ([.ref (e_ad G l0), .int l1]) (n := 3) (Nat.le_of_ble_eq_true rfl)
  rw [lg_entry_eq]
  generalize (lg_sl ([.ref (e_ad G l0), .int l1]) ++ List.replicate (3 - (lg_sl ([.ref (e_ad G l0), .int l1])).length) Slot.unset).toArray = ls at hl ⊢
  have hl : lv_has ls 3 [(0, .ref (e_ad G l0)), (1, .int l1)] := hl
  obtain ⟨hx, hb, hr, hml, hown, hts, hlocks, hES, hbs⟩ := id E
  unfold fX8_why at hM
  obtain ⟨fs_, hk_, hM⟩ := e_bs hM
  refine lv_iload_n hx hb dX8_why_0 rfl (lv_at hl 1 rfl) ?_
  refine lv_if_lt (tgt := 9) hx hb dX8_why_1 (by decide) (fun hc => ?_) (fun hc => ?_)
  · have hM := e_ip hc hM
    refine lv_ldc (v := -1000000001) hx hb hown (hts _ q_1_237) dX8_why_9 ?_
    obtain rfl := e_so hM
    exact e_iret E J dX8_why_11
  · have hM := e_in hc hM
    refine lv_iload_n hx hb dX8_why_4 rfl (lv_at hl 1 rfl) ?_
    refine lv_iconst (v := nI 2) hx hb dX8_why_5 (by decide) ?_
    refine lv_icmp_le (tgt := 12) hx hb dX8_why_6 (by decide) (fun hc => ?_) (fun hc => ?_)
    · have hM := e_ip hc hM
      refine lv_aload_n hx hb dX8_why_12 rfl (lv_at hl 0 rfl) ?_
      obtain ⟨v1, hv, hM⟩ := e_bs hM
      refine e_getR (C := RX8) (T := TX8) (N := 10) E J hv rfl inX8 (by decide) q_1_199 dX8_why_13 ?_
      rcases v1 with _ | a2
      · have hM := e_on0 hM
        refine W.eq (g2 := F0 m 16 ls [.null]) rfl ?_
        refine lv_iload_n hx hb dX8_why_16 rfl (lv_at hl 1 rfl) ?_
        exact e_no hM
      · have hM := e_on1 hM
        refine W.eq (g2 := F0 m 16 ls [.ref (e_ad G a2)]) rfl ?_
        refine lv_iload_n hx hb dX8_why_16 rfl (lv_at hl 1 rfl) ?_
        obtain ⟨v3, hv, hM⟩ := e_bs hM
        obtain ⟨fs_, hk, -⟩ := e_bs hv
        refine e_callV (ci := 7) (As := [.int l1]) (rest := []) (n := 1) E J hk rfl (mX7_lastLawOf (l := l) (G := G) a2 l1 h _ hv) q_4_133 q_2_58 q_2_59 q_1_2 q_2_60 (by decide +kernel) rfl ⟨Nat.le_of_ble_eq_true rfl, Nat.le_of_ble_eq_true rfl⟩ (st0 := [.int l1, .ref (e_ad G a2)]) (st1 := [.int v3]) rfl rfl hl.1 (Nat.le_of_ble_eq_true rfl) dX8_why_17 ⟨Nat.le_refl _, Nat.le_refl _⟩ (fun H locs J => ?_)
        refine lv_istore_n (lv' := [(2, .int v3), (0, .ref (e_ad G l0)), (1, .int l1)]) hx hb dX8_why_20 rfl hl (by decide) rfl (fun ls hl => ?_)
        refine lv_iload_n hx hb dX8_why_21 rfl (lv_at hl 0 rfl) ?_
        refine lv_if_ge (tgt := 30) hx hb dX8_why_22 (by decide) (fun hc => ?_) (fun hc => ?_)
        · have hM := e_ip hc hM
          refine lv_iload_n hx hb dX8_why_30 rfl (lv_at hl 0 rfl) ?_
          obtain rfl := e_so hM
          exact e_iret E J dX8_why_31
        · have hM := e_in hc hM
          refine lv_ldc (v := -1000000005) hx hb hown (hts _ q_3_48) dX8_why_25 ?_
          refine lv_goto (tgt := 31) hx hb dX8_why_27 (by decide) ?_
          obtain rfl := e_so hM
          exact e_iret E J dX8_why_31
    · have hM := e_in hc hM
      refine lv_ldc (v := -1000000001) hx hb hown (hts _ q_1_237) dX8_why_9 ?_
      obtain rfl := e_so hM
      exact e_iret E J dX8_why_11
set_option maxRecDepth 100000 in
set_option maxHeartbeats 4000000 in
theorem mX8_sheetOf {l : Launch} {G : e_G} (l0 : Nat) (l1 : Int32) (h : e_H) (res : (Option Nat)) (hM : fX8_sheetOf l0 l1 h = some res) : Met l yX8_sheetOf (e_W yX8_sheetOf cX8_sheetOf 2 (some (FieldType.object "BentBranches$Row"))) (e_rm 0 0) (e_Pc G h [.ref (e_ad G l0), .int l1]) (e_Q G h (some (e_r G res))) 0 0 (e_A G) := by
  refine Met.ofW (cc := cX8_sheetOf) (maxL := 2) (ret := (some (FieldType.object "BentBranches$Row"))) (by decide) rfl ?_
  intro p e s m args below meth c s₁ B hml hv
  obtain ⟨rfl, hS, hP⟩ := hv
  have E := e_enter (own := RX8) (ret := (some (FieldType.object "BentBranches$Row"))) B hml rfl hS hP
  have J : e_J G s h s.heap [] := ⟨hP, va_S.rf⟩
  have hl := lv_entry ([.ref (e_ad G l0), .int l1]) (n := 2) (Nat.le_of_ble_eq_true rfl)
  rw [lg_entry_eq]
  generalize (lg_sl ([.ref (e_ad G l0), .int l1]) ++ List.replicate (2 - (lg_sl ([.ref (e_ad G l0), .int l1])).length) Slot.unset).toArray = ls at hl ⊢
  have hl : lv_has ls 2 [(0, .ref (e_ad G l0)), (1, .int l1)] := hl
  obtain ⟨hx, hb, hr, hml, hown, hts, hlocks, hES, hbs⟩ := id E
  unfold fX8_sheetOf at hM
  obtain ⟨fs_, hk_, hM⟩ := e_bs hM
  refine lv_iload_n hx hb dX8_sheetOf_0 rfl (lv_at hl 1 rfl) ?_
  refine lv_if_lt (tgt := 13) hx hb dX8_sheetOf_1 (by decide) (fun hc => ?_) (fun hc => ?_)
  · have hM := e_ip hc hM
    refine lv_null hx hb dX8_sheetOf_13 ?_
    refine lv_goto (tgt := 23) hx hb dX8_sheetOf_14 (by decide) ?_
    obtain rfl := e_so hM
    exact e_aretN E J (Or.inl ⟨_, rfl⟩) dX8_sheetOf_23
  · have hM := e_in hc hM
    refine lv_iload_n hx hb dX8_sheetOf_4 rfl (lv_at hl 1 rfl) ?_
    refine lv_aload_n hx hb dX8_sheetOf_5 rfl (lv_at hl 0 rfl) ?_
    obtain ⟨v1, hv, hM⟩ := e_bs hM
    refine e_getR (C := RX8) (T := TX8) (N := 10) E J hv rfl inX8 (by decide) q_1_204 dX8_sheetOf_6 ?_
    rcases v1 with _ | a2
    · have hM := e_on0 hM
      refine W.eq (g2 := F0 m 9 ls [.null, .int l1]) rfl ?_
      exact e_no hM
    · have hM := e_on1 hM
      refine W.eq (g2 := F0 m 9 ls [.ref (e_ad G a2), .int l1]) rfl ?_
      obtain ⟨v3, hv, hM⟩ := e_bs hM
      refine e_alen E J hv rfl rfl dX8_sheetOf_9 ?_
      refine lv_icmp_lt (tgt := 17) hx hb dX8_sheetOf_10 (by decide) (fun hc => ?_) (fun hc => ?_)
      · have hM := e_ip hc hM
        refine lv_aload_n hx hb dX8_sheetOf_17 rfl (lv_at hl 0 rfl) ?_
        obtain ⟨v4, hv, hM⟩ := e_bs hM
        refine e_getR (C := RX8) (T := TX8) (N := 10) E J hv rfl inX8 (by decide) q_1_204 dX8_sheetOf_18 ?_
        rcases v4 with _ | a5
        · have hM := e_on0 hM
          refine W.eq (g2 := F0 m 21 ls [.null]) rfl ?_
          refine lv_iload_n hx hb dX8_sheetOf_21 rfl (lv_at hl 1 rfl) ?_
          exact e_no hM
        · have hM := e_on1 hM
          refine W.eq (g2 := F0 m 21 ls [.ref (e_ad G a5)]) rfl ?_
          refine lv_iload_n hx hb dX8_sheetOf_21 rfl (lv_at hl 1 rfl) ?_
          obtain ⟨v7, hv, hM⟩ := e_bs hM
          refine e_aald E J hv rfl dX8_sheetOf_22 ?_
          rcases v7 with _ | a8
          · have hM := e_on0 hM
            refine W.eq (g2 := F0 m 23 ls [.null]) rfl ?_
            obtain rfl := e_so hM
            exact e_aretN E J (Or.inl ⟨_, rfl⟩) dX8_sheetOf_23
          · have hM := e_on1 hM
            refine W.eq (g2 := F0 m 23 ls [.ref (e_ad G a8)]) rfl ?_
            obtain rfl := e_so hM
            exact e_aretQ E J (Or.inl ⟨_, rfl⟩) dX8_sheetOf_23
      · have hM := e_in hc hM
        refine lv_null hx hb dX8_sheetOf_13 ?_
        refine lv_goto (tgt := 23) hx hb dX8_sheetOf_14 (by decide) ?_
        obtain rfl := e_so hM
        exact e_aretN E J (Or.inl ⟨_, rfl⟩) dX8_sheetOf_23
set_option maxRecDepth 100000 in
set_option maxHeartbeats 4000000 in
theorem mX2_becomesEmpty {l : Launch} {G : e_G} (l0 : Nat) (l1 : Int32) (l2 : Int32) (h : e_H) (res : e_H) (hM : fX2_becomesEmpty l0 l1 l2 h = some res) : Met l yX2_becomesEmpty (e_W yX2_becomesEmpty cX2_becomesEmpty 3 none) (e_rm 1 23) (e_Pc G h [.ref (e_ad G l0), .int l1, .int l2]) (e_Q G res (none)) 0 0 (e_A G) := by
  refine Met.ofW (cc := cX2_becomesEmpty) (maxL := 3) (ret := none) (by decide) rfl ?_
  intro p e s m args below meth c s₁ B hml hv
  obtain ⟨rfl, hS, hP⟩ := hv
  have E := e_enter (own := RX2) (ret := none) B hml rfl hS hP
  have J : e_J G s h s.heap [] := ⟨hP, va_S.rf⟩
  have hl := lv_entry ([.ref (e_ad G l0), .int l1, .int l2]) (n := 3) (Nat.le_of_ble_eq_true rfl)
  rw [lg_entry_eq]
  generalize (lg_sl ([.ref (e_ad G l0), .int l1, .int l2]) ++ List.replicate (3 - (lg_sl ([.ref (e_ad G l0), .int l1, .int l2])).length) Slot.unset).toArray = ls at hl ⊢
  have hl : lv_has ls 3 [(0, .ref (e_ad G l0)), (1, .int l1), (2, .int l2)] := hl
  obtain ⟨hx, hb, hr, hml, hown, hts, hlocks, hES, hbs⟩ := id E
  unfold fX2_becomesEmpty at hM
  obtain ⟨fs_, hk_, hM⟩ := e_bs hM
  refine lv_aload_n hx hb dX2_becomesEmpty_0 rfl (lv_at hl 0 rfl) ?_
  refine lv_iload_n hx hb dX2_becomesEmpty_1 rfl (lv_at hl 1 rfl) ?_
  obtain ⟨h1, hv, hM⟩ := e_bs hM
  refine e_putv (C := RX2) (T := TX2) (N := 3) E J hv rfl rfl inX2 tyX2 tyX2_ok nmX2 (by decide) q_1_160 rfl rfl rfl rfl dX2_becomesEmpty_2 (fun H locs J => ?_)
  refine lv_aload_n hx hb dX2_becomesEmpty_5 rfl (lv_at hl 0 rfl) ?_
  refine lv_iload_n hx hb dX2_becomesEmpty_6 rfl (lv_at hl 2 rfl) ?_
  obtain ⟨h2, hv, hM⟩ := e_bs hM
  refine e_putv (C := RX2) (T := TX2) (N := 3) E J hv rfl rfl inX2 tyX2 tyX2_ok nmX2 (by decide) q_1_162 rfl rfl rfl rfl dX2_becomesEmpty_7 (fun H locs J => ?_)
  refine lv_aload_n hx hb dX2_becomesEmpty_10 rfl (lv_at hl 0 rfl) ?_
  obtain ⟨v3, hv, hM⟩ := e_bs hM
  refine e_getR (C := RX2) (T := TX2) (N := 3) E J hv rfl inX2 (by decide) q_1_164 dX2_becomesEmpty_11 ?_
  rcases v3 with _ | a4
  · have hM := e_on0 hM
    refine W.eq (g2 := F0 m 14 ls [.null]) rfl ?_
    refine lv_iconst (v := nI 0) hx hb dX2_becomesEmpty_14 (by decide) ?_
    exact e_no hM
  · have hM := e_on1 hM
    refine W.eq (g2 := F0 m 14 ls [.ref (e_ad G a4)]) rfl ?_
    refine lv_iconst (v := nI 0) hx hb dX2_becomesEmpty_14 (by decide) ?_
    obtain ⟨h5, hv, hM⟩ := e_bs hM
    refine e_callS (As := [.ref (e_ad G a4), .int (nI 0)]) (rest := []) (n := 2) E J (mJ7_fill_53178 (l := l) (G := G) a4 (nI 0) h2 _ hv) q_4_146 q_2_7 q_1_10 q_2_8 (by decide +kernel) rfl ⟨Nat.le_of_ble_eq_true rfl, Nat.le_of_ble_eq_true rfl⟩ (st0 := [.int (nI 0), .ref (e_ad G a4)]) (st1 := []) rfl rfl hl.1 (Nat.le_of_ble_eq_true rfl) dX2_becomesEmpty_15 ⟨Nat.le_refl _, Nat.le_refl _⟩ (fun H locs J => ?_)
    obtain rfl := e_so hM
    exact e_vret E J dX2_becomesEmpty_18
set_option maxRecDepth 100000 in
set_option maxHeartbeats 4000000 in
theorem mX8_sheet {l : Launch} {G : e_G} (l0 : Nat) (l1 : Int32) (l2 : Int32) (l3 : Int32) (h : e_H) (res : (Int32 × e_H)) (hM : fX8_sheet l0 l1 l2 l3 h = some res) : Met l yX8_sheet (e_W yX8_sheet cX8_sheet 5 (some FieldType.int)) (e_rm 2 45) (e_Pc G h [.ref (e_ad G l0), .int l1, .int l2, .int l3]) (e_Q G res.2 (some (.int res.1))) 0 0 (e_A G) := by
  refine Met.ofW (cc := cX8_sheet) (maxL := 5) (ret := (some FieldType.int)) (by decide) rfl ?_
  intro p e s m args below meth c s₁ B hml hv
  obtain ⟨rfl, hS, hP⟩ := hv
  have E := e_enter (own := RX8) (ret := (some FieldType.int)) B hml rfl hS hP
  have J : e_J G s h s.heap [] := ⟨hP, va_S.rf⟩
  have hl := lv_entry ([.ref (e_ad G l0), .int l1, .int l2, .int l3]) (n := 5) (Nat.le_of_ble_eq_true rfl)
  rw [lg_entry_eq]
  generalize (lg_sl ([.ref (e_ad G l0), .int l1, .int l2, .int l3]) ++ List.replicate (5 - (lg_sl ([.ref (e_ad G l0), .int l1, .int l2, .int l3])).length) Slot.unset).toArray = ls at hl ⊢
  have hl : lv_has ls 5 [(0, .ref (e_ad G l0)), (1, .int l1), (2, .int l2), (3, .int l3)] := hl
  obtain ⟨hx, hb, hr, hml, hown, hts, hlocks, hES, hbs⟩ := id E
  unfold fX8_sheet at hM
  obtain ⟨fs_, hk_, hM⟩ := e_bs hM
  refine lv_aload_n hx hb dX8_sheet_0 rfl (lv_at hl 0 rfl) ?_
  refine lv_iload_n hx hb dX8_sheet_1 rfl (lv_at hl 1 rfl) ?_
  obtain ⟨v1, hv, hM⟩ := e_bs hM
  obtain ⟨fs_, hk, -⟩ := e_bs hv
  refine e_callV (ci := 8) (As := [.int l1]) (rest := []) (n := 1) E J hk rfl (mX8_sheetOf (l := l) (G := G) l0 l1 h _ hv) q_4_138 q_4_140 q_p_13 q_1_1 q_4_141 (by decide +kernel) rfl ⟨Nat.le_of_ble_eq_true rfl, Nat.le_of_ble_eq_true rfl⟩ (st0 := [.int l1, .ref (e_ad G l0)]) (st1 := [e_r G v1]) rfl rfl hl.1 (Nat.le_of_ble_eq_true rfl) dX8_sheet_2 ⟨Nat.le_refl _, Nat.le_refl _⟩ (fun H locs J => ?_)
  rcases v1 with _ | a2
  · have hM := e_on0 hM
    refine W.eq (g2 := F0 m 5 ls [.null]) rfl ?_
    refine lv_astoreN (lv' := [(4, .null), (0, .ref (e_ad G l0)), (1, .int l1), (2, .int l2), (3, .int l3)]) hx hb dX8_sheet_5 hl (by decide) rfl (fun ls hl => ?_)
    refine lv_aloadN hx hb dX8_sheet_7 (lv_at hl 0 rfl) ?_
    refine lv_ifnullN (tgt := 22) hx hb dX8_sheet_9 (by decide) ?_
    refine lv_ldc (v := -1000000001) hx hb hown (hts _ q_1_237) dX8_sheet_22 ?_
    obtain rfl := e_so hM
    exact e_iret E J dX8_sheet_24
  · have hM := e_on1 hM
    refine W.eq (g2 := F0 m 5 ls [.ref (e_ad G a2)]) rfl ?_
    refine lv_astore (lv' := [(4, .ref (e_ad G a2)), (0, .ref (e_ad G l0)), (1, .int l1), (2, .int l2), (3, .int l3)]) hx hb dX8_sheet_5 hl (by decide) rfl (fun ls hl => ?_)
    refine lv_aload hx hb dX8_sheet_7 (lv_at hl 0 rfl) ?_
    refine lv_ifnull hx hb dX8_sheet_9 ?_
    refine lv_iload_n hx hb dX8_sheet_12 rfl (lv_at hl 3 rfl) ?_
    refine lv_iconst (v := -1) hx hb dX8_sheet_13 (by decide) ?_
    refine lv_icmp_lt (tgt := 22) hx hb dX8_sheet_14 (by decide) (fun hc => ?_) (fun hc => ?_)
    · have hM := e_ip hc hM
      refine lv_ldc (v := -1000000001) hx hb hown (hts _ q_1_237) dX8_sheet_22 ?_
      obtain rfl := e_so hM
      exact e_iret E J dX8_sheet_24
    · have hM := e_in hc hM
      refine lv_iload_n hx hb dX8_sheet_17 rfl (lv_at hl 3 rfl) ?_
      refine lv_iconst (v := nI 1) hx hb dX8_sheet_18 (by decide) ?_
      refine lv_icmp_le (tgt := 25) hx hb dX8_sheet_19 (by decide) (fun hc => ?_) (fun hc => ?_)
      · have hM := e_ip hc hM
        refine lv_iload_n hx hb dX8_sheet_25 rfl (lv_at hl 3 rfl) ?_
        refine lv_iconst (v := -1) hx hb dX8_sheet_26 (by decide) ?_
        refine lv_icmp_ne (tgt := 39) hx hb dX8_sheet_27 (by decide) (fun hc => ?_) (fun hc => ?_)
        · have hM := e_in hc hM
          refine lv_iload_n hx hb dX8_sheet_39 rfl (lv_at hl 4 rfl) ?_
          refine lv_bipush (v := nI 24) hx hb dX8_sheet_40 (by decide) ?_
          refine lv_icmp_le (tgt := 48) hx hb dX8_sheet_42 (by decide) (fun hc => ?_) (fun hc => ?_)
          · have hM := e_ip hc hM
            refine lv_iload_n hx hb dX8_sheet_48 rfl (lv_at hl 4 rfl) ?_
            refine lv_if_ge (tgt := 56) hx hb dX8_sheet_49 (by decide) (fun hc => ?_) (fun hc => ?_)
            · have hM := e_ip hc hM
              refine lv_aload hx hb dX8_sheet_56 (lv_at hl 0 rfl) ?_
              refine lv_iload_n hx hb dX8_sheet_58 rfl (lv_at hl 3 rfl) ?_
              refine lv_iload_n hx hb dX8_sheet_59 rfl (lv_at hl 4 rfl) ?_
              obtain ⟨h4, hv, hM⟩ := e_bs hM
              obtain ⟨fs_, hk, -⟩ := e_bs hv
              refine e_callV (ci := 2) (As := [.int l2, .int l3]) (rest := []) (n := 2) E J hk rfl (mX2_becomesEmpty (l := l) (G := G) a2 l2 l3 h _ hv) q_4_142 q_4_143 q_4_144 q_1_7 q_4_145 (by decide +kernel) rfl ⟨Nat.le_of_ble_eq_true rfl, Nat.le_of_ble_eq_true rfl⟩ (st0 := [.int l3, .int l2, .ref (e_ad G a2)]) (st1 := []) rfl rfl hl.1 (Nat.le_of_ble_eq_true rfl) dX8_sheet_60 ⟨Nat.le_refl _, Nat.le_refl _⟩ (fun H locs J => ?_)
              refine lv_iload_n hx hb dX8_sheet_63 rfl (lv_at hl 4 rfl) ?_
              obtain rfl := e_so hM
              exact e_iret E J dX8_sheet_64
            · have hM := e_in hc hM
              refine lv_ldcw (v := -1000000014) hx hb hown (hts _ q_4_147) dX8_sheet_52 ?_
              obtain rfl := e_so hM
              exact e_iret E J dX8_sheet_55
          · have hM := e_in hc hM
            refine lv_ldc (v := -1000000001) hx hb hown (hts _ q_1_237) dX8_sheet_45 ?_
            obtain rfl := e_so hM
            exact e_iret E J dX8_sheet_47
        · have hM := e_ip hc hM
          refine lv_aload hx hb dX8_sheet_30 (lv_at hl 0 rfl) ?_
          refine lv_iconst (v := -1) hx hb dX8_sheet_32 (by decide) ?_
          refine lv_iconst (v := nI 0) hx hb dX8_sheet_33 (by decide) ?_
          obtain ⟨h3, hv, hM⟩ := e_bs hM
          obtain ⟨fs_, hk, -⟩ := e_bs hv
          refine e_callV (ci := 2) (As := [.int (-1 : Int32), .int (nI 0)]) (rest := []) (n := 2) E J hk rfl (mX2_becomesEmpty (l := l) (G := G) a2 (-1 : Int32) (nI 0) h _ hv) q_4_142 q_4_143 q_4_144 q_1_7 q_4_145 (by decide +kernel) rfl ⟨Nat.le_of_ble_eq_true rfl, Nat.le_of_ble_eq_true rfl⟩ (st0 := [.int (nI 0), .int (-1 : Int32), .ref (e_ad G a2)]) (st1 := []) rfl rfl hl.1 (Nat.le_of_ble_eq_true rfl) dX8_sheet_34 ⟨Nat.le_refl _, Nat.le_refl _⟩ (fun H locs J => ?_)
          refine lv_iconst (v := nI 0) hx hb dX8_sheet_37 (by decide) ?_
          obtain rfl := e_so hM
          exact e_iret E J dX8_sheet_38
      · have hM := e_in hc hM
        refine lv_ldc (v := -1000000001) hx hb hown (hts _ q_1_237) dX8_sheet_22 ?_
        obtain rfl := e_so hM
        exact e_iret E J dX8_sheet_24
set_option maxRecDepth 100000 in
set_option maxHeartbeats 4000000 in
theorem mX2_hasPlace {l : Launch} {G : e_G} (l0 : Nat) (l1 : Int32) (h : e_H) (res : Bool) (hM : fX2_hasPlace l0 l1 h = some res) : Met l yX2_hasPlace (e_W yX2_hasPlace cX2_hasPlace 2 (some FieldType.boolean)) (e_rm 0 0) (e_Pc G h [.ref (e_ad G l0), .int l1]) (e_Q G h (some (.int (e_b res)))) 0 0 (e_A G) := by
  refine Met.ofW (cc := cX2_hasPlace) (maxL := 2) (ret := (some FieldType.boolean)) (by decide) rfl ?_
  intro p e s m args below meth c s₁ B hml hv
  obtain ⟨rfl, hS, hP⟩ := hv
  have E := e_enter (own := RX2) (ret := (some FieldType.boolean)) B hml rfl hS hP
  have J : e_J G s h s.heap [] := ⟨hP, va_S.rf⟩
  have hl := lv_entry ([.ref (e_ad G l0), .int l1]) (n := 2) (Nat.le_of_ble_eq_true rfl)
  rw [lg_entry_eq]
  generalize (lg_sl ([.ref (e_ad G l0), .int l1]) ++ List.replicate (2 - (lg_sl ([.ref (e_ad G l0), .int l1])).length) Slot.unset).toArray = ls at hl ⊢
  have hl : lv_has ls 2 [(0, .ref (e_ad G l0)), (1, .int l1)] := hl
  obtain ⟨hx, hb, hr, hml, hown, hts, hlocks, hES, hbs⟩ := id E
  unfold fX2_hasPlace at hM
  obtain ⟨fs_, hk_, hM⟩ := e_bs hM
  refine lv_iload_n hx hb dX2_hasPlace_0 rfl (lv_at hl 1 rfl) ?_
  refine lv_if_lt (tgt := 25) hx hb dX2_hasPlace_1 (by decide) (fun hc => ?_) (fun hc => ?_)
  · have hM := e_ip hc hM
    refine lv_iconst (v := nI 0) hx hb dX2_hasPlace_25 (by decide) ?_
    obtain rfl := e_so hM
    exact e_zret E J (false) rfl dX2_hasPlace_26
  · have hM := e_in hc hM
    refine lv_iload_n hx hb dX2_hasPlace_4 rfl (lv_at hl 1 rfl) ?_
    refine lv_aload_n hx hb dX2_hasPlace_5 rfl (lv_at hl 0 rfl) ?_
    obtain ⟨v1, hv, hM⟩ := e_bs hM
    refine e_getI (C := RX2) (T := TX2) (N := 3) E J hv rfl inX2 (by decide) q_1_162 dX2_hasPlace_6 ?_
    refine lv_icmp_ge (tgt := 25) hx hb dX2_hasPlace_9 (by decide) (fun hc => ?_) (fun hc => ?_)
    · have hM := e_ip hc hM
      refine lv_iconst (v := nI 0) hx hb dX2_hasPlace_25 (by decide) ?_
      obtain rfl := e_so hM
      exact e_zret E J (false) rfl dX2_hasPlace_26
    · have hM := e_in hc hM
      refine lv_iload_n hx hb dX2_hasPlace_12 rfl (lv_at hl 1 rfl) ?_
      refine lv_aload_n hx hb dX2_hasPlace_13 rfl (lv_at hl 0 rfl) ?_
      obtain ⟨v2, hv, hM⟩ := e_bs hM
      refine e_getR (C := RX2) (T := TX2) (N := 3) E J hv rfl inX2 (by decide) q_1_164 dX2_hasPlace_14 ?_
      rcases v2 with _ | a3
      · have hM := e_on0 hM
        refine W.eq (g2 := F0 m 17 ls [.null, .int l1]) rfl ?_
        exact e_no hM
      · have hM := e_on1 hM
        refine W.eq (g2 := F0 m 17 ls [.ref (e_ad G a3), .int l1]) rfl ?_
        obtain ⟨v4, hv, hM⟩ := e_bs hM
        refine e_alen E J hv rfl rfl dX2_hasPlace_17 ?_
        refine lv_icmp_ge (tgt := 25) hx hb dX2_hasPlace_18 (by decide) (fun hc => ?_) (fun hc => ?_)
        · have hM := e_ip hc hM
          refine lv_iconst (v := nI 0) hx hb dX2_hasPlace_25 (by decide) ?_
          obtain rfl := e_so hM
          exact e_zret E J (false) rfl dX2_hasPlace_26
        · have hM := e_in hc hM
          refine lv_iconst (v := nI 1) hx hb dX2_hasPlace_21 (by decide) ?_
          refine lv_goto (tgt := 26) hx hb dX2_hasPlace_22 (by decide) ?_
          obtain rfl := e_so hM
          exact e_zret E J (true) rfl dX2_hasPlace_26
set_option maxRecDepth 100000 in
set_option maxHeartbeats 4000000 in
theorem mX2_setPlace {l : Launch} {G : e_G} (l0 : Nat) (l1 : Int32) (l2 : Int32) (h : e_H) (res : e_H) (hM : fX2_setPlace l0 l1 l2 h = some res) : Met l yX2_setPlace (e_W yX2_setPlace cX2_setPlace 3 none) (e_rm 1 21) (e_Pc G h [.ref (e_ad G l0), .int l1, .int l2]) (e_Q G res (none)) 0 0 (e_A G) := by
  refine Met.ofW (cc := cX2_setPlace) (maxL := 3) (ret := none) (by decide) rfl ?_
  intro p e s m args below meth c s₁ B hml hv
  obtain ⟨rfl, hS, hP⟩ := hv
  have E := e_enter (own := RX2) (ret := none) B hml rfl hS hP
  have J : e_J G s h s.heap [] := ⟨hP, va_S.rf⟩
  have hl := lv_entry ([.ref (e_ad G l0), .int l1, .int l2]) (n := 3) (Nat.le_of_ble_eq_true rfl)
  rw [lg_entry_eq]
  generalize (lg_sl ([.ref (e_ad G l0), .int l1, .int l2]) ++ List.replicate (3 - (lg_sl ([.ref (e_ad G l0), .int l1, .int l2])).length) Slot.unset).toArray = ls at hl ⊢
  have hl : lv_has ls 3 [(0, .ref (e_ad G l0)), (1, .int l1), (2, .int l2)] := hl
  obtain ⟨hx, hb, hr, hml, hown, hts, hlocks, hES, hbs⟩ := id E
  unfold fX2_setPlace at hM
  obtain ⟨fs_, hk_, hM⟩ := e_bs hM
  refine lv_aload_n hx hb dX2_setPlace_0 rfl (lv_at hl 0 rfl) ?_
  refine lv_iload_n hx hb dX2_setPlace_1 rfl (lv_at hl 1 rfl) ?_
  obtain ⟨v1, hv, hM⟩ := e_bs hM
  obtain ⟨fs_, hk, -⟩ := e_bs hv
  refine e_callV (ci := 2) (As := [.int l1]) (rest := []) (n := 1) E J hk rfl (mX2_hasPlace (l := l) (G := G) l0 l1 h _ hv) q_4_162 q_4_154 q_4_155 q_1_7 q_4_156 (by decide +kernel) rfl ⟨Nat.le_of_ble_eq_true rfl, Nat.le_of_ble_eq_true rfl⟩ (st0 := [.int l1, .ref (e_ad G l0)]) (st1 := [.int (e_b v1)]) rfl rfl hl.1 (Nat.le_of_ble_eq_true rfl) dX2_setPlace_2 ⟨Nat.le_refl _, Nat.le_refl _⟩ (fun H locs J => ?_)
  refine lv_if_eq (tgt := 15) hx hb dX2_setPlace_5 (by decide) (fun hc => ?_) (fun hc => ?_)
  · have hM := e_ip hc hM
    obtain rfl := e_so hM
    exact e_vret E J dX2_setPlace_15
  · have hM := e_in hc hM
    refine lv_aload_n hx hb dX2_setPlace_8 rfl (lv_at hl 0 rfl) ?_
    obtain ⟨v2, hv, hM⟩ := e_bs hM
    refine e_getR (C := RX2) (T := TX2) (N := 3) E J hv rfl inX2 (by decide) q_1_164 dX2_setPlace_9 ?_
    rcases v2 with _ | a3
    · have hM := e_on0 hM
      refine W.eq (g2 := F0 m 12 ls [.null]) rfl ?_
      refine lv_iload_n hx hb dX2_setPlace_12 rfl (lv_at hl 1 rfl) ?_
      refine lv_iload_n hx hb dX2_setPlace_13 rfl (lv_at hl 2 rfl) ?_
      exact e_no hM
    · have hM := e_on1 hM
      refine W.eq (g2 := F0 m 12 ls [.ref (e_ad G a3)]) rfl ?_
      refine lv_iload_n hx hb dX2_setPlace_12 rfl (lv_at hl 1 rfl) ?_
      refine lv_iload_n hx hb dX2_setPlace_13 rfl (lv_at hl 2 rfl) ?_
      obtain ⟨h5, hv, hM⟩ := e_bs hM
      refine e_iast E J hv dX2_setPlace_14 (fun H locs J => ?_)
      obtain rfl := e_so hM
      exact e_vret E J dX2_setPlace_15
set_option maxRecDepth 100000 in
set_option maxHeartbeats 4000000 in
theorem mX8_mark_b91 {p : Program} {l : Launch} {e : Env} {s : State} {m : MethodId} {args : Array Value} {below : List Frame} {meth : Method} {c : Code} {G : e_G} {res : (Int32 × e_H)} (E : e_M G p s args m meth c cX8_mark 5 (some FieldType.int) RX8) (l2 : Int32) (l3 : Int32) (l4 : Nat) (h : e_H) (hM : fX8_mark_b91 l2 l3 l4 h = some res) {H : Heap} {locs : List Loc} (J : e_J G s h H locs) {ls : Array Slot} (hl : lv_has ls 5 [(2, .int l2), (3, .int l3), (4, .ref (e_ad G l4))]) : W p l e (e_rm 2 43) s m args below meth c H locs 0 0 (MQ below (e_Q G res.2 (some (.int res.1))) args s 0 0 (e_A G)) (F0 m 91 ls []) := by
  obtain ⟨hx, hb, hr, hml, hown, hts, hlocks, hES, hbs⟩ := id E
  unfold fX8_mark_b91 at hM
  refine lv_aload hx hb dX8_mark_91 (lv_at hl 2 rfl) ?_
  refine lv_iload_n hx hb dX8_mark_93 rfl (lv_at hl 0 rfl) ?_
  refine lv_iload_n hx hb dX8_mark_94 rfl (lv_at hl 1 rfl) ?_
  obtain ⟨h1, hv, hM⟩ := e_bs hM
  obtain ⟨fs_, hk, -⟩ := e_bs hv
  refine e_callV (ci := 2) (As := [.int l2, .int l3]) (rest := []) (n := 2) E J hk rfl (mX2_setPlace (l := l) (G := G) l4 l2 l3 h _ hv) q_4_158 q_4_159 q_4_160 q_1_7 q_4_161 (by decide +kernel) rfl ⟨Nat.le_of_ble_eq_true rfl, Nat.le_of_ble_eq_true rfl⟩ (st0 := [.int l3, .int l2, .ref (e_ad G l4)]) (st1 := []) rfl rfl hl.1 (Nat.le_of_ble_eq_true rfl) dX8_mark_95 ⟨Nat.le_refl _, Nat.le_refl _⟩ (fun H locs J => ?_)
  refine lv_iconst (v := nI 1) hx hb dX8_mark_98 (by decide) ?_
  obtain rfl := e_so hM
  exact e_iret E J dX8_mark_99
set_option maxRecDepth 100000 in
set_option maxHeartbeats 4000000 in
theorem mX8_mark {l : Launch} {G : e_G} (l0 : Nat) (l1 : Int32) (l2 : Int32) (l3 : Int32) (h : e_H) (res : (Int32 × e_H)) (hM : fX8_mark l0 l1 l2 l3 h = some res) : Met l yX8_mark (e_W yX8_mark cX8_mark 5 (some FieldType.int)) (e_rm 2 43) (e_Pc G h [.ref (e_ad G l0), .int l1, .int l2, .int l3]) (e_Q G res.2 (some (.int res.1))) 0 0 (e_A G) := by
  refine Met.ofW (cc := cX8_mark) (maxL := 5) (ret := (some FieldType.int)) (by decide) rfl ?_
  intro p e s m args below meth c s₁ B hml hv
  obtain ⟨rfl, hS, hP⟩ := hv
  have E := e_enter (own := RX8) (ret := (some FieldType.int)) B hml rfl hS hP
  have J : e_J G s h s.heap [] := ⟨hP, va_S.rf⟩
  have hl := lv_entry ([.ref (e_ad G l0), .int l1, .int l2, .int l3]) (n := 5) (Nat.le_of_ble_eq_true rfl)
  rw [lg_entry_eq]
  generalize (lg_sl ([.ref (e_ad G l0), .int l1, .int l2, .int l3]) ++ List.replicate (5 - (lg_sl ([.ref (e_ad G l0), .int l1, .int l2, .int l3])).length) Slot.unset).toArray = ls at hl ⊢
  have hl : lv_has ls 5 [(0, .ref (e_ad G l0)), (1, .int l1), (2, .int l2), (3, .int l3)] := hl
  obtain ⟨hx, hb, hr, hml, hown, hts, hlocks, hES, hbs⟩ := id E
  unfold fX8_mark at hM
  obtain ⟨fs_, hk_, hM⟩ := e_bs hM
  refine lv_aload_n hx hb dX8_mark_0 rfl (lv_at hl 0 rfl) ?_
  refine lv_iload_n hx hb dX8_mark_1 rfl (lv_at hl 1 rfl) ?_
  obtain ⟨v1, hv, hM⟩ := e_bs hM
  obtain ⟨fs_, hk, -⟩ := e_bs hv
  refine e_callV (ci := 8) (As := [.int l1]) (rest := []) (n := 1) E J hk rfl (mX8_sheetOf (l := l) (G := G) l0 l1 h _ hv) q_4_138 q_4_140 q_p_13 q_1_1 q_4_141 (by decide +kernel) rfl ⟨Nat.le_of_ble_eq_true rfl, Nat.le_of_ble_eq_true rfl⟩ (st0 := [.int l1, .ref (e_ad G l0)]) (st1 := [e_r G v1]) rfl rfl hl.1 (Nat.le_of_ble_eq_true rfl) dX8_mark_2 ⟨Nat.le_refl _, Nat.le_refl _⟩ (fun H locs J => ?_)
  rcases v1 with _ | a2
  · have hM := e_on0 hM
    refine W.eq (g2 := F0 m 5 ls [.null]) rfl ?_
    refine lv_astoreN (lv' := [(4, .null), (0, .ref (e_ad G l0)), (1, .int l1), (2, .int l2), (3, .int l3)]) hx hb dX8_mark_5 hl (by decide) rfl (fun ls hl => ?_)
    refine lv_aloadN hx hb dX8_mark_7 (lv_at hl 0 rfl) ?_
    refine lv_ifnonnullN hx hb dX8_mark_9 ?_
    refine lv_ldc (v := -1000000001) hx hb hown (hts _ q_1_237) dX8_mark_12 ?_
    obtain rfl := e_so hM
    exact e_iret E J dX8_mark_14
  · have hM := e_on1 hM
    refine W.eq (g2 := F0 m 5 ls [.ref (e_ad G a2)]) rfl ?_
    refine lv_astore (lv' := [(4, .ref (e_ad G a2)), (0, .ref (e_ad G l0)), (1, .int l1), (2, .int l2), (3, .int l3)]) hx hb dX8_mark_5 hl (by decide) rfl (fun ls hl => ?_)
    refine lv_aload hx hb dX8_mark_7 (lv_at hl 0 rfl) ?_
    refine lv_ifnonnull (tgt := 15) hx hb dX8_mark_9 (by decide) ?_
    refine lv_aload hx hb dX8_mark_15 (lv_at hl 0 rfl) ?_
    obtain ⟨v3, hv, hM⟩ := e_bs hM
    refine e_getI (C := RX2) (T := TX2) (N := 3) E J hv rfl inX2 (by decide) q_1_161 dX8_mark_17 ?_
    refine lv_iconst (v := -1) hx hb dX8_mark_20 (by decide) ?_
    refine lv_icmp_ne (tgt := 28) hx hb dX8_mark_21 (by decide) (fun hc => ?_) (fun hc => ?_)
    · have hM := e_in hc hM
      refine lv_aload hx hb dX8_mark_28 (lv_at hl 0 rfl) ?_
      refine lv_iload_n hx hb dX8_mark_30 rfl (lv_at hl 3 rfl) ?_
      obtain ⟨v4, hv, hM⟩ := e_bs hM
      obtain ⟨fs_, hk, -⟩ := e_bs hv
      refine e_callV (ci := 2) (As := [.int l2]) (rest := []) (n := 1) E J hk rfl (mX2_hasPlace (l := l) (G := G) a2 l2 h _ hv) q_4_153 q_4_154 q_4_155 q_1_7 q_4_156 (by decide +kernel) rfl ⟨Nat.le_of_ble_eq_true rfl, Nat.le_of_ble_eq_true rfl⟩ (st0 := [.int l2, .ref (e_ad G a2)]) (st1 := [.int (e_b v4)]) rfl rfl hl.1 (Nat.le_of_ble_eq_true rfl) dX8_mark_31 ⟨Nat.le_refl _, Nat.le_refl _⟩ (fun H locs J => ?_)
      refine lv_if_ne (tgt := 41) hx hb dX8_mark_34 (by decide) (fun hc => ?_) (fun hc => ?_)
      · have hM := e_in hc hM
        refine lv_aload hx hb dX8_mark_41 (lv_at hl 0 rfl) ?_
        obtain ⟨v5, hv, hM⟩ := e_bs hM
        refine e_getI (C := RX2) (T := TX2) (N := 3) E J hv rfl inX2 (by decide) q_1_161 dX8_mark_43 ?_
        refine lv_if_ne (tgt := 68) hx hb dX8_mark_46 (by decide) (fun hc => ?_) (fun hc => ?_)
        · have hM := e_in hc hM
          refine lv_iload_n hx hb dX8_mark_68 rfl (lv_at hl 4 rfl) ?_
          refine lv_ldc (v := -1000000005) hx hb hown (hts _ q_3_48) dX8_mark_69 ?_
          refine lv_icmp_eq (tgt := 91) hx hb dX8_mark_71 (by decide) (fun hc => ?_) (fun hc => ?_)
          · have hM := e_ip hc hM
            exact mX8_mark_b91 E l2 l3 a2 h hM J (lv_sub hl [3, 4, 0] rfl)
          · have hM := e_in hc hM
            refine lv_iload_n hx hb dX8_mark_74 rfl (lv_at hl 4 rfl) ?_
            refine lv_ldcw (v := -99999) hx hb hown (hts _ q_4_163) dX8_mark_75 ?_
            refine lv_icmp_lt (tgt := 88) hx hb dX8_mark_78 (by decide) (fun hc => ?_) (fun hc => ?_)
            · have hM := e_ip hc hM
              refine lv_ldc (v := -1000000001) hx hb hown (hts _ q_1_237) dX8_mark_88 ?_
              obtain rfl := e_so hM
              exact e_iret E J dX8_mark_90
            · have hM := e_in hc hM
              refine lv_iload_n hx hb dX8_mark_81 rfl (lv_at hl 4 rfl) ?_
              refine lv_ldcw (v := 99999) hx hb hown (hts _ q_4_164) dX8_mark_82 ?_
              refine lv_icmp_le (tgt := 91) hx hb dX8_mark_85 (by decide) (fun hc => ?_) (fun hc => ?_)
              · have hM := e_ip hc hM
                exact mX8_mark_b91 E l2 l3 a2 h hM J (lv_sub hl [3, 4, 0] rfl)
              · have hM := e_in hc hM
                refine lv_ldc (v := -1000000001) hx hb hown (hts _ q_1_237) dX8_mark_88 ?_
                obtain rfl := e_so hM
                exact e_iret E J dX8_mark_90
        · have hM := e_ip hc hM
          refine lv_iload_n hx hb dX8_mark_49 rfl (lv_at hl 4 rfl) ?_
          refine lv_ldc (v := -1000000005) hx hb hown (hts _ q_3_48) dX8_mark_50 ?_
          refine lv_icmp_ne (tgt := 58) hx hb dX8_mark_52 (by decide) (fun hc => ?_) (fun hc => ?_)
          · have hM := e_in hc hM
            refine lv_aload hx hb dX8_mark_58 (lv_at hl 0 rfl) ?_
            refine lv_iload_n hx hb dX8_mark_60 rfl (lv_at hl 3 rfl) ?_
            refine lv_iload_n hx hb dX8_mark_61 rfl (lv_at hl 4 rfl) ?_
            refine lv_i2s hx hb dX8_mark_62 rfl ?_
            obtain ⟨h6, hv, hM⟩ := e_bs hM
            obtain ⟨fs_, hk, -⟩ := e_bs hv
            refine e_callV (ci := 2) (As := [.int l2, .int (l3).toInt16.toInt32]) (rest := []) (n := 2) E J hk rfl (mX2_setPlace (l := l) (G := G) a2 l2 (l3).toInt16.toInt32 h _ hv) q_4_158 q_4_159 q_4_160 q_1_7 q_4_161 (by decide +kernel) rfl ⟨Nat.le_of_ble_eq_true rfl, Nat.le_of_ble_eq_true rfl⟩ (st0 := [.int (l3).toInt16.toInt32, .int l2, .ref (e_ad G a2)]) (st1 := []) rfl rfl hl.1 (Nat.le_of_ble_eq_true rfl) dX8_mark_63 ⟨Nat.le_refl _, Nat.le_refl _⟩ (fun H locs J => ?_)
            refine lv_iconst (v := nI 1) hx hb dX8_mark_66 (by decide) ?_
            obtain rfl := e_so hM
            exact e_iret E J dX8_mark_67
          · have hM := e_ip hc hM
            refine lv_ldc (v := -1000000012) hx hb hown (hts _ q_2_123) dX8_mark_55 ?_
            obtain rfl := e_so hM
            exact e_iret E J dX8_mark_57
      · have hM := e_ip hc hM
        refine lv_ldcw (v := -1000000013) hx hb hown (hts _ q_4_157) dX8_mark_37 ?_
        obtain rfl := e_so hM
        exact e_iret E J dX8_mark_40
    · have hM := e_ip hc hM
      refine lv_ldcw (v := -1000000011) hx hb hown (hts _ q_4_152) dX8_mark_24 ?_
      obtain rfl := e_so hM
      exact e_iret E J dX8_mark_27
set_option maxRecDepth 100000 in
set_option maxHeartbeats 4000000 in
theorem mX2_placeAt {l : Launch} {G : e_G} (l0 : Nat) (l1 : Int32) (h : e_H) (res : Int32) (hM : fX2_placeAt l0 l1 h = some res) : Met l yX2_placeAt (e_W yX2_placeAt cX2_placeAt 2 (some FieldType.int)) (e_rm 1 21) (e_Pc G h [.ref (e_ad G l0), .int l1]) (e_Q G h (some (.int res))) 0 0 (e_A G) := by
  refine Met.ofW (cc := cX2_placeAt) (maxL := 2) (ret := (some FieldType.int)) (by decide) rfl ?_
  intro p e s m args below meth c s₁ B hml hv
  obtain ⟨rfl, hS, hP⟩ := hv
  have E := e_enter (own := RX2) (ret := (some FieldType.int)) B hml rfl hS hP
  have J : e_J G s h s.heap [] := ⟨hP, va_S.rf⟩
  have hl := lv_entry ([.ref (e_ad G l0), .int l1]) (n := 2) (Nat.le_of_ble_eq_true rfl)
  rw [lg_entry_eq]
  generalize (lg_sl ([.ref (e_ad G l0), .int l1]) ++ List.replicate (2 - (lg_sl ([.ref (e_ad G l0), .int l1])).length) Slot.unset).toArray = ls at hl ⊢
  have hl : lv_has ls 2 [(0, .ref (e_ad G l0)), (1, .int l1)] := hl
  obtain ⟨hx, hb, hr, hml, hown, hts, hlocks, hES, hbs⟩ := id E
  unfold fX2_placeAt at hM
  obtain ⟨fs_, hk_, hM⟩ := e_bs hM
  refine lv_aload_n hx hb dX2_placeAt_0 rfl (lv_at hl 0 rfl) ?_
  refine lv_iload_n hx hb dX2_placeAt_1 rfl (lv_at hl 1 rfl) ?_
  obtain ⟨v1, hv, hM⟩ := e_bs hM
  obtain ⟨fs_, hk, -⟩ := e_bs hv
  refine e_callV (ci := 2) (As := [.int l1]) (rest := []) (n := 1) E J hk rfl (mX2_hasPlace (l := l) (G := G) l0 l1 h _ hv) q_4_162 q_4_154 q_4_155 q_1_7 q_4_156 (by decide +kernel) rfl ⟨Nat.le_of_ble_eq_true rfl, Nat.le_of_ble_eq_true rfl⟩ (st0 := [.int l1, .ref (e_ad G l0)]) (st1 := [.int (e_b v1)]) rfl rfl hl.1 (Nat.le_of_ble_eq_true rfl) dX2_placeAt_2 ⟨Nat.le_refl _, Nat.le_refl _⟩ (fun H locs J => ?_)
  refine lv_if_eq (tgt := 17) hx hb dX2_placeAt_5 (by decide) (fun hc => ?_) (fun hc => ?_)
  · have hM := e_ip hc hM
    refine lv_iconst (v := nI 0) hx hb dX2_placeAt_17 (by decide) ?_
    obtain rfl := e_so hM
    exact e_iret E J dX2_placeAt_18
  · have hM := e_in hc hM
    refine lv_aload_n hx hb dX2_placeAt_8 rfl (lv_at hl 0 rfl) ?_
    obtain ⟨v2, hv, hM⟩ := e_bs hM
    refine e_getR (C := RX2) (T := TX2) (N := 3) E J hv rfl inX2 (by decide) q_1_164 dX2_placeAt_9 ?_
    rcases v2 with _ | a3
    · have hM := e_on0 hM
      refine W.eq (g2 := F0 m 12 ls [.null]) rfl ?_
      refine lv_iload_n hx hb dX2_placeAt_12 rfl (lv_at hl 1 rfl) ?_
      exact e_no hM
    · have hM := e_on1 hM
      refine W.eq (g2 := F0 m 12 ls [.ref (e_ad G a3)]) rfl ?_
      refine lv_iload_n hx hb dX2_placeAt_12 rfl (lv_at hl 1 rfl) ?_
      obtain ⟨v4, hv, hM⟩ := e_bs hM
      refine e_iald E J hv dX2_placeAt_13 ?_
      refine lv_goto (tgt := 18) hx hb dX2_placeAt_14 (by decide) ?_
      obtain rfl := e_so hM
      exact e_iret E J dX2_placeAt_18
set_option maxRecDepth 100000 in
set_option maxHeartbeats 4000000 in
theorem mX8_pour_b107 {p : Program} {l : Launch} {e : Env} {s : State} {m : MethodId} {args : Array Value} {below : List Frame} {meth : Method} {c : Code} {G : e_G} {res : (Int32 × e_H)} {k46 : Nat → Nat → Int32 → Int32 → e_H → Option (Int32 × e_H)} (E : e_M G p s args m meth c cX8_pour 8 (some FieldType.int) RX8) (K46 : ∀ (l3 : Nat) (l4 : Nat) (l5 : Int32) (l6 : Int32) (h : e_H), k46 l3 l4 l5 l6 h = some res → ∀ (H : Heap) (locs : List Loc), e_J G s h H locs → ∀ (ls : Array Slot), lv_has ls 8 [(3, .ref (e_ad G l3)), (4, .ref (e_ad G l4)), (5, .int l5), (6, .int l6)] → W p l e (e_rm 2 60) s m args below meth c H locs 0 0 (MQ below (e_Q G res.2 (some (.int res.1))) args s 0 0 (e_A G)) (F0 m 46 ls [])) (l3 : Nat) (l4 : Nat) (l5 : Int32) (l6 : Int32) (h : e_H) (hM : fX8_pour_b107 k46 l3 l4 l5 l6 h = some res) {H : Heap} {locs : List Loc} (J : e_J G s h H locs) {ls : Array Slot} (hl : lv_has ls 8 [(3, .ref (e_ad G l3)), (4, .ref (e_ad G l4)), (5, .int l5), (6, .int l6)]) : W p l e (e_rm 2 60) s m args below meth c H locs 0 0 (MQ below (e_Q G res.2 (some (.int res.1))) args s 0 0 (e_A G)) (F0 m 107 ls []) := by
  obtain ⟨hx, hb, hr, hml, hown, hts, hlocks, hES, hbs⟩ := id E
  unfold fX8_pour_b107 at hM
  refine lv_iinc (v := (l6 + (nI 1))) (lv' := [(6, .int (l6 + (nI 1))), (3, .ref (e_ad G l3)), (4, .ref (e_ad G l4)), (5, .int l5)]) hx hb dX8_pour_107 hl (k := 3) rfl rfl (by decide) rfl (fun ls hl => ?_)
  refine lv_goto (tgt := 46) hx hb dX8_pour_110 (by decide) ?_
  exact K46 l3 l4 l5 (l6 + (nI 1)) h hM _ _ J _ (lv_sub hl [1, 2, 3, 0] rfl)
set_option maxRecDepth 100000 in
set_option maxHeartbeats 4000000 in
theorem mX8_pour_b46 {p : Program} {l : Launch} {e : Env} {s : State} {m : MethodId} {args : Array Value} {below : List Frame} {meth : Method} {c : Code} {G : e_G} {res : (Int32 × e_H)} {k46 : Nat → Nat → Int32 → Int32 → e_H → Option (Int32 × e_H)} (E : e_M G p s args m meth c cX8_pour 8 (some FieldType.int) RX8) (K46 : ∀ (l3 : Nat) (l4 : Nat) (l5 : Int32) (l6 : Int32) (h : e_H), k46 l3 l4 l5 l6 h = some res → ∀ (H : Heap) (locs : List Loc), e_J G s h H locs → ∀ (ls : Array Slot), lv_has ls 8 [(3, .ref (e_ad G l3)), (4, .ref (e_ad G l4)), (5, .int l5), (6, .int l6)] → W p l e (e_rm 2 60) s m args below meth c H locs 0 0 (MQ below (e_Q G res.2 (some (.int res.1))) args s 0 0 (e_A G)) (F0 m 46 ls [])) (l3 : Nat) (l4 : Nat) (l5 : Int32) (l6 : Int32) (h : e_H) (hM : fX8_pour_b46 k46 l3 l4 l5 l6 h = some res) {H : Heap} {locs : List Loc} (J : e_J G s h H locs) {ls : Array Slot} (hl : lv_has ls 8 [(3, .ref (e_ad G l3)), (4, .ref (e_ad G l4)), (5, .int l5), (6, .int l6)]) : W p l e (e_rm 2 60) s m args below meth c H locs 0 0 (MQ below (e_Q G res.2 (some (.int res.1))) args s 0 0 (e_A G)) (F0 m 46 ls []) := by
  obtain ⟨hx, hb, hr, hml, hown, hts, hlocks, hES, hbs⟩ := id E
  unfold fX8_pour_b46 at hM
  refine lv_iload hx hb dX8_pour_46 (lv_at hl 3 rfl) ?_
  refine lv_bipush (v := nI 15) hx hb dX8_pour_48 (by decide) ?_
  refine lv_icmp_ge (tgt := 113) hx hb dX8_pour_50 (by decide) (fun hc => ?_) (fun hc => ?_)
  · have hM := e_ip hc hM
    refine lv_iload hx hb dX8_pour_113 (lv_at hl 2 rfl) ?_
    obtain rfl := e_so hM
    exact e_iret E J dX8_pour_115
  · have hM := e_in hc hM
    refine lv_iload hx hb dX8_pour_53 (lv_at hl 3 rfl) ?_
    refine lv_aload_n hx hb dX8_pour_55 rfl (lv_at hl 0 rfl) ?_
    obtain ⟨v1, hv, hM⟩ := e_bs hM
    refine e_getI (C := RX2) (T := TX2) (N := 3) E J hv rfl inX2 (by decide) q_1_163 dX8_pour_56 ?_
    refine lv_icmp_ge (tgt := 113) hx hb dX8_pour_59 (by decide) (fun hc => ?_) (fun hc => ?_)
    · have hM := e_ip hc hM
      refine lv_iload hx hb dX8_pour_113 (lv_at hl 2 rfl) ?_
      obtain rfl := e_so hM
      exact e_iret E J dX8_pour_115
    · have hM := e_in hc hM
      refine lv_aload_n hx hb dX8_pour_62 rfl (lv_at hl 0 rfl) ?_
      refine lv_iload hx hb dX8_pour_63 (lv_at hl 3 rfl) ?_
      obtain ⟨v2, hv, hM⟩ := e_bs hM
      obtain ⟨fs_, hk, -⟩ := e_bs hv
      refine e_callV (ci := 2) (As := [.int l6]) (rest := []) (n := 1) E J hk rfl (mX2_placeAt (l := l) (G := G) l3 l6 h _ hv) q_4_169 q_4_170 q_4_171 q_1_7 q_4_172 (by decide +kernel) rfl ⟨Nat.le_of_ble_eq_true rfl, Nat.le_of_ble_eq_true rfl⟩ (st0 := [.int l6, .ref (e_ad G l3)]) (st1 := [.int v2]) rfl rfl hl.1 (Nat.le_of_ble_eq_true rfl) dX8_pour_65 ⟨Nat.le_refl _, Nat.le_refl _⟩ (fun H locs J => ?_)
      refine lv_istore (lv' := [(7, .int v2), (3, .ref (e_ad G l3)), (4, .ref (e_ad G l4)), (5, .int l5), (6, .int l6)]) hx hb dX8_pour_68 hl (by decide) rfl (fun ls hl => ?_)
      refine lv_iload hx hb dX8_pour_70 (lv_at hl 0 rfl) ?_
      refine lv_ldc (v := -1000000005) hx hb hown (hts _ q_3_48) dX8_pour_72 ?_
      refine lv_icmp_eq (tgt := 107) hx hb dX8_pour_74 (by decide) (fun hc => ?_) (fun hc => ?_)
      · have hM := e_ip hc hM
        exact mX8_pour_b107 E K46 l3 l4 l5 l6 h hM J (lv_sub hl [1, 2, 3, 4] rfl)
      · have hM := e_in hc hM
        refine lv_iload hx hb dX8_pour_77 (lv_at hl 0 rfl) ?_
        obtain ⟨v3, hv, hM⟩ := e_bs hM
        refine e_callS (As := [.int v2]) (rest := []) (n := 1) E J (mX8_held (l := l) (G := G) v2 h _ hv) q_2_132 q_2_73 q_1_1 q_2_74 (by decide +kernel) rfl ⟨Nat.le_of_ble_eq_true rfl, Nat.le_of_ble_eq_true rfl⟩ (st0 := [.int v2]) (st1 := [.int v3]) rfl rfl hl.1 (Nat.le_of_ble_eq_true rfl) dX8_pour_79 ⟨Nat.le_refl _, Nat.le_refl _⟩ (fun H locs J => ?_)
        refine lv_aload hx hb dX8_pour_82 (lv_at hl 2 rfl) ?_
        refine lv_iload hx hb dX8_pour_84 (lv_at hl 4 rfl) ?_
        obtain ⟨v4, hv, hM⟩ := e_bs hM
        obtain ⟨fs_, hk, -⟩ := e_bs hv
        refine e_callV (ci := 0) (As := [.int l6]) (rest := [.int v3]) (n := 1) E J hk rfl (mX0_numberAt (l := l) (G := G) l4 l6 h _ hv) q_2_23 q_2_24 q_2_25 q_1_3 q_2_26 (by decide +kernel) rfl ⟨Nat.le_of_ble_eq_true rfl, Nat.le_of_ble_eq_true rfl⟩ (st0 := [.int l6, .ref (e_ad G l4), .int v3]) (st1 := [.int v4, .int v3]) rfl rfl hl.1 (Nat.le_of_ble_eq_true rfl) dX8_pour_86 ⟨Nat.le_refl _, Nat.le_refl _⟩ (fun H locs J => ?_)
        refine lv_icmp_eq (tgt := 107) hx hb dX8_pour_89 (by decide) (fun hc => ?_) (fun hc => ?_)
        · have hM := e_ip hc hM
          exact mX8_pour_b107 E K46 l3 l4 l5 l6 h hM J (lv_sub hl [1, 2, 3, 4] rfl)
        · have hM := e_in hc hM
          refine lv_aload hx hb dX8_pour_92 (lv_at hl 2 rfl) ?_
          refine lv_iload hx hb dX8_pour_94 (lv_at hl 4 rfl) ?_
          refine lv_iload hx hb dX8_pour_96 (lv_at hl 0 rfl) ?_
          obtain ⟨v5, hv, hM⟩ := e_bs hM
          refine e_callS (As := [.int v2]) (rest := [.int l6, .ref (e_ad G l4)]) (n := 1) E J (mX8_held (l := l) (G := G) v2 h _ hv) q_2_132 q_2_73 q_1_1 q_2_74 (by decide +kernel) rfl ⟨Nat.le_of_ble_eq_true rfl, Nat.le_of_ble_eq_true rfl⟩ (st0 := [.int v2, .int l6, .ref (e_ad G l4)]) (st1 := [.int v5, .int l6, .ref (e_ad G l4)]) rfl rfl hl.1 (Nat.le_of_ble_eq_true rfl) dX8_pour_98 ⟨Nat.le_refl _, Nat.le_refl _⟩ (fun H locs J => ?_)
          obtain ⟨h6, hv, hM⟩ := e_bs hM
          obtain ⟨fs_, hk, -⟩ := e_bs hv
          refine e_callV (ci := 0) (As := [.int l6, .int v5]) (rest := []) (n := 2) E J hk rfl (mX0_setNumber (l := l) (G := G) l4 l6 v5 h _ hv) q_2_27 q_2_28 q_2_29 q_1_3 q_2_30 (by decide +kernel) rfl ⟨Nat.le_of_ble_eq_true rfl, Nat.le_of_ble_eq_true rfl⟩ (st0 := [.int v5, .int l6, .ref (e_ad G l4)]) (st1 := []) rfl rfl hl.1 (Nat.le_of_ble_eq_true rfl) dX8_pour_101 ⟨Nat.le_refl _, Nat.le_refl _⟩ (fun H locs J => ?_)
          refine lv_iinc (v := (l5 + (nI 1))) (lv' := [(5, .int (l5 + (nI 1))), (7, .int v2), (3, .ref (e_ad G l3)), (4, .ref (e_ad G l4)), (6, .int l6)]) hx hb dX8_pour_104 hl (k := 3) rfl rfl (by decide) rfl (fun ls hl => ?_)
          exact mX8_pour_b107 E K46 l3 l4 (l5 + (nI 1)) l6 h6 hM J (lv_sub hl [2, 3, 0, 4] rfl)
set_option maxRecDepth 100000 in
set_option maxHeartbeats 4000000 in
theorem mX8_pour_L46 {p : Program} {l : Launch} {e : Env} {s : State} {m : MethodId} {args : Array Value} {below : List Frame} {meth : Method} {c : Code} {G : e_G} {res : (Int32 × e_H)} (E : e_M G p s args m meth c cX8_pour 8 (some FieldType.int) RX8) (n : Nat) (l3 : Nat) (l4 : Nat) (l5 : Int32) (l6 : Int32) (h : e_H) (hM : fX8_pour_L46 n l3 l4 l5 l6 h = some res) {H : Heap} {locs : List Loc} (J : e_J G s h H locs) {ls : Array Slot} (hl : lv_has ls 8 [(3, .ref (e_ad G l3)), (4, .ref (e_ad G l4)), (5, .int l5), (6, .int l6)]) : W p l e (e_rm 2 60) s m args below meth c H locs 0 0 (MQ below (e_Q G res.2 (some (.int res.1))) args s 0 0 (e_A G)) (F0 m 46 ls []) := by
  induction n generalizing l3 l4 l5 l6 h H locs ls with
  | zero => exact e_no hM
  | succ n ih => exact mX8_pour_b46 (k46 := (fX8_pour_L46 n)) E   (fun l3 l4 l5 l6 h hM H locs J ls hl => ih l3 l4 l5 l6 h hM J hl) l3 l4 l5 l6 h hM J hl
set_option maxRecDepth 100000 in
set_option maxHeartbeats 4000000 in
theorem mX8_pour {l : Launch} {G : e_G} (l0 : Nat) (l1 : Int32) (l2 : Int32) (h : e_H) (res : (Int32 × e_H)) (hM : fX8_pour l0 l1 l2 h = some res) : Met l yX8_pour (e_W yX8_pour cX8_pour 8 (some FieldType.int)) (e_rm 2 60) (e_Pc G h [.ref (e_ad G l0), .int l1, .int l2]) (e_Q G res.2 (some (.int res.1))) 0 0 (e_A G) := by
  refine Met.ofW (cc := cX8_pour) (maxL := 8) (ret := (some FieldType.int)) (by decide) rfl ?_
  intro p e s m args below meth c s₁ B hml hv
  obtain ⟨rfl, hS, hP⟩ := hv
  have E := e_enter (own := RX8) (ret := (some FieldType.int)) B hml rfl hS hP
  have J : e_J G s h s.heap [] := ⟨hP, va_S.rf⟩
  have hl := lv_entry ([.ref (e_ad G l0), .int l1, .int l2]) (n := 8) (Nat.le_of_ble_eq_true rfl)
  rw [lg_entry_eq]
  generalize (lg_sl ([.ref (e_ad G l0), .int l1, .int l2]) ++ List.replicate (8 - (lg_sl ([.ref (e_ad G l0), .int l1, .int l2])).length) Slot.unset).toArray = ls at hl ⊢
  have hl : lv_has ls 8 [(0, .ref (e_ad G l0)), (1, .int l1), (2, .int l2)] := hl
  obtain ⟨hx, hb, hr, hml, hown, hts, hlocks, hES, hbs⟩ := id E
  unfold fX8_pour at hM
  obtain ⟨fs_, hk_, hM⟩ := e_bs hM
  refine lv_aload_n hx hb dX8_pour_0 rfl (lv_at hl 0 rfl) ?_
  refine lv_iload_n hx hb dX8_pour_1 rfl (lv_at hl 1 rfl) ?_
  obtain ⟨v1, hv, hM⟩ := e_bs hM
  obtain ⟨fs_, hk, -⟩ := e_bs hv
  refine e_callV (ci := 8) (As := [.int l1]) (rest := []) (n := 1) E J hk rfl (mX8_sheetOf (l := l) (G := G) l0 l1 h _ hv) q_4_138 q_4_140 q_p_13 q_1_1 q_4_141 (by decide +kernel) rfl ⟨Nat.le_of_ble_eq_true rfl, Nat.le_of_ble_eq_true rfl⟩ (st0 := [.int l1, .ref (e_ad G l0)]) (st1 := [e_r G v1]) rfl rfl hl.1 (Nat.le_of_ble_eq_true rfl) dX8_pour_2 ⟨Nat.le_refl _, Nat.le_refl _⟩ (fun H locs J => ?_)
  rcases v1 with _ | a2
  · have hM := e_on0 hM
    refine W.eq (g2 := F0 m 5 ls [.null]) rfl ?_
    refine lv_astore_nN (lv' := [(3, .null), (0, .ref (e_ad G l0)), (1, .int l1), (2, .int l2)]) hx hb dX8_pour_5 rfl hl (by decide) rfl (fun ls hl => ?_)
    refine lv_aload_n hx hb dX8_pour_6 rfl (lv_at hl 1 rfl) ?_
    obtain ⟨v3, hv, hM⟩ := e_bs hM
    refine e_getR (C := RX8) (T := TX8) (N := 10) E J hv rfl inX8 (by decide) q_1_199 dX8_pour_7 ?_
    rcases v3 with _ | a4
    · have hM := e_on0 hM
      refine W.eq (g2 := F0 m 10 ls [.null]) rfl ?_
      refine lv_iload_n hx hb dX8_pour_10 rfl (lv_at hl 3 rfl) ?_
      exact e_no hM
    · have hM := e_on1 hM
      refine W.eq (g2 := F0 m 10 ls [.ref (e_ad G a4)]) rfl ?_
      refine lv_iload_n hx hb dX8_pour_10 rfl (lv_at hl 3 rfl) ?_
      obtain ⟨v5, hv, hM⟩ := e_bs hM
      obtain ⟨fs_, hk, -⟩ := e_bs hv
      refine e_callV (ci := 7) (As := [.int l2]) (rest := []) (n := 1) E J hk rfl (mX7_curveOf (l := l) (G := G) a4 l2 h _ hv) q_2_14 q_2_15 q_2_16 q_1_2 q_2_17 (by decide +kernel) rfl ⟨Nat.le_of_ble_eq_true rfl, Nat.le_of_ble_eq_true rfl⟩ (st0 := [.int l2, .ref (e_ad G a4)]) (st1 := [e_r G v5]) rfl rfl hl.1 (Nat.le_of_ble_eq_true rfl) dX8_pour_11 ⟨Nat.le_refl _, Nat.le_refl _⟩ (fun H locs J => ?_)
      rcases v5 with _ | a6
      · have hM := e_on0 hM
        refine W.eq (g2 := F0 m 14 ls [.null]) rfl ?_
        refine lv_astoreN (lv' := [(4, .null), (3, .null), (0, .ref (e_ad G l0)), (1, .int l1), (2, .int l2)]) hx hb dX8_pour_14 hl (by decide) rfl (fun ls hl => ?_)
        refine lv_aload_nN hx hb dX8_pour_16 rfl (lv_at hl 1 rfl) ?_
        refine lv_ifnullN (tgt := 25) hx hb dX8_pour_17 (by decide) ?_
        refine lv_ldc (v := -1000000001) hx hb hown (hts _ q_1_237) dX8_pour_25 ?_
        obtain rfl := e_so hM
        exact e_iret E J dX8_pour_27
      · have hM := e_on1 hM
        refine W.eq (g2 := F0 m 14 ls [.ref (e_ad G a6)]) rfl ?_
        refine lv_astore (lv' := [(4, .ref (e_ad G a6)), (3, .null), (0, .ref (e_ad G l0)), (1, .int l1), (2, .int l2)]) hx hb dX8_pour_14 hl (by decide) rfl (fun ls hl => ?_)
        refine lv_aload_nN hx hb dX8_pour_16 rfl (lv_at hl 1 rfl) ?_
        refine lv_ifnullN (tgt := 25) hx hb dX8_pour_17 (by decide) ?_
        refine lv_ldc (v := -1000000001) hx hb hown (hts _ q_1_237) dX8_pour_25 ?_
        obtain rfl := e_so hM
        exact e_iret E J dX8_pour_27
  · have hM := e_on1 hM
    refine W.eq (g2 := F0 m 5 ls [.ref (e_ad G a2)]) rfl ?_
    refine lv_astore_n (lv' := [(3, .ref (e_ad G a2)), (0, .ref (e_ad G l0)), (1, .int l1), (2, .int l2)]) hx hb dX8_pour_5 rfl hl (by decide) rfl (fun ls hl => ?_)
    refine lv_aload_n hx hb dX8_pour_6 rfl (lv_at hl 1 rfl) ?_
    obtain ⟨v7, hv, hM⟩ := e_bs hM
    refine e_getR (C := RX8) (T := TX8) (N := 10) E J hv rfl inX8 (by decide) q_1_199 dX8_pour_7 ?_
    rcases v7 with _ | a8
    · have hM := e_on0 hM
      refine W.eq (g2 := F0 m 10 ls [.null]) rfl ?_
      refine lv_iload_n hx hb dX8_pour_10 rfl (lv_at hl 3 rfl) ?_
      exact e_no hM
    · have hM := e_on1 hM
      refine W.eq (g2 := F0 m 10 ls [.ref (e_ad G a8)]) rfl ?_
      refine lv_iload_n hx hb dX8_pour_10 rfl (lv_at hl 3 rfl) ?_
      obtain ⟨v9, hv, hM⟩ := e_bs hM
      obtain ⟨fs_, hk, -⟩ := e_bs hv
      refine e_callV (ci := 7) (As := [.int l2]) (rest := []) (n := 1) E J hk rfl (mX7_curveOf (l := l) (G := G) a8 l2 h _ hv) q_2_14 q_2_15 q_2_16 q_1_2 q_2_17 (by decide +kernel) rfl ⟨Nat.le_of_ble_eq_true rfl, Nat.le_of_ble_eq_true rfl⟩ (st0 := [.int l2, .ref (e_ad G a8)]) (st1 := [e_r G v9]) rfl rfl hl.1 (Nat.le_of_ble_eq_true rfl) dX8_pour_11 ⟨Nat.le_refl _, Nat.le_refl _⟩ (fun H locs J => ?_)
      rcases v9 with _ | a10
      · have hM := e_on0 hM
        refine W.eq (g2 := F0 m 14 ls [.null]) rfl ?_
        refine lv_astoreN (lv' := [(4, .null), (3, .ref (e_ad G a2)), (0, .ref (e_ad G l0)), (1, .int l1), (2, .int l2)]) hx hb dX8_pour_14 hl (by decide) rfl (fun ls hl => ?_)
        refine lv_aload_n hx hb dX8_pour_16 rfl (lv_at hl 1 rfl) ?_
        refine lv_ifnull hx hb dX8_pour_17 ?_
        refine lv_aloadN hx hb dX8_pour_20 (lv_at hl 0 rfl) ?_
        refine lv_ifnonnullN hx hb dX8_pour_22 ?_
        refine lv_ldc (v := -1000000001) hx hb hown (hts _ q_1_237) dX8_pour_25 ?_
        obtain rfl := e_so hM
        exact e_iret E J dX8_pour_27
      · have hM := e_on1 hM
        refine W.eq (g2 := F0 m 14 ls [.ref (e_ad G a10)]) rfl ?_
        refine lv_astore (lv' := [(4, .ref (e_ad G a10)), (3, .ref (e_ad G a2)), (0, .ref (e_ad G l0)), (1, .int l1), (2, .int l2)]) hx hb dX8_pour_14 hl (by decide) rfl (fun ls hl => ?_)
        refine lv_aload_n hx hb dX8_pour_16 rfl (lv_at hl 1 rfl) ?_
        refine lv_ifnull hx hb dX8_pour_17 ?_
        refine lv_aload hx hb dX8_pour_20 (lv_at hl 0 rfl) ?_
        refine lv_ifnonnull (tgt := 28) hx hb dX8_pour_22 (by decide) ?_
        refine lv_aload_n hx hb dX8_pour_28 rfl (lv_at hl 1 rfl) ?_
        obtain ⟨v11, hv, hM⟩ := e_bs hM
        refine e_getI (C := RX2) (T := TX2) (N := 3) E J hv rfl inX2 (by decide) q_1_161 dX8_pour_29 ?_
        refine lv_iconst (v := -1) hx hb dX8_pour_32 (by decide) ?_
        refine lv_icmp_ne (tgt := 40) hx hb dX8_pour_33 (by decide) (fun hc => ?_) (fun hc => ?_)
        · have hM := e_in hc hM
          refine lv_iconst (v := nI 0) hx hb dX8_pour_40 (by decide) ?_
          refine lv_istore (lv' := [(5, .int (nI 0)), (4, .ref (e_ad G a10)), (3, .ref (e_ad G a2)), (0, .ref (e_ad G l0)), (1, .int l1), (2, .int l2)]) hx hb dX8_pour_41 hl (by decide) rfl (fun ls hl => ?_)
          refine lv_iconst (v := nI 0) hx hb dX8_pour_43 (by decide) ?_
          refine lv_istore (lv' := [(6, .int (nI 0)), (5, .int (nI 0)), (4, .ref (e_ad G a10)), (3, .ref (e_ad G a2)), (0, .ref (e_ad G l0)), (1, .int l1), (2, .int l2)]) hx hb dX8_pour_44 hl (by decide) rfl (fun ls hl => ?_)
          exact mX8_pour_L46 E 200 a2 a10 (nI 0) (nI 0) h hM J (lv_sub hl [3, 2, 1, 0] rfl)
        · have hM := e_ip hc hM
          refine lv_ldcw (v := -1000000011) hx hb hown (hts _ q_4_152) dX8_pour_36 ?_
          obtain rfl := e_so hM
          exact e_iret E J dX8_pour_39
set_option maxRecDepth 100000 in
set_option maxHeartbeats 4000000 in
theorem mX2_hasRun {l : Launch} {G : e_G} (l0 : Nat) (l1 : Int32) (l2 : Int32) (h : e_H) (res : Bool) (hM : fX2_hasRun l0 l1 l2 h = some res) : Met l yX2_hasRun (e_W yX2_hasRun cX2_hasRun 3 (some FieldType.boolean)) (e_rm 0 0) (e_Pc G h [.ref (e_ad G l0), .int l1, .int l2]) (e_Q G h (some (.int (e_b res)))) 0 0 (e_A G) := by
  refine Met.ofW (cc := cX2_hasRun) (maxL := 3) (ret := (some FieldType.boolean)) (by decide) rfl ?_
  intro p e s m args below meth c s₁ B hml hv
  obtain ⟨rfl, hS, hP⟩ := hv
  have E := e_enter (own := RX2) (ret := (some FieldType.boolean)) B hml rfl hS hP
  have J : e_J G s h s.heap [] := ⟨hP, va_S.rf⟩
  have hl := lv_entry ([.ref (e_ad G l0), .int l1, .int l2]) (n := 3) (Nat.le_of_ble_eq_true rfl)
  rw [lg_entry_eq]
  generalize (lg_sl ([.ref (e_ad G l0), .int l1, .int l2]) ++ List.replicate (3 - (lg_sl ([.ref (e_ad G l0), .int l1, .int l2])).length) Slot.unset).toArray = ls at hl ⊢
  have hl : lv_has ls 3 [(0, .ref (e_ad G l0)), (1, .int l1), (2, .int l2)] := hl
  obtain ⟨hx, hb, hr, hml, hown, hts, hlocks, hES, hbs⟩ := id E
  unfold fX2_hasRun at hM
  obtain ⟨fs_, hk_, hM⟩ := e_bs hM
  refine lv_iload_n hx hb dX2_hasRun_0 rfl (lv_at hl 2 rfl) ?_
  refine lv_if_lt (tgt := 30) hx hb dX2_hasRun_1 (by decide) (fun hc => ?_) (fun hc => ?_)
  · have hM := e_ip hc hM
    refine lv_iconst (v := nI 0) hx hb dX2_hasRun_30 (by decide) ?_
    obtain rfl := e_so hM
    exact e_zret E J (false) rfl dX2_hasRun_31
  · have hM := e_in hc hM
    refine lv_iload_n hx hb dX2_hasRun_4 rfl (lv_at hl 2 rfl) ?_
    refine lv_aload_n hx hb dX2_hasRun_5 rfl (lv_at hl 0 rfl) ?_
    obtain ⟨v1, hv, hM⟩ := e_bs hM
    refine e_getI (C := RX2) (T := TX2) (N := 3) E J hv rfl inX2 (by decide) q_1_162 dX2_hasRun_6 ?_
    refine lv_icmp_gt (tgt := 30) hx hb dX2_hasRun_9 (by decide) (fun hc => ?_) (fun hc => ?_)
    · have hM := e_ip hc hM
      refine lv_iconst (v := nI 0) hx hb dX2_hasRun_30 (by decide) ?_
      obtain rfl := e_so hM
      exact e_zret E J (false) rfl dX2_hasRun_31
    · have hM := e_in hc hM
      refine lv_iload_n hx hb dX2_hasRun_12 rfl (lv_at hl 1 rfl) ?_
      refine lv_if_lt (tgt := 30) hx hb dX2_hasRun_13 (by decide) (fun hc => ?_) (fun hc => ?_)
      · have hM := e_ip hc hM
        refine lv_iconst (v := nI 0) hx hb dX2_hasRun_30 (by decide) ?_
        obtain rfl := e_so hM
        exact e_zret E J (false) rfl dX2_hasRun_31
      · have hM := e_in hc hM
        refine lv_iload_n hx hb dX2_hasRun_16 rfl (lv_at hl 1 rfl) ?_
        refine lv_aload_n hx hb dX2_hasRun_17 rfl (lv_at hl 0 rfl) ?_
        obtain ⟨v2, hv, hM⟩ := e_bs hM
        refine e_getI (C := RX2) (T := TX2) (N := 3) E J hv rfl inX2 (by decide) q_1_162 dX2_hasRun_18 ?_
        refine lv_iload_n hx hb dX2_hasRun_21 rfl (lv_at hl 2 rfl) ?_
        refine lv_isub hx hb dX2_hasRun_22 ?_
        refine lv_icmp_gt (tgt := 30) hx hb dX2_hasRun_23 (by decide) (fun hc => ?_) (fun hc => ?_)
        · have hM := e_ip hc hM
          refine lv_iconst (v := nI 0) hx hb dX2_hasRun_30 (by decide) ?_
          obtain rfl := e_so hM
          exact e_zret E J (false) rfl dX2_hasRun_31
        · have hM := e_in hc hM
          refine lv_iconst (v := nI 1) hx hb dX2_hasRun_26 (by decide) ?_
          refine lv_goto (tgt := 31) hx hb dX2_hasRun_27 (by decide) ?_
          obtain rfl := e_so hM
          exact e_zret E J (true) rfl dX2_hasRun_31
set_option maxRecDepth 100000 in
set_option maxHeartbeats 4000000 in
theorem mX8_copy {l : Launch} {G : e_G} (l0 : Nat) (l1 : Int32) (l2 : Int32) (l3 : Int32) (l4 : Int32) (l5 : Int32) (h : e_H) (res : (Int32 × e_H)) (hM : fX8_copy l0 l1 l2 l3 l4 l5 h = some res) : Met l yX8_copy (e_W yX8_copy cX8_copy 8 (some FieldType.int)) (e_rm 1 80) (e_Pc G h [.ref (e_ad G l0), .int l1, .int l2, .int l3, .int l4, .int l5]) (e_Q G res.2 (some (.int res.1))) 0 0 (e_A G) := by
  refine Met.ofW (cc := cX8_copy) (maxL := 8) (ret := (some FieldType.int)) (by decide) rfl ?_
  intro p e s m args below meth c s₁ B hml hv
  obtain ⟨rfl, hS, hP⟩ := hv
  have E := e_enter (own := RX8) (ret := (some FieldType.int)) B hml rfl hS hP
  have J : e_J G s h s.heap [] := ⟨hP, va_S.rf⟩
  have hl := lv_entry ([.ref (e_ad G l0), .int l1, .int l2, .int l3, .int l4, .int l5]) (n := 8) (Nat.le_of_ble_eq_true rfl)
  rw [lg_entry_eq]
  generalize (lg_sl ([.ref (e_ad G l0), .int l1, .int l2, .int l3, .int l4, .int l5]) ++ List.replicate (8 - (lg_sl ([.ref (e_ad G l0), .int l1, .int l2, .int l3, .int l4, .int l5])).length) Slot.unset).toArray = ls at hl ⊢
  have hl : lv_has ls 8 [(0, .ref (e_ad G l0)), (1, .int l1), (2, .int l2), (3, .int l3), (4, .int l4), (5, .int l5)] := hl
  obtain ⟨hx, hb, hr, hml, hown, hts, hlocks, hES, hbs⟩ := id E
  unfold fX8_copy at hM
  obtain ⟨fs_, hk_, hM⟩ := e_bs hM
  refine lv_aload_n hx hb dX8_copy_0 rfl (lv_at hl 0 rfl) ?_
  refine lv_iload_n hx hb dX8_copy_1 rfl (lv_at hl 1 rfl) ?_
  obtain ⟨v1, hv, hM⟩ := e_bs hM
  obtain ⟨fs_, hk, -⟩ := e_bs hv
  refine e_callV (ci := 8) (As := [.int l1]) (rest := []) (n := 1) E J hk rfl (mX8_sheetOf (l := l) (G := G) l0 l1 h _ hv) q_4_138 q_4_140 q_p_13 q_1_1 q_4_141 (by decide +kernel) rfl ⟨Nat.le_of_ble_eq_true rfl, Nat.le_of_ble_eq_true rfl⟩ (st0 := [.int l1, .ref (e_ad G l0)]) (st1 := [e_r G v1]) rfl rfl hl.1 (Nat.le_of_ble_eq_true rfl) dX8_copy_2 ⟨Nat.le_refl _, Nat.le_refl _⟩ (fun H locs J => ?_)
  rcases v1 with _ | a2
  · have hM := e_on0 hM
    refine W.eq (g2 := F0 m 5 ls [.null]) rfl ?_
    refine lv_astoreN (lv' := [(6, .null), (0, .ref (e_ad G l0)), (1, .int l1), (2, .int l2), (3, .int l3), (4, .int l4), (5, .int l5)]) hx hb dX8_copy_5 hl (by decide) rfl (fun ls hl => ?_)
    refine lv_aload_n hx hb dX8_copy_7 rfl (lv_at hl 1 rfl) ?_
    refine lv_iload_n hx hb dX8_copy_8 rfl (lv_at hl 4 rfl) ?_
    obtain ⟨v3, hv, hM⟩ := e_bs hM
    obtain ⟨fs_, hk, -⟩ := e_bs hv
    refine e_callV (ci := 8) (As := [.int l3]) (rest := []) (n := 1) E J hk rfl (mX8_sheetOf (l := l) (G := G) l0 l3 h _ hv) q_4_138 q_4_140 q_p_13 q_1_1 q_4_141 (by decide +kernel) rfl ⟨Nat.le_of_ble_eq_true rfl, Nat.le_of_ble_eq_true rfl⟩ (st0 := [.int l3, .ref (e_ad G l0)]) (st1 := [e_r G v3]) rfl rfl hl.1 (Nat.le_of_ble_eq_true rfl) dX8_copy_9 ⟨Nat.le_refl _, Nat.le_refl _⟩ (fun H locs J => ?_)
    rcases v3 with _ | a4
    · have hM := e_on0 hM
      refine W.eq (g2 := F0 m 12 ls [.null]) rfl ?_
      refine lv_astoreN (lv' := [(7, .null), (6, .null), (0, .ref (e_ad G l0)), (1, .int l1), (2, .int l2), (3, .int l3), (4, .int l4), (5, .int l5)]) hx hb dX8_copy_12 hl (by decide) rfl (fun ls hl => ?_)
      refine lv_aloadN hx hb dX8_copy_14 (lv_at hl 1 rfl) ?_
      refine lv_ifnullN (tgt := 24) hx hb dX8_copy_16 (by decide) ?_
      refine lv_ldc (v := -1000000001) hx hb hown (hts _ q_1_237) dX8_copy_24 ?_
      obtain rfl := e_so hM
      exact e_iret E J dX8_copy_26
    · have hM := e_on1 hM
      refine W.eq (g2 := F0 m 12 ls [.ref (e_ad G a4)]) rfl ?_
      refine lv_astore (lv' := [(7, .ref (e_ad G a4)), (6, .null), (0, .ref (e_ad G l0)), (1, .int l1), (2, .int l2), (3, .int l3), (4, .int l4), (5, .int l5)]) hx hb dX8_copy_12 hl (by decide) rfl (fun ls hl => ?_)
      refine lv_aloadN hx hb dX8_copy_14 (lv_at hl 1 rfl) ?_
      refine lv_ifnullN (tgt := 24) hx hb dX8_copy_16 (by decide) ?_
      refine lv_ldc (v := -1000000001) hx hb hown (hts _ q_1_237) dX8_copy_24 ?_
      obtain rfl := e_so hM
      exact e_iret E J dX8_copy_26
  · have hM := e_on1 hM
    refine W.eq (g2 := F0 m 5 ls [.ref (e_ad G a2)]) rfl ?_
    refine lv_astore (lv' := [(6, .ref (e_ad G a2)), (0, .ref (e_ad G l0)), (1, .int l1), (2, .int l2), (3, .int l3), (4, .int l4), (5, .int l5)]) hx hb dX8_copy_5 hl (by decide) rfl (fun ls hl => ?_)
    refine lv_aload_n hx hb dX8_copy_7 rfl (lv_at hl 1 rfl) ?_
    refine lv_iload_n hx hb dX8_copy_8 rfl (lv_at hl 4 rfl) ?_
    obtain ⟨v5, hv, hM⟩ := e_bs hM
    obtain ⟨fs_, hk, -⟩ := e_bs hv
    refine e_callV (ci := 8) (As := [.int l3]) (rest := []) (n := 1) E J hk rfl (mX8_sheetOf (l := l) (G := G) l0 l3 h _ hv) q_4_138 q_4_140 q_p_13 q_1_1 q_4_141 (by decide +kernel) rfl ⟨Nat.le_of_ble_eq_true rfl, Nat.le_of_ble_eq_true rfl⟩ (st0 := [.int l3, .ref (e_ad G l0)]) (st1 := [e_r G v5]) rfl rfl hl.1 (Nat.le_of_ble_eq_true rfl) dX8_copy_9 ⟨Nat.le_refl _, Nat.le_refl _⟩ (fun H locs J => ?_)
    rcases v5 with _ | a6
    · have hM := e_on0 hM
      refine W.eq (g2 := F0 m 12 ls [.null]) rfl ?_
      refine lv_astoreN (lv' := [(7, .null), (6, .ref (e_ad G a2)), (0, .ref (e_ad G l0)), (1, .int l1), (2, .int l2), (3, .int l3), (4, .int l4), (5, .int l5)]) hx hb dX8_copy_12 hl (by decide) rfl (fun ls hl => ?_)
      refine lv_aload hx hb dX8_copy_14 (lv_at hl 1 rfl) ?_
      refine lv_ifnull hx hb dX8_copy_16 ?_
      refine lv_aloadN hx hb dX8_copy_19 (lv_at hl 0 rfl) ?_
      refine lv_ifnonnullN hx hb dX8_copy_21 ?_
      refine lv_ldc (v := -1000000001) hx hb hown (hts _ q_1_237) dX8_copy_24 ?_
      obtain rfl := e_so hM
      exact e_iret E J dX8_copy_26
    · have hM := e_on1 hM
      refine W.eq (g2 := F0 m 12 ls [.ref (e_ad G a6)]) rfl ?_
      refine lv_astore (lv' := [(7, .ref (e_ad G a6)), (6, .ref (e_ad G a2)), (0, .ref (e_ad G l0)), (1, .int l1), (2, .int l2), (3, .int l3), (4, .int l4), (5, .int l5)]) hx hb dX8_copy_12 hl (by decide) rfl (fun ls hl => ?_)
      refine lv_aload hx hb dX8_copy_14 (lv_at hl 1 rfl) ?_
      refine lv_ifnull hx hb dX8_copy_16 ?_
      refine lv_aload hx hb dX8_copy_19 (lv_at hl 0 rfl) ?_
      refine lv_ifnonnull (tgt := 27) hx hb dX8_copy_21 (by decide) ?_
      refine lv_aload hx hb dX8_copy_27 (lv_at hl 1 rfl) ?_
      obtain ⟨v7, hv, hM⟩ := e_bs hM
      refine e_getI (C := RX2) (T := TX2) (N := 3) E J hv rfl inX2 (by decide) q_1_161 dX8_copy_29 ?_
      refine lv_iconst (v := -1) hx hb dX8_copy_32 (by decide) ?_
      refine lv_icmp_eq (tgt := 45) hx hb dX8_copy_33 (by decide) (fun hc => ?_) (fun hc => ?_)
      · have hM := e_ip hc hM
        refine lv_ldcw (v := -1000000011) hx hb hown (hts _ q_4_152) dX8_copy_45 ?_
        obtain rfl := e_so hM
        exact e_iret E J dX8_copy_48
      · have hM := e_in hc hM
        refine lv_aload hx hb dX8_copy_36 (lv_at hl 0 rfl) ?_
        obtain ⟨v8, hv, hM⟩ := e_bs hM
        refine e_getI (C := RX2) (T := TX2) (N := 3) E J hv rfl inX2 (by decide) q_1_161 dX8_copy_38 ?_
        refine lv_iconst (v := -1) hx hb dX8_copy_41 (by decide) ?_
        refine lv_icmp_ne (tgt := 49) hx hb dX8_copy_42 (by decide) (fun hc => ?_) (fun hc => ?_)
        · have hM := e_in hc hM
          refine lv_aload hx hb dX8_copy_49 (lv_at hl 1 rfl) ?_
          obtain ⟨v9, hv, hM⟩ := e_bs hM
          refine e_getI (C := RX2) (T := TX2) (N := 3) E J hv rfl inX2 (by decide) q_1_161 dX8_copy_51 ?_
          refine lv_aload hx hb dX8_copy_54 (lv_at hl 0 rfl) ?_
          obtain ⟨v10, hv, hM⟩ := e_bs hM
          refine e_getI (C := RX2) (T := TX2) (N := 3) E J hv rfl inX2 (by decide) q_1_161 dX8_copy_56 ?_
          refine lv_icmp_eq (tgt := 65) hx hb dX8_copy_59 (by decide) (fun hc => ?_) (fun hc => ?_)
          · have hM := e_ip hc hM
            refine lv_aload hx hb dX8_copy_65 (lv_at hl 1 rfl) ?_
            refine lv_iload_n hx hb dX8_copy_67 rfl (lv_at hl 4 rfl) ?_
            refine lv_iload hx hb dX8_copy_68 (lv_at hl 7 rfl) ?_
            obtain ⟨v11, hv, hM⟩ := e_bs hM
            obtain ⟨fs_, hk, -⟩ := e_bs hv
            refine e_callV (ci := 2) (As := [.int l2, .int l5]) (rest := []) (n := 2) E J hk rfl (mX2_hasRun (l := l) (G := G) a2 l2 l5 h _ hv) q_4_177 q_4_178 q_4_179 q_1_7 q_4_180 (by decide +kernel) rfl ⟨Nat.le_of_ble_eq_true rfl, Nat.le_of_ble_eq_true rfl⟩ (st0 := [.int l5, .int l2, .ref (e_ad G a2)]) (st1 := [.int (e_b v11)]) rfl rfl hl.1 (Nat.le_of_ble_eq_true rfl) dX8_copy_70 ⟨Nat.le_refl _, Nat.le_refl _⟩ (fun H locs J => ?_)
            refine lv_if_eq (tgt := 88) hx hb dX8_copy_73 (by decide) (fun hc => ?_) (fun hc => ?_)
            · have hM := e_ip hc hM
              refine lv_ldcw (v := -1000000013) hx hb hown (hts _ q_4_157) dX8_copy_88 ?_
              obtain rfl := e_so hM
              exact e_iret E J dX8_copy_91
            · have hM := e_in hc hM
              refine lv_aload hx hb dX8_copy_76 (lv_at hl 0 rfl) ?_
              refine lv_iload hx hb dX8_copy_78 (lv_at hl 6 rfl) ?_
              refine lv_iload hx hb dX8_copy_80 (lv_at hl 7 rfl) ?_
              obtain ⟨v12, hv, hM⟩ := e_bs hM
              obtain ⟨fs_, hk, -⟩ := e_bs hv
              refine e_callV (ci := 2) (As := [.int l4, .int l5]) (rest := []) (n := 2) E J hk rfl (mX2_hasRun (l := l) (G := G) a6 l4 l5 h _ hv) q_4_177 q_4_178 q_4_179 q_1_7 q_4_180 (by decide +kernel) rfl ⟨Nat.le_of_ble_eq_true rfl, Nat.le_of_ble_eq_true rfl⟩ (st0 := [.int l5, .int l4, .ref (e_ad G a6)]) (st1 := [.int (e_b v12)]) rfl rfl hl.1 (Nat.le_of_ble_eq_true rfl) dX8_copy_82 ⟨Nat.le_refl _, Nat.le_refl _⟩ (fun H locs J => ?_)
              refine lv_if_ne (tgt := 92) hx hb dX8_copy_85 (by decide) (fun hc => ?_) (fun hc => ?_)
              · have hM := e_in hc hM
                refine lv_aload hx hb dX8_copy_92 (lv_at hl 1 rfl) ?_
                obtain ⟨v13, hv, hM⟩ := e_bs hM
                refine e_getR (C := RX2) (T := TX2) (N := 3) E J hv rfl inX2 (by decide) q_1_165 dX8_copy_94 ?_
                rcases v13 with _ | a14
                · have hM := e_on0 hM
                  refine W.eq (g2 := F0 m 97 ls [.null]) rfl ?_
                  refine lv_iload_n hx hb dX8_copy_97 rfl (lv_at hl 4 rfl) ?_
                  refine lv_aload hx hb dX8_copy_98 (lv_at hl 0 rfl) ?_
                  obtain ⟨v15, hv, hM⟩ := e_bs hM
                  refine e_getR (C := RX2) (T := TX2) (N := 3) E J hv rfl inX2 (by decide) q_1_165 dX8_copy_100 ?_
                  rcases v15 with _ | a16
                  · have hM := e_on0 hM
                    refine W.eq (g2 := F0 m 103 ls [.null, .int l2, .null]) rfl ?_
                    refine lv_iload hx hb dX8_copy_103 (lv_at hl 6 rfl) ?_
                    refine lv_iload hx hb dX8_copy_105 (lv_at hl 7 rfl) ?_
                    exact e_no hM
                  · have hM := e_on1 hM
                    refine W.eq (g2 := F0 m 103 ls [.ref (e_ad G a16), .int l2, .null]) rfl ?_
                    refine lv_iload hx hb dX8_copy_103 (lv_at hl 6 rfl) ?_
                    refine lv_iload hx hb dX8_copy_105 (lv_at hl 7 rfl) ?_
                    exact e_no hM
                · have hM := e_on1 hM
                  refine W.eq (g2 := F0 m 97 ls [.ref (e_ad G a14)]) rfl ?_
                  refine lv_iload_n hx hb dX8_copy_97 rfl (lv_at hl 4 rfl) ?_
                  refine lv_aload hx hb dX8_copy_98 (lv_at hl 0 rfl) ?_
                  obtain ⟨v17, hv, hM⟩ := e_bs hM
                  refine e_getR (C := RX2) (T := TX2) (N := 3) E J hv rfl inX2 (by decide) q_1_165 dX8_copy_100 ?_
                  rcases v17 with _ | a18
                  · have hM := e_on0 hM
                    refine W.eq (g2 := F0 m 103 ls [.null, .int l2, .ref (e_ad G a14)]) rfl ?_
                    refine lv_iload hx hb dX8_copy_103 (lv_at hl 6 rfl) ?_
                    refine lv_iload hx hb dX8_copy_105 (lv_at hl 7 rfl) ?_
                    exact e_no hM
                  · have hM := e_on1 hM
                    refine W.eq (g2 := F0 m 103 ls [.ref (e_ad G a18), .int l2, .ref (e_ad G a14)]) rfl ?_
                    refine lv_iload hx hb dX8_copy_103 (lv_at hl 6 rfl) ?_
                    refine lv_iload hx hb dX8_copy_105 (lv_at hl 7 rfl) ?_
                    obtain ⟨h19, hv, hM⟩ := e_bs hM
                    refine e_copy E J hv q_4_181 q_3_131 q_3_130 q_1_13 hl.1 (Nat.le_of_ble_eq_true rfl) (Nat.le_of_ble_eq_true rfl) dX8_copy_107 (fun H locs J => ?_)
                    refine lv_iload hx hb dX8_copy_110 (lv_at hl 7 rfl) ?_
                    obtain rfl := e_so hM
                    exact e_iret E J dX8_copy_112
              · have hM := e_ip hc hM
                refine lv_ldcw (v := -1000000013) hx hb hown (hts _ q_4_157) dX8_copy_88 ?_
                obtain rfl := e_so hM
                exact e_iret E J dX8_copy_91
          · have hM := e_in hc hM
            refine lv_ldc (v := -1000000012) hx hb hown (hts _ q_2_123) dX8_copy_62 ?_
            obtain rfl := e_so hM
            exact e_iret E J dX8_copy_64
        · have hM := e_ip hc hM
          refine lv_ldcw (v := -1000000011) hx hb hown (hts _ q_4_152) dX8_copy_45 ?_
          obtain rfl := e_so hM
          exact e_iret E J dX8_copy_48
set_option maxRecDepth 100000 in
set_option maxHeartbeats 4000000 in
theorem mX8_slotOf {l : Launch} {G : e_G} (l0 : Nat) (l1 : Int32) (h : e_H) (res : (Option Nat)) (hM : fX8_slotOf l0 l1 h = some res) : Met l yX8_slotOf (e_W yX8_slotOf cX8_slotOf 2 (some (FieldType.object "BentBranches$Slot"))) (e_rm 0 0) (e_Pc G h [.ref (e_ad G l0), .int l1]) (e_Q G h (some (e_r G res))) 0 0 (e_A G) := by
  refine Met.ofW (cc := cX8_slotOf) (maxL := 2) (ret := (some (FieldType.object "BentBranches$Slot"))) (by decide) rfl ?_
  intro p e s m args below meth c s₁ B hml hv
  obtain ⟨rfl, hS, hP⟩ := hv
  have E := e_enter (own := RX8) (ret := (some (FieldType.object "BentBranches$Slot"))) B hml rfl hS hP
  have J : e_J G s h s.heap [] := ⟨hP, va_S.rf⟩
  have hl := lv_entry ([.ref (e_ad G l0), .int l1]) (n := 2) (Nat.le_of_ble_eq_true rfl)
  rw [lg_entry_eq]
  generalize (lg_sl ([.ref (e_ad G l0), .int l1]) ++ List.replicate (2 - (lg_sl ([.ref (e_ad G l0), .int l1])).length) Slot.unset).toArray = ls at hl ⊢
  have hl : lv_has ls 2 [(0, .ref (e_ad G l0)), (1, .int l1)] := hl
  obtain ⟨hx, hb, hr, hml, hown, hts, hlocks, hES, hbs⟩ := id E
  unfold fX8_slotOf at hM
  obtain ⟨fs_, hk_, hM⟩ := e_bs hM
  refine lv_iload_n hx hb dX8_slotOf_0 rfl (lv_at hl 1 rfl) ?_
  refine lv_if_lt (tgt := 13) hx hb dX8_slotOf_1 (by decide) (fun hc => ?_) (fun hc => ?_)
  · have hM := e_ip hc hM
    refine lv_null hx hb dX8_slotOf_13 ?_
    refine lv_goto (tgt := 23) hx hb dX8_slotOf_14 (by decide) ?_
    obtain rfl := e_so hM
    exact e_aretN E J (Or.inl ⟨_, rfl⟩) dX8_slotOf_23
  · have hM := e_in hc hM
    refine lv_iload_n hx hb dX8_slotOf_4 rfl (lv_at hl 1 rfl) ?_
    refine lv_aload_n hx hb dX8_slotOf_5 rfl (lv_at hl 0 rfl) ?_
    obtain ⟨v1, hv, hM⟩ := e_bs hM
    refine e_getR (C := RX8) (T := TX8) (N := 10) E J hv rfl inX8 (by decide) q_1_205 dX8_slotOf_6 ?_
    rcases v1 with _ | a2
    · have hM := e_on0 hM
      refine W.eq (g2 := F0 m 9 ls [.null, .int l1]) rfl ?_
      exact e_no hM
    · have hM := e_on1 hM
      refine W.eq (g2 := F0 m 9 ls [.ref (e_ad G a2), .int l1]) rfl ?_
      obtain ⟨v3, hv, hM⟩ := e_bs hM
      refine e_alen E J hv rfl rfl dX8_slotOf_9 ?_
      refine lv_icmp_lt (tgt := 17) hx hb dX8_slotOf_10 (by decide) (fun hc => ?_) (fun hc => ?_)
      · have hM := e_ip hc hM
        refine lv_aload_n hx hb dX8_slotOf_17 rfl (lv_at hl 0 rfl) ?_
        obtain ⟨v4, hv, hM⟩ := e_bs hM
        refine e_getR (C := RX8) (T := TX8) (N := 10) E J hv rfl inX8 (by decide) q_1_205 dX8_slotOf_18 ?_
        rcases v4 with _ | a5
        · have hM := e_on0 hM
          refine W.eq (g2 := F0 m 21 ls [.null]) rfl ?_
          refine lv_iload_n hx hb dX8_slotOf_21 rfl (lv_at hl 1 rfl) ?_
          exact e_no hM
        · have hM := e_on1 hM
          refine W.eq (g2 := F0 m 21 ls [.ref (e_ad G a5)]) rfl ?_
          refine lv_iload_n hx hb dX8_slotOf_21 rfl (lv_at hl 1 rfl) ?_
          obtain ⟨v7, hv, hM⟩ := e_bs hM
          refine e_aald E J hv rfl dX8_slotOf_22 ?_
          rcases v7 with _ | a8
          · have hM := e_on0 hM
            refine W.eq (g2 := F0 m 23 ls [.null]) rfl ?_
            obtain rfl := e_so hM
            exact e_aretN E J (Or.inl ⟨_, rfl⟩) dX8_slotOf_23
          · have hM := e_on1 hM
            refine W.eq (g2 := F0 m 23 ls [.ref (e_ad G a8)]) rfl ?_
            obtain rfl := e_so hM
            exact e_aretQ E J (Or.inl ⟨_, rfl⟩) dX8_slotOf_23
      · have hM := e_in hc hM
        refine lv_null hx hb dX8_slotOf_13 ?_
        refine lv_goto (tgt := 23) hx hb dX8_slotOf_14 (by decide) ?_
        obtain rfl := e_so hM
        exact e_aretN E J (Or.inl ⟨_, rfl⟩) dX8_slotOf_23
set_option maxRecDepth 100000 in
set_option maxHeartbeats 4000000 in
theorem mX0_becomes {l : Launch} {G : e_G} (l0 : Nat) (l1 : Nat) (h : e_H) (res : e_H) (hM : fX0_becomes l0 l1 h = some res) : Met l yX0_becomes (e_W yX0_becomes cX0_becomes 2 none) (e_rm 1 80) (e_Pc G h [.ref (e_ad G l0), .ref (e_ad G l1)]) (e_Q G res (none)) 0 0 (e_A G) := by
  refine Met.ofW (cc := cX0_becomes) (maxL := 2) (ret := none) (by decide) rfl ?_
  intro p e s m args below meth c s₁ B hml hv
  obtain ⟨rfl, hS, hP⟩ := hv
  have E := e_enter (own := RX0) (ret := none) B hml rfl hS hP
  have J : e_J G s h s.heap [] := ⟨hP, va_S.rf⟩
  have hl := lv_entry ([.ref (e_ad G l0), .ref (e_ad G l1)]) (n := 2) (Nat.le_of_ble_eq_true rfl)
  rw [lg_entry_eq]
  generalize (lg_sl ([.ref (e_ad G l0), .ref (e_ad G l1)]) ++ List.replicate (2 - (lg_sl ([.ref (e_ad G l0), .ref (e_ad G l1)])).length) Slot.unset).toArray = ls at hl ⊢
  have hl : lv_has ls 2 [(0, .ref (e_ad G l0)), (1, .ref (e_ad G l1))] := hl
  obtain ⟨hx, hb, hr, hml, hown, hts, hlocks, hES, hbs⟩ := id E
  unfold fX0_becomes at hM
  obtain ⟨fs_, hk_, hM⟩ := e_bs hM
  refine lv_aload_n hx hb dX0_becomes_0 rfl (lv_at hl 0 rfl) ?_
  refine lv_aload_n hx hb dX0_becomes_1 rfl (lv_at hl 1 rfl) ?_
  obtain ⟨v1, hv, hM⟩ := e_bs hM
  refine e_getI (C := RX0) (T := TX0) (N := 2) E J hv rfl inX0 (by decide) q_1_42 dX0_becomes_2 ?_
  obtain ⟨h2, hv, hM⟩ := e_bs hM
  refine e_putv (C := RX0) (T := TX0) (N := 2) E J hv rfl rfl inX0 tyX0 tyX0_ok nmX0 (by decide) q_1_42 rfl rfl rfl rfl dX0_becomes_5 (fun H locs J => ?_)
  refine lv_aload_n hx hb dX0_becomes_8 rfl (lv_at hl 1 rfl) ?_
  obtain ⟨v3, hv, hM⟩ := e_bs hM
  refine e_getR (C := RX0) (T := TX0) (N := 2) E J hv rfl inX0 (by decide) q_1_44 dX0_becomes_9 ?_
  rcases v3 with _ | a4
  · have hM := e_on0 hM
    refine W.eq (g2 := F0 m 12 ls [.null]) rfl ?_
    refine lv_iconst (v := nI 0) hx hb dX0_becomes_12 (by decide) ?_
    refine lv_aload_n hx hb dX0_becomes_13 rfl (lv_at hl 0 rfl) ?_
    obtain ⟨v5, hv, hM⟩ := e_bs hM
    refine e_getR (C := RX0) (T := TX0) (N := 2) E J hv rfl inX0 (by decide) q_1_44 dX0_becomes_14 ?_
    rcases v5 with _ | a6
    · have hM := e_on0 hM
      refine W.eq (g2 := F0 m 17 ls [.null, .int (nI 0), .null]) rfl ?_
      refine lv_iconst (v := nI 0) hx hb dX0_becomes_17 (by decide) ?_
      refine lv_bipush (v := nI 15) hx hb dX0_becomes_18 (by decide) ?_
      exact e_no hM
    · have hM := e_on1 hM
      refine W.eq (g2 := F0 m 17 ls [.ref (e_ad G a6), .int (nI 0), .null]) rfl ?_
      refine lv_iconst (v := nI 0) hx hb dX0_becomes_17 (by decide) ?_
      refine lv_bipush (v := nI 15) hx hb dX0_becomes_18 (by decide) ?_
      exact e_no hM
  · have hM := e_on1 hM
    refine W.eq (g2 := F0 m 12 ls [.ref (e_ad G a4)]) rfl ?_
    refine lv_iconst (v := nI 0) hx hb dX0_becomes_12 (by decide) ?_
    refine lv_aload_n hx hb dX0_becomes_13 rfl (lv_at hl 0 rfl) ?_
    obtain ⟨v7, hv, hM⟩ := e_bs hM
    refine e_getR (C := RX0) (T := TX0) (N := 2) E J hv rfl inX0 (by decide) q_1_44 dX0_becomes_14 ?_
    rcases v7 with _ | a8
    · have hM := e_on0 hM
      refine W.eq (g2 := F0 m 17 ls [.null, .int (nI 0), .ref (e_ad G a4)]) rfl ?_
      refine lv_iconst (v := nI 0) hx hb dX0_becomes_17 (by decide) ?_
      refine lv_bipush (v := nI 15) hx hb dX0_becomes_18 (by decide) ?_
      exact e_no hM
    · have hM := e_on1 hM
      refine W.eq (g2 := F0 m 17 ls [.ref (e_ad G a8), .int (nI 0), .ref (e_ad G a4)]) rfl ?_
      refine lv_iconst (v := nI 0) hx hb dX0_becomes_17 (by decide) ?_
      refine lv_bipush (v := nI 15) hx hb dX0_becomes_18 (by decide) ?_
      obtain ⟨h9, hv, hM⟩ := e_bs hM
      refine e_copy E J hv q_4_194 q_3_131 q_3_130 q_1_13 hl.1 (Nat.le_of_ble_eq_true rfl) (Nat.le_of_ble_eq_true rfl) dX0_becomes_20 (fun H locs J => ?_)
      obtain rfl := e_so hM
      exact e_vret E J dX0_becomes_23
set_option maxRecDepth 100000 in
set_option maxHeartbeats 4000000 in
theorem mX2_becomes {l : Launch} {G : e_G} (l0 : Nat) (l1 : Nat) (h : e_H) (res : e_H) (hM : fX2_becomes l0 l1 h = some res) : Met l yX2_becomes (e_W yX2_becomes cX2_becomes 2 none) (e_rm 1 80) (e_Pc G h [.ref (e_ad G l0), .ref (e_ad G l1)]) (e_Q G res (none)) 0 0 (e_A G) := by
  refine Met.ofW (cc := cX2_becomes) (maxL := 2) (ret := none) (by decide) rfl ?_
  intro p e s m args below meth c s₁ B hml hv
  obtain ⟨rfl, hS, hP⟩ := hv
  have E := e_enter (own := RX2) (ret := none) B hml rfl hS hP
  have J : e_J G s h s.heap [] := ⟨hP, va_S.rf⟩
  have hl := lv_entry ([.ref (e_ad G l0), .ref (e_ad G l1)]) (n := 2) (Nat.le_of_ble_eq_true rfl)
  rw [lg_entry_eq]
  generalize (lg_sl ([.ref (e_ad G l0), .ref (e_ad G l1)]) ++ List.replicate (2 - (lg_sl ([.ref (e_ad G l0), .ref (e_ad G l1)])).length) Slot.unset).toArray = ls at hl ⊢
  have hl : lv_has ls 2 [(0, .ref (e_ad G l0)), (1, .ref (e_ad G l1))] := hl
  obtain ⟨hx, hb, hr, hml, hown, hts, hlocks, hES, hbs⟩ := id E
  unfold fX2_becomes at hM
  obtain ⟨fs_, hk_, hM⟩ := e_bs hM
  refine lv_aload_n hx hb dX2_becomes_0 rfl (lv_at hl 0 rfl) ?_
  refine lv_aload_n hx hb dX2_becomes_1 rfl (lv_at hl 1 rfl) ?_
  obtain ⟨v1, hv, hM⟩ := e_bs hM
  refine e_getI (C := RX2) (T := TX2) (N := 3) E J hv rfl inX2 (by decide) q_1_160 dX2_becomes_2 ?_
  obtain ⟨h2, hv, hM⟩ := e_bs hM
  refine e_putv (C := RX2) (T := TX2) (N := 3) E J hv rfl rfl inX2 tyX2 tyX2_ok nmX2 (by decide) q_1_160 rfl rfl rfl rfl dX2_becomes_5 (fun H locs J => ?_)
  refine lv_aload_n hx hb dX2_becomes_8 rfl (lv_at hl 0 rfl) ?_
  refine lv_aload_n hx hb dX2_becomes_9 rfl (lv_at hl 1 rfl) ?_
  obtain ⟨v3, hv, hM⟩ := e_bs hM
  refine e_getI (C := RX2) (T := TX2) (N := 3) E J hv rfl inX2 (by decide) q_1_162 dX2_becomes_10 ?_
  obtain ⟨h4, hv, hM⟩ := e_bs hM
  refine e_putv (C := RX2) (T := TX2) (N := 3) E J hv rfl rfl inX2 tyX2 tyX2_ok nmX2 (by decide) q_1_162 rfl rfl rfl rfl dX2_becomes_13 (fun H locs J => ?_)
  refine lv_aload_n hx hb dX2_becomes_16 rfl (lv_at hl 1 rfl) ?_
  obtain ⟨v5, hv, hM⟩ := e_bs hM
  refine e_getR (C := RX2) (T := TX2) (N := 3) E J hv rfl inX2 (by decide) q_1_164 dX2_becomes_17 ?_
  rcases v5 with _ | a6
  · have hM := e_on0 hM
    refine W.eq (g2 := F0 m 20 ls [.null]) rfl ?_
    refine lv_iconst (v := nI 0) hx hb dX2_becomes_20 (by decide) ?_
    refine lv_aload_n hx hb dX2_becomes_21 rfl (lv_at hl 0 rfl) ?_
    obtain ⟨v7, hv, hM⟩ := e_bs hM
    refine e_getR (C := RX2) (T := TX2) (N := 3) E J hv rfl inX2 (by decide) q_1_164 dX2_becomes_22 ?_
    rcases v7 with _ | a8
    · have hM := e_on0 hM
      refine W.eq (g2 := F0 m 25 ls [.null, .int (nI 0), .null]) rfl ?_
      refine lv_iconst (v := nI 0) hx hb dX2_becomes_25 (by decide) ?_
      refine lv_bipush (v := nI 24) hx hb dX2_becomes_26 (by decide) ?_
      exact e_no hM
    · have hM := e_on1 hM
      refine W.eq (g2 := F0 m 25 ls [.ref (e_ad G a8), .int (nI 0), .null]) rfl ?_
      refine lv_iconst (v := nI 0) hx hb dX2_becomes_25 (by decide) ?_
      refine lv_bipush (v := nI 24) hx hb dX2_becomes_26 (by decide) ?_
      exact e_no hM
  · have hM := e_on1 hM
    refine W.eq (g2 := F0 m 20 ls [.ref (e_ad G a6)]) rfl ?_
    refine lv_iconst (v := nI 0) hx hb dX2_becomes_20 (by decide) ?_
    refine lv_aload_n hx hb dX2_becomes_21 rfl (lv_at hl 0 rfl) ?_
    obtain ⟨v9, hv, hM⟩ := e_bs hM
    refine e_getR (C := RX2) (T := TX2) (N := 3) E J hv rfl inX2 (by decide) q_1_164 dX2_becomes_22 ?_
    rcases v9 with _ | a10
    · have hM := e_on0 hM
      refine W.eq (g2 := F0 m 25 ls [.null, .int (nI 0), .ref (e_ad G a6)]) rfl ?_
      refine lv_iconst (v := nI 0) hx hb dX2_becomes_25 (by decide) ?_
      refine lv_bipush (v := nI 24) hx hb dX2_becomes_26 (by decide) ?_
      exact e_no hM
    · have hM := e_on1 hM
      refine W.eq (g2 := F0 m 25 ls [.ref (e_ad G a10), .int (nI 0), .ref (e_ad G a6)]) rfl ?_
      refine lv_iconst (v := nI 0) hx hb dX2_becomes_25 (by decide) ?_
      refine lv_bipush (v := nI 24) hx hb dX2_becomes_26 (by decide) ?_
      obtain ⟨h11, hv, hM⟩ := e_bs hM
      refine e_copy E J hv q_4_199 q_3_131 q_3_130 q_1_13 hl.1 (Nat.le_of_ble_eq_true rfl) (Nat.le_of_ble_eq_true rfl) dX2_becomes_28 (fun H locs J => ?_)
      obtain rfl := e_so hM
      exact e_vret E J dX2_becomes_31
set_option maxRecDepth 100000 in
set_option maxHeartbeats 4000000 in
theorem mX8_lay_b117 {p : Program} {l : Launch} {e : Env} {s : State} {m : MethodId} {args : Array Value} {below : List Frame} {meth : Method} {c : Code} {G : e_G} {res : (Int32 × e_H)} (E : e_M G p s args m meth c cX8_lay 6 (some FieldType.int) RX8) (l2 : Int32) (l4 : Nat) (h : e_H) (hM : fX8_lay_b117 l2 l4 h = some res) {H : Heap} {locs : List Loc} (J : e_J G s h H locs) {ls : Array Slot} (hl : lv_has ls 6 [(2, .int l2), (4, .ref (e_ad G l4))]) : W p l e (e_rm 2 101) s m args below meth c H locs 0 0 (MQ below (e_Q G res.2 (some (.int res.1))) args s 0 0 (e_A G)) (F0 m 117 ls []) := by
  obtain ⟨hx, hb, hr, hml, hown, hts, hlocks, hES, hbs⟩ := id E
  unfold fX8_lay_b117 at hM
  refine lv_aload hx hb dX8_lay_117 (lv_at hl 1 rfl) ?_
  obtain ⟨v1, hv, hM⟩ := e_bs hM
  refine e_getI (C := RX4) (T := TX4) (N := 4) E J hv rfl inX4 (by decide) q_1_183 dX8_lay_119 ?_
  refine lv_istore (lv' := [(5, .int v1), (2, .int l2), (4, .ref (e_ad G l4))]) hx hb dX8_lay_122 hl (by decide) rfl (fun ls hl => ?_)
  refine lv_aload hx hb dX8_lay_124 (lv_at hl 2 rfl) ?_
  refine lv_iload_n hx hb dX8_lay_126 rfl (lv_at hl 1 rfl) ?_
  obtain ⟨h2, hv, hM⟩ := e_bs hM
  refine e_putv (C := RX4) (T := TX4) (N := 4) E J hv rfl rfl inX4 tyX4 tyX4_ok nmX4 (by decide) q_1_183 rfl rfl rfl rfl dX8_lay_127 (fun H locs J => ?_)
  refine lv_iload hx hb dX8_lay_130 (lv_at hl 0 rfl) ?_
  obtain rfl := e_so hM
  exact e_iret E J dX8_lay_132
set_option maxRecDepth 100000 in
set_option maxHeartbeats 4000000 in
theorem mX8_lay {l : Launch} {G : e_G} (l0 : Nat) (l1 : Int32) (l2 : Int32) (l3 : Int32) (h : e_H) (res : (Int32 × e_H)) (hM : fX8_lay l0 l1 l2 l3 h = some res) : Met l yX8_lay (e_W yX8_lay cX8_lay 6 (some FieldType.int)) (e_rm 2 101) (e_Pc G h [.ref (e_ad G l0), .int l1, .int l2, .int l3]) (e_Q G res.2 (some (.int res.1))) 0 0 (e_A G) := by
  refine Met.ofW (cc := cX8_lay) (maxL := 6) (ret := (some FieldType.int)) (by decide) rfl ?_
  intro p e s m args below meth c s₁ B hml hv
  obtain ⟨rfl, hS, hP⟩ := hv
  have E := e_enter (own := RX8) (ret := (some FieldType.int)) B hml rfl hS hP
  have J : e_J G s h s.heap [] := ⟨hP, va_S.rf⟩
  have hl := lv_entry ([.ref (e_ad G l0), .int l1, .int l2, .int l3]) (n := 6) (Nat.le_of_ble_eq_true rfl)
  rw [lg_entry_eq]
  generalize (lg_sl ([.ref (e_ad G l0), .int l1, .int l2, .int l3]) ++ List.replicate (6 - (lg_sl ([.ref (e_ad G l0), .int l1, .int l2, .int l3])).length) Slot.unset).toArray = ls at hl ⊢
  have hl : lv_has ls 6 [(0, .ref (e_ad G l0)), (1, .int l1), (2, .int l2), (3, .int l3)] := hl
  obtain ⟨hx, hb, hr, hml, hown, hts, hlocks, hES, hbs⟩ := id E
  unfold fX8_lay at hM
  obtain ⟨fs_, hk_, hM⟩ := e_bs hM
  refine lv_aload_n hx hb dX8_lay_0 rfl (lv_at hl 0 rfl) ?_
  refine lv_iload_n hx hb dX8_lay_1 rfl (lv_at hl 1 rfl) ?_
  obtain ⟨v1, hv, hM⟩ := e_bs hM
  obtain ⟨fs_, hk, -⟩ := e_bs hv
  refine e_callV (ci := 8) (As := [.int l1]) (rest := []) (n := 1) E J hk rfl (mX8_slotOf (l := l) (G := G) l0 l1 h _ hv) q_4_186 q_4_188 q_p_14 q_1_1 q_4_189 (by decide +kernel) rfl ⟨Nat.le_of_ble_eq_true rfl, Nat.le_of_ble_eq_true rfl⟩ (st0 := [.int l1, .ref (e_ad G l0)]) (st1 := [e_r G v1]) rfl rfl hl.1 (Nat.le_of_ble_eq_true rfl) dX8_lay_2 ⟨Nat.le_refl _, Nat.le_refl _⟩ (fun H locs J => ?_)
  rcases v1 with _ | a2
  · have hM := e_on0 hM
    refine W.eq (g2 := F0 m 5 ls [.null]) rfl ?_
    refine lv_astoreN (lv' := [(4, .null), (0, .ref (e_ad G l0)), (1, .int l1), (2, .int l2), (3, .int l3)]) hx hb dX8_lay_5 hl (by decide) rfl (fun ls hl => ?_)
    refine lv_aloadN hx hb dX8_lay_7 (lv_at hl 0 rfl) ?_
    refine lv_ifnullN (tgt := 21) hx hb dX8_lay_9 (by decide) ?_
    refine lv_ldc (v := -1000000001) hx hb hown (hts _ q_1_237) dX8_lay_21 ?_
    obtain rfl := e_so hM
    exact e_iret E J dX8_lay_23
  · have hM := e_on1 hM
    refine W.eq (g2 := F0 m 5 ls [.ref (e_ad G a2)]) rfl ?_
    refine lv_astore (lv' := [(4, .ref (e_ad G a2)), (0, .ref (e_ad G l0)), (1, .int l1), (2, .int l2), (3, .int l3)]) hx hb dX8_lay_5 hl (by decide) rfl (fun ls hl => ?_)
    refine lv_aload hx hb dX8_lay_7 (lv_at hl 0 rfl) ?_
    refine lv_ifnull hx hb dX8_lay_9 ?_
    refine lv_iload_n hx hb dX8_lay_12 rfl (lv_at hl 3 rfl) ?_
    refine lv_if_lt (tgt := 21) hx hb dX8_lay_13 (by decide) (fun hc => ?_) (fun hc => ?_)
    · have hM := e_ip hc hM
      refine lv_ldc (v := -1000000001) hx hb hown (hts _ q_1_237) dX8_lay_21 ?_
      obtain rfl := e_so hM
      exact e_iret E J dX8_lay_23
    · have hM := e_in hc hM
      refine lv_iload_n hx hb dX8_lay_16 rfl (lv_at hl 3 rfl) ?_
      refine lv_iconst (v := nI 3) hx hb dX8_lay_17 (by decide) ?_
      refine lv_icmp_le (tgt := 24) hx hb dX8_lay_18 (by decide) (fun hc => ?_) (fun hc => ?_)
      · have hM := e_ip hc hM
        refine lv_iload_n hx hb dX8_lay_24 rfl (lv_at hl 3 rfl) ?_
        refine lv_iconst (v := nI 1) hx hb dX8_lay_25 (by decide) ?_
        refine lv_icmp_ne (tgt := 60) hx hb dX8_lay_26 (by decide) (fun hc => ?_) (fun hc => ?_)
        · have hM := e_in hc hM
          refine lv_iload_n hx hb dX8_lay_60 rfl (lv_at hl 3 rfl) ?_
          refine lv_iconst (v := nI 2) hx hb dX8_lay_61 (by decide) ?_
          refine lv_icmp_ne (tgt := 106) hx hb dX8_lay_62 (by decide) (fun hc => ?_) (fun hc => ?_)
          · have hM := e_in hc hM
            refine lv_iload_n hx hb dX8_lay_106 rfl (lv_at hl 3 rfl) ?_
            refine lv_iconst (v := nI 3) hx hb dX8_lay_107 (by decide) ?_
            refine lv_icmp_ne (tgt := 117) hx hb dX8_lay_108 (by decide) (fun hc => ?_) (fun hc => ?_)
            · have hM := e_in hc hM
              exact mX8_lay_b117 E l2 a2 h hM J (lv_sub hl [3, 0] rfl)
            · have hM := e_ip hc hM
              refine lv_aload hx hb dX8_lay_111 (lv_at hl 0 rfl) ?_
              refine lv_iload_n hx hb dX8_lay_113 rfl (lv_at hl 4 rfl) ?_
              obtain ⟨h16, hv, hM⟩ := e_bs hM
              refine e_putv (C := RX4) (T := TX4) (N := 4) E J hv rfl rfl inX4 tyX4 tyX4_ok nmX4 (by decide) q_1_185 rfl rfl rfl rfl dX8_lay_114 (fun H locs J => ?_)
              exact mX8_lay_b117 E l2 a2 h16 hM J (lv_sub hl [3, 0] rfl)
          · have hM := e_ip hc hM
            refine lv_aload_n hx hb dX8_lay_65 rfl (lv_at hl 1 rfl) ?_
            refine lv_iload_n hx hb dX8_lay_66 rfl (lv_at hl 4 rfl) ?_
            obtain ⟨v10, hv, hM⟩ := e_bs hM
            obtain ⟨fs_, hk, -⟩ := e_bs hv
            refine e_callV (ci := 8) (As := [.int l3]) (rest := []) (n := 1) E J hk rfl (mX8_sheetOf (l := l) (G := G) l0 l3 h _ hv) q_4_138 q_4_140 q_p_13 q_1_1 q_4_141 (by decide +kernel) rfl ⟨Nat.le_of_ble_eq_true rfl, Nat.le_of_ble_eq_true rfl⟩ (st0 := [.int l3, .ref (e_ad G l0)]) (st1 := [e_r G v10]) rfl rfl hl.1 (Nat.le_of_ble_eq_true rfl) dX8_lay_67 ⟨Nat.le_refl _, Nat.le_refl _⟩ (fun H locs J => ?_)
            rcases v10 with _ | a11
            · have hM := e_on0 hM
              refine W.eq (g2 := F0 m 70 ls [.null]) rfl ?_
              refine lv_astoreN (lv' := [(5, .null), (4, .ref (e_ad G a2)), (0, .ref (e_ad G l0)), (1, .int l1), (2, .int l2), (3, .int l3)]) hx hb dX8_lay_70 hl (by decide) rfl (fun ls hl => ?_)
              refine lv_aloadN hx hb dX8_lay_72 (lv_at hl 0 rfl) ?_
              refine lv_ifnonnullN hx hb dX8_lay_74 ?_
              refine lv_ldc (v := -1000000001) hx hb hown (hts _ q_1_237) dX8_lay_77 ?_
              obtain rfl := e_so hM
              exact e_iret E J dX8_lay_79
            · have hM := e_on1 hM
              refine W.eq (g2 := F0 m 70 ls [.ref (e_ad G a11)]) rfl ?_
              refine lv_astore (lv' := [(5, .ref (e_ad G a11)), (4, .ref (e_ad G a2)), (0, .ref (e_ad G l0)), (1, .int l1), (2, .int l2), (3, .int l3)]) hx hb dX8_lay_70 hl (by decide) rfl (fun ls hl => ?_)
              refine lv_aload hx hb dX8_lay_72 (lv_at hl 0 rfl) ?_
              refine lv_ifnonnull (tgt := 80) hx hb dX8_lay_74 (by decide) ?_
              refine lv_aload hx hb dX8_lay_80 (lv_at hl 0 rfl) ?_
              obtain ⟨v12, hv, hM⟩ := e_bs hM
              refine e_getI (C := RX2) (T := TX2) (N := 3) E J hv rfl inX2 (by decide) q_1_161 dX8_lay_82 ?_
              refine lv_iconst (v := -1) hx hb dX8_lay_85 (by decide) ?_
              refine lv_icmp_ne (tgt := 93) hx hb dX8_lay_86 (by decide) (fun hc => ?_) (fun hc => ?_)
              · have hM := e_in hc hM
                refine lv_aload hx hb dX8_lay_93 (lv_at hl 1 rfl) ?_
                obtain ⟨v13, hv, hM⟩ := e_bs hM
                refine e_getR (C := RX4) (T := TX4) (N := 4) E J hv rfl inX4 (by decide) q_1_189 dX8_lay_95 ?_
                rcases v13 with _ | a14
                · have hM := e_on0 hM
                  refine W.eq (g2 := F0 m 98 ls [.null]) rfl ?_
                  refine lv_aload hx hb dX8_lay_98 (lv_at hl 0 rfl) ?_
                  exact e_no hM
                · have hM := e_on1 hM
                  refine W.eq (g2 := F0 m 98 ls [.ref (e_ad G a14)]) rfl ?_
                  refine lv_aload hx hb dX8_lay_98 (lv_at hl 0 rfl) ?_
                  obtain ⟨h15, hv, hM⟩ := e_bs hM
                  obtain ⟨fs_, hk, -⟩ := e_bs hv
                  refine e_callV (ci := 2) (As := [.ref (e_ad G a11)]) (rest := []) (n := 1) E J hk rfl (mX2_becomes (l := l) (G := G) a14 a11 h _ hv) q_4_195 q_4_196 q_4_197 q_1_7 q_4_198 (by decide +kernel) rfl ⟨Nat.le_of_ble_eq_true rfl, Nat.le_of_ble_eq_true rfl⟩ (st0 := [.ref (e_ad G a11), .ref (e_ad G a14)]) (st1 := []) rfl rfl hl.1 (Nat.le_of_ble_eq_true rfl) dX8_lay_100 ⟨Nat.le_refl _, Nat.le_refl _⟩ (fun H locs J => ?_)
                  refine lv_goto (tgt := 117) hx hb dX8_lay_103 (by decide) ?_
                  exact mX8_lay_b117 E l2 a2 h15 hM J (lv_sub hl [4, 1] rfl)
              · have hM := e_ip hc hM
                refine lv_ldcw (v := -1000000011) hx hb hown (hts _ q_4_152) dX8_lay_89 ?_
                obtain rfl := e_so hM
                exact e_iret E J dX8_lay_92
        · have hM := e_ip hc hM
          refine lv_aload_n hx hb dX8_lay_29 rfl (lv_at hl 1 rfl) ?_
          obtain ⟨v3, hv, hM⟩ := e_bs hM
          refine e_getR (C := RX8) (T := TX8) (N := 10) E J hv rfl inX8 (by decide) q_1_199 dX8_lay_30 ?_
          rcases v3 with _ | a4
          · have hM := e_on0 hM
            refine W.eq (g2 := F0 m 33 ls [.null]) rfl ?_
            refine lv_iload_n hx hb dX8_lay_33 rfl (lv_at hl 4 rfl) ?_
            exact e_no hM
          · have hM := e_on1 hM
            refine W.eq (g2 := F0 m 33 ls [.ref (e_ad G a4)]) rfl ?_
            refine lv_iload_n hx hb dX8_lay_33 rfl (lv_at hl 4 rfl) ?_
            obtain ⟨v5, hv, hM⟩ := e_bs hM
            obtain ⟨fs_, hk, -⟩ := e_bs hv
            refine e_callV (ci := 7) (As := [.int l3]) (rest := []) (n := 1) E J hk rfl (mX7_curveOf (l := l) (G := G) a4 l3 h _ hv) q_2_14 q_2_15 q_2_16 q_1_2 q_2_17 (by decide +kernel) rfl ⟨Nat.le_of_ble_eq_true rfl, Nat.le_of_ble_eq_true rfl⟩ (st0 := [.int l3, .ref (e_ad G a4)]) (st1 := [e_r G v5]) rfl rfl hl.1 (Nat.le_of_ble_eq_true rfl) dX8_lay_34 ⟨Nat.le_refl _, Nat.le_refl _⟩ (fun H locs J => ?_)
            rcases v5 with _ | a6
            · have hM := e_on0 hM
              refine W.eq (g2 := F0 m 37 ls [.null]) rfl ?_
              refine lv_astoreN (lv' := [(5, .null), (4, .ref (e_ad G a2)), (0, .ref (e_ad G l0)), (1, .int l1), (2, .int l2), (3, .int l3)]) hx hb dX8_lay_37 hl (by decide) rfl (fun ls hl => ?_)
              refine lv_aloadN hx hb dX8_lay_39 (lv_at hl 0 rfl) ?_
              refine lv_ifnonnullN hx hb dX8_lay_41 ?_
              refine lv_ldc (v := -1000000001) hx hb hown (hts _ q_1_237) dX8_lay_44 ?_
              obtain rfl := e_so hM
              exact e_iret E J dX8_lay_46
            · have hM := e_on1 hM
              refine W.eq (g2 := F0 m 37 ls [.ref (e_ad G a6)]) rfl ?_
              refine lv_astore (lv' := [(5, .ref (e_ad G a6)), (4, .ref (e_ad G a2)), (0, .ref (e_ad G l0)), (1, .int l1), (2, .int l2), (3, .int l3)]) hx hb dX8_lay_37 hl (by decide) rfl (fun ls hl => ?_)
              refine lv_aload hx hb dX8_lay_39 (lv_at hl 0 rfl) ?_
              refine lv_ifnonnull (tgt := 47) hx hb dX8_lay_41 (by decide) ?_
              refine lv_aload hx hb dX8_lay_47 (lv_at hl 1 rfl) ?_
              obtain ⟨v7, hv, hM⟩ := e_bs hM
              refine e_getR (C := RX4) (T := TX4) (N := 4) E J hv rfl inX4 (by decide) q_1_187 dX8_lay_49 ?_
              rcases v7 with _ | a8
              · have hM := e_on0 hM
                refine W.eq (g2 := F0 m 52 ls [.null]) rfl ?_
                refine lv_aload hx hb dX8_lay_52 (lv_at hl 0 rfl) ?_
                exact e_no hM
              · have hM := e_on1 hM
                refine W.eq (g2 := F0 m 52 ls [.ref (e_ad G a8)]) rfl ?_
                refine lv_aload hx hb dX8_lay_52 (lv_at hl 0 rfl) ?_
                obtain ⟨h9, hv, hM⟩ := e_bs hM
                obtain ⟨fs_, hk, -⟩ := e_bs hv
                refine e_callV (ci := 0) (As := [.ref (e_ad G a6)]) (rest := []) (n := 1) E J hk rfl (mX0_becomes (l := l) (G := G) a8 a6 h _ hv) q_4_190 q_4_191 q_4_192 q_1_3 q_4_193 (by decide +kernel) rfl ⟨Nat.le_of_ble_eq_true rfl, Nat.le_of_ble_eq_true rfl⟩ (st0 := [.ref (e_ad G a6), .ref (e_ad G a8)]) (st1 := []) rfl rfl hl.1 (Nat.le_of_ble_eq_true rfl) dX8_lay_54 ⟨Nat.le_refl _, Nat.le_refl _⟩ (fun H locs J => ?_)
                refine lv_goto (tgt := 117) hx hb dX8_lay_57 (by decide) ?_
                exact mX8_lay_b117 E l2 a2 h9 hM J (lv_sub hl [4, 1] rfl)
      · have hM := e_in hc hM
        refine lv_ldc (v := -1000000001) hx hb hown (hts _ q_1_237) dX8_lay_21 ?_
        obtain rfl := e_so hM
        exact e_iret E J dX8_lay_23
set_option maxRecDepth 100000 in
set_option maxHeartbeats 4000000 in
theorem mX8_ask {l : Launch} {G : e_G} (l0 : Nat) (l1 : Int32) (l2 : Int32) (h : e_H) (res : Int32) (hM : fX8_ask l0 l1 l2 h = some res) : Met l yX8_ask (e_W yX8_ask cX8_ask 4 (some FieldType.int)) (e_rm 3 63) (e_Pc G h [.ref (e_ad G l0), .int l1, .int l2]) (e_Q G h (some (.int res))) 0 0 (e_A G) := by
  refine Met.ofW (cc := cX8_ask) (maxL := 4) (ret := (some FieldType.int)) (by decide) rfl ?_
  intro p e s m args below meth c s₁ B hml hv
  obtain ⟨rfl, hS, hP⟩ := hv
  have E := e_enter (own := RX8) (ret := (some FieldType.int)) B hml rfl hS hP
  have J : e_J G s h s.heap [] := ⟨hP, va_S.rf⟩
  have hl := lv_entry ([.ref (e_ad G l0), .int l1, .int l2]) (n := 4) (Nat.le_of_ble_eq_true rfl)
  rw [lg_entry_eq]
  generalize (lg_sl ([.ref (e_ad G l0), .int l1, .int l2]) ++ List.replicate (4 - (lg_sl ([.ref (e_ad G l0), .int l1, .int l2])).length) Slot.unset).toArray = ls at hl ⊢
  have hl : lv_has ls 4 [(0, .ref (e_ad G l0)), (1, .int l1), (2, .int l2)] := hl
  obtain ⟨hx, hb, hr, hml, hown, hts, hlocks, hES, hbs⟩ := id E
  unfold fX8_ask at hM
  obtain ⟨fs_, hk_, hM⟩ := e_bs hM
  refine lv_aload_n hx hb dX8_ask_0 rfl (lv_at hl 0 rfl) ?_
  refine lv_iload_n hx hb dX8_ask_1 rfl (lv_at hl 1 rfl) ?_
  obtain ⟨v1, hv, hM⟩ := e_bs hM
  obtain ⟨fs_, hk, -⟩ := e_bs hv
  refine e_callV (ci := 8) (As := [.int l1]) (rest := []) (n := 1) E J hk rfl (mX8_slotOf (l := l) (G := G) l0 l1 h _ hv) q_4_186 q_4_188 q_p_14 q_1_1 q_4_189 (by decide +kernel) rfl ⟨Nat.le_of_ble_eq_true rfl, Nat.le_of_ble_eq_true rfl⟩ (st0 := [.int l1, .ref (e_ad G l0)]) (st1 := [e_r G v1]) rfl rfl hl.1 (Nat.le_of_ble_eq_true rfl) dX8_ask_2 ⟨Nat.le_refl _, Nat.le_refl _⟩ (fun H locs J => ?_)
  rcases v1 with _ | a2
  · have hM := e_on0 hM
    refine W.eq (g2 := F0 m 5 ls [.null]) rfl ?_
    refine lv_astore_nN (lv' := [(3, .null), (0, .ref (e_ad G l0)), (1, .int l1), (2, .int l2)]) hx hb dX8_ask_5 rfl hl (by decide) rfl (fun ls hl => ?_)
    refine lv_aload_nN hx hb dX8_ask_6 rfl (lv_at hl 0 rfl) ?_
    refine lv_ifnullN (tgt := 17) hx hb dX8_ask_7 (by decide) ?_
    refine lv_ldc (v := -1000000001) hx hb hown (hts _ q_1_237) dX8_ask_17 ?_
    obtain rfl := e_so hM
    exact e_iret E J dX8_ask_19
  · have hM := e_on1 hM
    refine W.eq (g2 := F0 m 5 ls [.ref (e_ad G a2)]) rfl ?_
    refine lv_astore_n (lv' := [(3, .ref (e_ad G a2)), (0, .ref (e_ad G l0)), (1, .int l1), (2, .int l2)]) hx hb dX8_ask_5 rfl hl (by decide) rfl (fun ls hl => ?_)
    refine lv_aload_n hx hb dX8_ask_6 rfl (lv_at hl 0 rfl) ?_
    refine lv_ifnull hx hb dX8_ask_7 ?_
    refine lv_iload_n hx hb dX8_ask_10 rfl (lv_at hl 3 rfl) ?_
    obtain ⟨v3, hv, hM⟩ := e_bs hM
    refine e_callS (As := [.int l2]) (rest := []) (n := 1) E J (mX8_isKind (l := l) (G := G) l2 h _ hv) q_1_234 q_1_235 q_1_1 q_1_236 (by decide +kernel) rfl ⟨Nat.le_of_ble_eq_true rfl, Nat.le_of_ble_eq_true rfl⟩ (st0 := [.int l2]) (st1 := [.int (e_b v3)]) rfl rfl hl.1 (Nat.le_of_ble_eq_true rfl) dX8_ask_11 ⟨Nat.le_refl _, Nat.le_refl _⟩ (fun H locs J => ?_)
    refine lv_if_ne (tgt := 20) hx hb dX8_ask_14 (by decide) (fun hc => ?_) (fun hc => ?_)
    · have hM := e_in hc hM
      refine lv_aload_n hx hb dX8_ask_20 rfl (lv_at hl 0 rfl) ?_
      obtain ⟨v4, hv, hM⟩ := e_bs hM
      refine e_getI (C := RX4) (T := TX4) (N := 4) E J hv rfl inX4 (by decide) q_1_183 dX8_ask_21 ?_
      refine lv_if_ne (tgt := 31) hx hb dX8_ask_24 (by decide) (fun hc => ?_) (fun hc => ?_)
      · have hM := e_in hc hM
        refine lv_aload_n hx hb dX8_ask_31 rfl (lv_at hl 0 rfl) ?_
        obtain ⟨v5, hv, hM⟩ := e_bs hM
        refine e_getI (C := RX4) (T := TX4) (N := 4) E J hv rfl inX4 (by decide) q_1_183 dX8_ask_32 ?_
        refine lv_iconst (v := nI 1) hx hb dX8_ask_35 (by decide) ?_
        refine lv_icmp_ne (tgt := 60) hx hb dX8_ask_36 (by decide) (fun hc => ?_) (fun hc => ?_)
        · have hM := e_in hc hM
          refine lv_ldc (v := -1000000012) hx hb hown (hts _ q_2_123) dX8_ask_60 ?_
          obtain rfl := e_so hM
          exact e_iret E J dX8_ask_62
        · have hM := e_ip hc hM
          refine lv_aload_n hx hb dX8_ask_39 rfl (lv_at hl 0 rfl) ?_
          obtain ⟨v6, hv, hM⟩ := e_bs hM
          refine e_getR (C := RX4) (T := TX4) (N := 4) E J hv rfl inX4 (by decide) q_1_187 dX8_ask_40 ?_
          rcases v6 with _ | a7
          · have hM := e_on0 hM
            refine W.eq (g2 := F0 m 43 ls [.null]) rfl ?_
            refine lv_iload_n hx hb dX8_ask_43 rfl (lv_at hl 3 rfl) ?_
            exact e_no hM
          · have hM := e_on1 hM
            refine W.eq (g2 := F0 m 43 ls [.ref (e_ad G a7)]) rfl ?_
            refine lv_iload_n hx hb dX8_ask_43 rfl (lv_at hl 3 rfl) ?_
            obtain ⟨v8, hv, hM⟩ := e_bs hM
            obtain ⟨fs_, hk, -⟩ := e_bs hv
            refine e_callV (ci := 0) (As := [.int l2]) (rest := []) (n := 1) E J hk rfl (mX0_isOf (l := l) (G := G) a7 l2 h _ hv) q_2_121 q_2_40 q_2_41 q_1_3 q_2_42 (by decide +kernel) rfl ⟨Nat.le_of_ble_eq_true rfl, Nat.le_of_ble_eq_true rfl⟩ (st0 := [.int l2, .ref (e_ad G a7)]) (st1 := [.int (e_b v8)]) rfl rfl hl.1 (Nat.le_of_ble_eq_true rfl) dX8_ask_44 ⟨Nat.le_refl _, Nat.le_refl _⟩ (fun H locs J => ?_)
            refine lv_if_eq (tgt := 60) hx hb dX8_ask_47 (by decide) (fun hc => ?_) (fun hc => ?_)
            · have hM := e_ip hc hM
              refine lv_ldc (v := -1000000012) hx hb hown (hts _ q_2_123) dX8_ask_60 ?_
              obtain rfl := e_so hM
              exact e_iret E J dX8_ask_62
            · have hM := e_in hc hM
              refine lv_aload_n hx hb dX8_ask_50 rfl (lv_at hl 0 rfl) ?_
              obtain ⟨v9, hv, hM⟩ := e_bs hM
              refine e_getR (C := RX4) (T := TX4) (N := 4) E J hv rfl inX4 (by decide) q_1_187 dX8_ask_51 ?_
              rcases v9 with _ | a10
              · have hM := e_on0 hM
                refine W.eq (g2 := F0 m 54 ls [.null]) rfl ?_
                exact e_no hM
              · have hM := e_on1 hM
                refine W.eq (g2 := F0 m 54 ls [.ref (e_ad G a10)]) rfl ?_
                obtain ⟨v11, hv, hM⟩ := e_bs hM
                obtain ⟨fs_, hk, -⟩ := e_bs hv
                refine e_callV (ci := 0) (As := []) (rest := []) (n := 0) E J hk rfl (mX0_worth (l := l) (G := G) a10 h _ hv) q_2_85 q_2_86 q_2_87 q_1_3 q_2_88 (by decide +kernel) rfl ⟨Nat.le_of_ble_eq_true rfl, Nat.le_of_ble_eq_true rfl⟩ (st0 := [.ref (e_ad G a10)]) (st1 := [.int v11]) rfl rfl hl.1 (Nat.le_of_ble_eq_true rfl) dX8_ask_54 ⟨Nat.le_refl _, Nat.le_refl _⟩ (fun H locs J => ?_)
                refine lv_goto (tgt := 62) hx hb dX8_ask_57 (by decide) ?_
                obtain rfl := e_so hM
                exact e_iret E J dX8_ask_62
      · have hM := e_ip hc hM
        refine lv_ldcw (v := -1000000011) hx hb hown (hts _ q_4_152) dX8_ask_27 ?_
        obtain rfl := e_so hM
        exact e_iret E J dX8_ask_30
    · have hM := e_ip hc hM
      refine lv_ldc (v := -1000000001) hx hb hown (hts _ q_1_237) dX8_ask_17 ?_
      obtain rfl := e_so hM
      exact e_iret E J dX8_ask_19
set_option maxRecDepth 100000 in
set_option maxHeartbeats 4000000 in
theorem mX8_item {l : Launch} {G : e_G} (l0 : Nat) (l1 : Int32) (l2 : Int32) (h : e_H) (res : Int32) (hM : fX8_item l0 l1 l2 h = some res) : Met l yX8_item (e_W yX8_item cX8_item 5 (some FieldType.int)) (e_rm 2 42) (e_Pc G h [.ref (e_ad G l0), .int l1, .int l2]) (e_Q G h (some (.int res))) 0 0 (e_A G) := by
  refine Met.ofW (cc := cX8_item) (maxL := 5) (ret := (some FieldType.int)) (by decide) rfl ?_
  intro p e s m args below meth c s₁ B hml hv
  obtain ⟨rfl, hS, hP⟩ := hv
  have E := e_enter (own := RX8) (ret := (some FieldType.int)) B hml rfl hS hP
  have J : e_J G s h s.heap [] := ⟨hP, va_S.rf⟩
  have hl := lv_entry ([.ref (e_ad G l0), .int l1, .int l2]) (n := 5) (Nat.le_of_ble_eq_true rfl)
  rw [lg_entry_eq]
  generalize (lg_sl ([.ref (e_ad G l0), .int l1, .int l2]) ++ List.replicate (5 - (lg_sl ([.ref (e_ad G l0), .int l1, .int l2])).length) Slot.unset).toArray = ls at hl ⊢
  have hl : lv_has ls 5 [(0, .ref (e_ad G l0)), (1, .int l1), (2, .int l2)] := hl
  obtain ⟨hx, hb, hr, hml, hown, hts, hlocks, hES, hbs⟩ := id E
  unfold fX8_item at hM
  obtain ⟨fs_, hk_, hM⟩ := e_bs hM
  refine lv_aload_n hx hb dX8_item_0 rfl (lv_at hl 0 rfl) ?_
  refine lv_iload_n hx hb dX8_item_1 rfl (lv_at hl 1 rfl) ?_
  obtain ⟨v1, hv, hM⟩ := e_bs hM
  obtain ⟨fs_, hk, -⟩ := e_bs hv
  refine e_callV (ci := 8) (As := [.int l1]) (rest := []) (n := 1) E J hk rfl (mX8_slotOf (l := l) (G := G) l0 l1 h _ hv) q_4_186 q_4_188 q_p_14 q_1_1 q_4_189 (by decide +kernel) rfl ⟨Nat.le_of_ble_eq_true rfl, Nat.le_of_ble_eq_true rfl⟩ (st0 := [.int l1, .ref (e_ad G l0)]) (st1 := [e_r G v1]) rfl rfl hl.1 (Nat.le_of_ble_eq_true rfl) dX8_item_2 ⟨Nat.le_refl _, Nat.le_refl _⟩ (fun H locs J => ?_)
  rcases v1 with _ | a2
  · have hM := e_on0 hM
    refine W.eq (g2 := F0 m 5 ls [.null]) rfl ?_
    refine lv_astore_nN (lv' := [(3, .null), (0, .ref (e_ad G l0)), (1, .int l1), (2, .int l2)]) hx hb dX8_item_5 rfl hl (by decide) rfl (fun ls hl => ?_)
    refine lv_aload_nN hx hb dX8_item_6 rfl (lv_at hl 0 rfl) ?_
    refine lv_ifnonnullN hx hb dX8_item_7 ?_
    refine lv_ldc (v := -1000000001) hx hb hown (hts _ q_1_237) dX8_item_10 ?_
    obtain rfl := e_so hM
    exact e_iret E J dX8_item_12
  · have hM := e_on1 hM
    refine W.eq (g2 := F0 m 5 ls [.ref (e_ad G a2)]) rfl ?_
    refine lv_astore_n (lv' := [(3, .ref (e_ad G a2)), (0, .ref (e_ad G l0)), (1, .int l1), (2, .int l2)]) hx hb dX8_item_5 rfl hl (by decide) rfl (fun ls hl => ?_)
    refine lv_aload_n hx hb dX8_item_6 rfl (lv_at hl 0 rfl) ?_
    refine lv_ifnonnull (tgt := 13) hx hb dX8_item_7 (by decide) ?_
    refine lv_aload_n hx hb dX8_item_13 rfl (lv_at hl 0 rfl) ?_
    obtain ⟨v3, hv, hM⟩ := e_bs hM
    refine e_getI (C := RX4) (T := TX4) (N := 4) E J hv rfl inX4 (by decide) q_1_183 dX8_item_14 ?_
    refine lv_if_ne (tgt := 24) hx hb dX8_item_17 (by decide) (fun hc => ?_) (fun hc => ?_)
    · have hM := e_in hc hM
      refine lv_aload_n hx hb dX8_item_24 rfl (lv_at hl 0 rfl) ?_
      obtain ⟨v4, hv, hM⟩ := e_bs hM
      refine e_getI (C := RX4) (T := TX4) (N := 4) E J hv rfl inX4 (by decide) q_1_183 dX8_item_25 ?_
      refine lv_iconst (v := nI 2) hx hb dX8_item_28 (by decide) ?_
      refine lv_icmp_eq (tgt := 35) hx hb dX8_item_29 (by decide) (fun hc => ?_) (fun hc => ?_)
      · have hM := e_ip hc hM
        refine lv_aload_n hx hb dX8_item_35 rfl (lv_at hl 0 rfl) ?_
        obtain ⟨v5, hv, hM⟩ := e_bs hM
        refine e_getR (C := RX4) (T := TX4) (N := 4) E J hv rfl inX4 (by decide) q_1_189 dX8_item_36 ?_
        rcases v5 with _ | a6
        · have hM := e_on0 hM
          refine W.eq (g2 := F0 m 39 ls [.null]) rfl ?_
          refine lv_iload_n hx hb dX8_item_39 rfl (lv_at hl 3 rfl) ?_
          exact e_no hM
        · have hM := e_on1 hM
          refine W.eq (g2 := F0 m 39 ls [.ref (e_ad G a6)]) rfl ?_
          refine lv_iload_n hx hb dX8_item_39 rfl (lv_at hl 3 rfl) ?_
          obtain ⟨v7, hv, hM⟩ := e_bs hM
          obtain ⟨fs_, hk, -⟩ := e_bs hv
          refine e_callV (ci := 2) (As := [.int l2]) (rest := []) (n := 1) E J hk rfl (mX2_hasPlace (l := l) (G := G) a6 l2 h _ hv) q_4_153 q_4_154 q_4_155 q_1_7 q_4_156 (by decide +kernel) rfl ⟨Nat.le_of_ble_eq_true rfl, Nat.le_of_ble_eq_true rfl⟩ (st0 := [.int l2, .ref (e_ad G a6)]) (st1 := [.int (e_b v7)]) rfl rfl hl.1 (Nat.le_of_ble_eq_true rfl) dX8_item_40 ⟨Nat.le_refl _, Nat.le_refl _⟩ (fun H locs J => ?_)
          refine lv_if_ne (tgt := 50) hx hb dX8_item_43 (by decide) (fun hc => ?_) (fun hc => ?_)
          · have hM := e_in hc hM
            refine lv_aload_n hx hb dX8_item_50 rfl (lv_at hl 0 rfl) ?_
            obtain ⟨v8, hv, hM⟩ := e_bs hM
            refine e_getR (C := RX4) (T := TX4) (N := 4) E J hv rfl inX4 (by decide) q_1_189 dX8_item_51 ?_
            rcases v8 with _ | a9
            · have hM := e_on0 hM
              refine W.eq (g2 := F0 m 54 ls [.null]) rfl ?_
              refine lv_iload_n hx hb dX8_item_54 rfl (lv_at hl 3 rfl) ?_
              exact e_no hM
            · have hM := e_on1 hM
              refine W.eq (g2 := F0 m 54 ls [.ref (e_ad G a9)]) rfl ?_
              refine lv_iload_n hx hb dX8_item_54 rfl (lv_at hl 3 rfl) ?_
              obtain ⟨v10, hv, hM⟩ := e_bs hM
              obtain ⟨fs_, hk, -⟩ := e_bs hv
              refine e_callV (ci := 2) (As := [.int l2]) (rest := []) (n := 1) E J hk rfl (mX2_placeAt (l := l) (G := G) a9 l2 h _ hv) q_4_169 q_4_170 q_4_171 q_1_7 q_4_172 (by decide +kernel) rfl ⟨Nat.le_of_ble_eq_true rfl, Nat.le_of_ble_eq_true rfl⟩ (st0 := [.int l2, .ref (e_ad G a9)]) (st1 := [.int v10]) rfl rfl hl.1 (Nat.le_of_ble_eq_true rfl) dX8_item_55 ⟨Nat.le_refl _, Nat.le_refl _⟩ (fun H locs J => ?_)
              refine lv_istore (lv' := [(4, .int v10), (3, .ref (e_ad G a2)), (0, .ref (e_ad G l0)), (1, .int l1), (2, .int l2)]) hx hb dX8_item_58 hl (by decide) rfl (fun ls hl => ?_)
              refine lv_iload hx hb dX8_item_60 (lv_at hl 0 rfl) ?_
              refine lv_ldc (v := -1000000005) hx hb hown (hts _ q_3_48) dX8_item_62 ?_
              refine lv_icmp_ne (tgt := 72) hx hb dX8_item_64 (by decide) (fun hc => ?_) (fun hc => ?_)
              · have hM := e_in hc hM
                refine lv_iload hx hb dX8_item_72 (lv_at hl 0 rfl) ?_
                obtain rfl := e_so hM
                exact e_iret E J dX8_item_74
              · have hM := e_ip hc hM
                refine lv_ldc (v := -1000000012) hx hb hown (hts _ q_2_123) dX8_item_67 ?_
                refine lv_goto (tgt := 74) hx hb dX8_item_69 (by decide) ?_
                obtain rfl := e_so hM
                exact e_iret E J dX8_item_74
          · have hM := e_ip hc hM
            refine lv_ldcw (v := -1000000013) hx hb hown (hts _ q_4_157) dX8_item_46 ?_
            obtain rfl := e_so hM
            exact e_iret E J dX8_item_49
      · have hM := e_in hc hM
        refine lv_ldc (v := -1000000012) hx hb hown (hts _ q_2_123) dX8_item_32 ?_
        obtain rfl := e_so hM
        exact e_iret E J dX8_item_34
    · have hM := e_ip hc hM
      refine lv_ldcw (v := -1000000011) hx hb hown (hts _ q_4_152) dX8_item_20 ?_
      obtain rfl := e_so hM
      exact e_iret E J dX8_item_23
set_option maxRecDepth 100000 in
set_option maxHeartbeats 4000000 in
theorem mX8_rest {l : Launch} {G : e_G} (l0 : Nat) (l1 : Int32) (l2 : Int32) (h : e_H) (res : Int32) (hM : fX8_rest l0 l1 l2 h = some res) : Met l yX8_rest (e_W yX8_rest cX8_rest 4 (some FieldType.int)) (e_rm 1 21) (e_Pc G h [.ref (e_ad G l0), .int l1, .int l2]) (e_Q G h (some (.int res))) 0 0 (e_A G) := by
  refine Met.ofW (cc := cX8_rest) (maxL := 4) (ret := (some FieldType.int)) (by decide) rfl ?_
  intro p e s m args below meth c s₁ B hml hv
  obtain ⟨rfl, hS, hP⟩ := hv
  have E := e_enter (own := RX8) (ret := (some FieldType.int)) B hml rfl hS hP
  have J : e_J G s h s.heap [] := ⟨hP, va_S.rf⟩
  have hl := lv_entry ([.ref (e_ad G l0), .int l1, .int l2]) (n := 4) (Nat.le_of_ble_eq_true rfl)
  rw [lg_entry_eq]
  generalize (lg_sl ([.ref (e_ad G l0), .int l1, .int l2]) ++ List.replicate (4 - (lg_sl ([.ref (e_ad G l0), .int l1, .int l2])).length) Slot.unset).toArray = ls at hl ⊢
  have hl : lv_has ls 4 [(0, .ref (e_ad G l0)), (1, .int l1), (2, .int l2)] := hl
  obtain ⟨hx, hb, hr, hml, hown, hts, hlocks, hES, hbs⟩ := id E
  unfold fX8_rest at hM
  obtain ⟨fs_, hk_, hM⟩ := e_bs hM
  refine lv_aload_n hx hb dX8_rest_0 rfl (lv_at hl 0 rfl) ?_
  refine lv_iload_n hx hb dX8_rest_1 rfl (lv_at hl 1 rfl) ?_
  obtain ⟨v1, hv, hM⟩ := e_bs hM
  obtain ⟨fs_, hk, -⟩ := e_bs hv
  refine e_callV (ci := 8) (As := [.int l1]) (rest := []) (n := 1) E J hk rfl (mX8_slotOf (l := l) (G := G) l0 l1 h _ hv) q_4_186 q_4_188 q_p_14 q_1_1 q_4_189 (by decide +kernel) rfl ⟨Nat.le_of_ble_eq_true rfl, Nat.le_of_ble_eq_true rfl⟩ (st0 := [.int l1, .ref (e_ad G l0)]) (st1 := [e_r G v1]) rfl rfl hl.1 (Nat.le_of_ble_eq_true rfl) dX8_rest_2 ⟨Nat.le_refl _, Nat.le_refl _⟩ (fun H locs J => ?_)
  rcases v1 with _ | a2
  · have hM := e_on0 hM
    refine W.eq (g2 := F0 m 5 ls [.null]) rfl ?_
    refine lv_astore_nN (lv' := [(3, .null), (0, .ref (e_ad G l0)), (1, .int l1), (2, .int l2)]) hx hb dX8_rest_5 rfl hl (by decide) rfl (fun ls hl => ?_)
    refine lv_aload_nN hx hb dX8_rest_6 rfl (lv_at hl 0 rfl) ?_
    refine lv_ifnonnullN hx hb dX8_rest_7 ?_
    refine lv_ldc (v := -1000000001) hx hb hown (hts _ q_1_237) dX8_rest_10 ?_
    obtain rfl := e_so hM
    exact e_iret E J dX8_rest_12
  · have hM := e_on1 hM
    refine W.eq (g2 := F0 m 5 ls [.ref (e_ad G a2)]) rfl ?_
    refine lv_astore_n (lv' := [(3, .ref (e_ad G a2)), (0, .ref (e_ad G l0)), (1, .int l1), (2, .int l2)]) hx hb dX8_rest_5 rfl hl (by decide) rfl (fun ls hl => ?_)
    refine lv_aload_n hx hb dX8_rest_6 rfl (lv_at hl 0 rfl) ?_
    refine lv_ifnonnull (tgt := 13) hx hb dX8_rest_7 (by decide) ?_
    refine lv_aload_n hx hb dX8_rest_13 rfl (lv_at hl 0 rfl) ?_
    obtain ⟨v3, hv, hM⟩ := e_bs hM
    refine e_getI (C := RX4) (T := TX4) (N := 4) E J hv rfl inX4 (by decide) q_1_183 dX8_rest_14 ?_
    refine lv_if_ne (tgt := 24) hx hb dX8_rest_17 (by decide) (fun hc => ?_) (fun hc => ?_)
    · have hM := e_in hc hM
      refine lv_aload_n hx hb dX8_rest_24 rfl (lv_at hl 0 rfl) ?_
      obtain ⟨v4, hv, hM⟩ := e_bs hM
      refine e_getI (C := RX4) (T := TX4) (N := 4) E J hv rfl inX4 (by decide) q_1_183 dX8_rest_25 ?_
      refine lv_iconst (v := nI 3) hx hb dX8_rest_28 (by decide) ?_
      refine lv_icmp_eq (tgt := 35) hx hb dX8_rest_29 (by decide) (fun hc => ?_) (fun hc => ?_)
      · have hM := e_ip hc hM
        refine lv_iload_n hx hb dX8_rest_35 rfl (lv_at hl 3 rfl) ?_
        refine lv_if_ne (tgt := 44) hx hb dX8_rest_36 (by decide) (fun hc => ?_) (fun hc => ?_)
        · have hM := e_in hc hM
          refine lv_aload_n hx hb dX8_rest_44 rfl (lv_at hl 0 rfl) ?_
          obtain ⟨v5, hv, hM⟩ := e_bs hM
          refine e_getI (C := RX4) (T := TX4) (N := 4) E J hv rfl inX4 (by decide) q_1_185 dX8_rest_45 ?_
          refine lv_iload_n hx hb dX8_rest_48 rfl (lv_at hl 3 rfl) ?_
          obtain ⟨hz, hM⟩ := e_if0 hM
          refine lv_irem hx hb dX8_rest_49 hz ?_
          obtain rfl := e_so hM
          exact e_iret E J dX8_rest_50
        · have hM := e_ip hc hM
          refine lv_ldc (v := -1000000002) hx hb hown (hts _ q_2_230) dX8_rest_39 ?_
          refine lv_goto (tgt := 50) hx hb dX8_rest_41 (by decide) ?_
          obtain rfl := e_so hM
          exact e_iret E J dX8_rest_50
      · have hM := e_in hc hM
        refine lv_ldc (v := -1000000012) hx hb hown (hts _ q_2_123) dX8_rest_32 ?_
        obtain rfl := e_so hM
        exact e_iret E J dX8_rest_34
    · have hM := e_ip hc hM
      refine lv_ldcw (v := -1000000011) hx hb hown (hts _ q_4_152) dX8_rest_20 ?_
      obtain rfl := e_so hM
      exact e_iret E J dX8_rest_23
set_option maxRecDepth 100000 in
set_option maxHeartbeats 4000000 in
theorem mX8_tell {l : Launch} {G : e_G} (l0 : Nat) (l1 : Int32) (h : e_H) (res : (Int32 × e_H)) (hM : fX8_tell l0 l1 h = some res) : Met l yX8_tell (e_W yX8_tell cX8_tell 2 (some FieldType.int)) (e_rm 0 0) (e_Pc G h [.ref (e_ad G l0), .int l1]) (e_Q G res.2 (some (.int res.1))) 0 0 (e_A G) := by
  refine Met.ofW (cc := cX8_tell) (maxL := 2) (ret := (some FieldType.int)) (by decide) rfl ?_
  intro p e s m args below meth c s₁ B hml hv
  obtain ⟨rfl, hS, hP⟩ := hv
  have E := e_enter (own := RX8) (ret := (some FieldType.int)) B hml rfl hS hP
  have J : e_J G s h s.heap [] := ⟨hP, va_S.rf⟩
  have hl := lv_entry ([.ref (e_ad G l0), .int l1]) (n := 2) (Nat.le_of_ble_eq_true rfl)
  rw [lg_entry_eq]
  generalize (lg_sl ([.ref (e_ad G l0), .int l1]) ++ List.replicate (2 - (lg_sl ([.ref (e_ad G l0), .int l1])).length) Slot.unset).toArray = ls at hl ⊢
  have hl : lv_has ls 2 [(0, .ref (e_ad G l0)), (1, .int l1)] := hl
  obtain ⟨hx, hb, hr, hml, hown, hts, hlocks, hES, hbs⟩ := id E
  unfold fX8_tell at hM
  obtain ⟨fs_, hk_, hM⟩ := e_bs hM
  refine lv_aload_n hx hb dX8_tell_0 rfl (lv_at hl 0 rfl) ?_
  obtain ⟨v1, hv, hM⟩ := e_bs hM
  refine e_getI (C := RX8) (T := TX8) (N := 10) E J hv rfl inX8 (by decide) q_1_207 dX8_tell_1 ?_
  refine lv_if_lt (tgt := 19) hx hb dX8_tell_4 (by decide) (fun hc => ?_) (fun hc => ?_)
  · have hM := e_ip hc hM
    refine lv_ldc (v := -1000000003) hx hb hown (hts _ q_2_9) dX8_tell_19 ?_
    obtain rfl := e_so hM
    exact e_iret E J dX8_tell_21
  · have hM := e_in hc hM
    refine lv_aload_n hx hb dX8_tell_7 rfl (lv_at hl 0 rfl) ?_
    obtain ⟨v2, hv, hM⟩ := e_bs hM
    refine e_getI (C := RX8) (T := TX8) (N := 10) E J hv rfl inX8 (by decide) q_1_207 dX8_tell_8 ?_
    refine lv_aload_n hx hb dX8_tell_11 rfl (lv_at hl 0 rfl) ?_
    obtain ⟨v3, hv, hM⟩ := e_bs hM
    refine e_getR (C := RX8) (T := TX8) (N := 10) E J hv rfl inX8 (by decide) q_1_206 dX8_tell_12 ?_
    rcases v3 with _ | a4
    · have hM := e_on0 hM
      refine W.eq (g2 := F0 m 15 ls [.null, .int v2]) rfl ?_
      exact e_no hM
    · have hM := e_on1 hM
      refine W.eq (g2 := F0 m 15 ls [.ref (e_ad G a4), .int v2]) rfl ?_
      obtain ⟨v5, hv, hM⟩ := e_bs hM
      refine e_alen E J hv rfl rfl dX8_tell_15 ?_
      refine lv_icmp_lt (tgt := 22) hx hb dX8_tell_16 (by decide) (fun hc => ?_) (fun hc => ?_)
      · have hM := e_ip hc hM
        refine lv_aload_n hx hb dX8_tell_22 rfl (lv_at hl 0 rfl) ?_
        obtain ⟨v6, hv, hM⟩ := e_bs hM
        refine e_getR (C := RX8) (T := TX8) (N := 10) E J hv rfl inX8 (by decide) q_1_206 dX8_tell_23 ?_
        rcases v6 with _ | a7
        · have hM := e_on0 hM
          refine W.eq (g2 := F0 m 26 ls [.null]) rfl ?_
          refine lv_aload_n hx hb dX8_tell_26 rfl (lv_at hl 0 rfl) ?_
          obtain ⟨v8, hv, hM⟩ := e_bs hM
          refine e_getI (C := RX8) (T := TX8) (N := 10) E J hv rfl inX8 (by decide) q_1_207 dX8_tell_27 ?_
          refine lv_iload_n hx hb dX8_tell_30 rfl (lv_at hl 1 rfl) ?_
          exact e_no hM
        · have hM := e_on1 hM
          refine W.eq (g2 := F0 m 26 ls [.ref (e_ad G a7)]) rfl ?_
          refine lv_aload_n hx hb dX8_tell_26 rfl (lv_at hl 0 rfl) ?_
          obtain ⟨v10, hv, hM⟩ := e_bs hM
          refine e_getI (C := RX8) (T := TX8) (N := 10) E J hv rfl inX8 (by decide) q_1_207 dX8_tell_27 ?_
          refine lv_iload_n hx hb dX8_tell_30 rfl (lv_at hl 1 rfl) ?_
          obtain ⟨h11, hv, hM⟩ := e_bs hM
          refine e_iast E J hv dX8_tell_31 (fun H locs J => ?_)
          refine lv_aload_n hx hb dX8_tell_32 rfl (lv_at hl 0 rfl) ?_
          refine lv_dup hx hb dX8_tell_33 rfl ?_
          obtain ⟨v12, hv, hM⟩ := e_bs hM
          refine e_getI (C := RX8) (T := TX8) (N := 10) E J hv rfl inX8 (by decide) q_1_207 dX8_tell_34 ?_
          refine lv_iconst (v := nI 1) hx hb dX8_tell_37 (by decide) ?_
          refine lv_iadd hx hb dX8_tell_38 ?_
          obtain ⟨h13, hv, hM⟩ := e_bs hM
          refine e_putv (C := RX8) (T := TX8) (N := 10) E J hv rfl rfl inX8 tyX8 tyX8_ok nmX8 (by decide) q_1_207 rfl rfl rfl rfl dX8_tell_39 (fun H locs J => ?_)
          refine lv_aload_n hx hb dX8_tell_42 rfl (lv_at hl 0 rfl) ?_
          obtain ⟨v14, hv, hM⟩ := e_bs hM
          refine e_getI (C := RX8) (T := TX8) (N := 10) E J hv rfl inX8 (by decide) q_1_207 dX8_tell_43 ?_
          obtain rfl := e_so hM
          exact e_iret E J dX8_tell_46
      · have hM := e_in hc hM
        refine lv_ldc (v := -1000000003) hx hb hown (hts _ q_2_9) dX8_tell_19 ?_
        obtain rfl := e_so hM
        exact e_iret E J dX8_tell_21
set_option maxRecDepth 100000 in
set_option maxHeartbeats 4000000 in
theorem mX6_stands {l : Launch} {G : e_G} (l0 : Nat) (l1 : Int32) (l2 : Int32) (l3 : Int32) (h : e_H) (res : Bool) (hM : fX6_stands l0 l1 l2 l3 h = some res) : Met l yX6_stands (e_W yX6_stands cX6_stands 4 (some FieldType.boolean)) (e_rm 0 0) (e_Pc G h [.ref (e_ad G l0), .int l1, .int l2, .int l3]) (e_Q G h (some (.int (e_b res)))) 0 0 (e_A G) := by
  refine Met.ofW (cc := cX6_stands) (maxL := 4) (ret := (some FieldType.boolean)) (by decide) rfl ?_
  intro p e s m args below meth c s₁ B hml hv
  obtain ⟨rfl, hS, hP⟩ := hv
  have E := e_enter (own := RX6) (ret := (some FieldType.boolean)) B hml rfl hS hP
  have J : e_J G s h s.heap [] := ⟨hP, va_S.rf⟩
  have hl := lv_entry ([.ref (e_ad G l0), .int l1, .int l2, .int l3]) (n := 4) (Nat.le_of_ble_eq_true rfl)
  rw [lg_entry_eq]
  generalize (lg_sl ([.ref (e_ad G l0), .int l1, .int l2, .int l3]) ++ List.replicate (4 - (lg_sl ([.ref (e_ad G l0), .int l1, .int l2, .int l3])).length) Slot.unset).toArray = ls at hl ⊢
  have hl : lv_has ls 4 [(0, .ref (e_ad G l0)), (1, .int l1), (2, .int l2), (3, .int l3)] := hl
  obtain ⟨hx, hb, hr, hml, hown, hts, hlocks, hES, hbs⟩ := id E
  unfold fX6_stands at hM
  refine lv_iload_n hx hb dX6_stands_0 rfl (lv_at hl 2 rfl) ?_
  refine lv_if_lt (tgt := 26) hx hb dX6_stands_1 (by decide) (fun hc => ?_) (fun hc => ?_)
  · have hM := e_ip hc hM
    refine lv_iconst (v := nI 0) hx hb dX6_stands_26 (by decide) ?_
    obtain rfl := e_so hM
    exact e_zret E J (false) rfl dX6_stands_27
  · have hM := e_in hc hM
    refine lv_iload_n hx hb dX6_stands_4 rfl (lv_at hl 2 rfl) ?_
    refine lv_iload_n hx hb dX6_stands_5 rfl (lv_at hl 1 rfl) ?_
    refine lv_icmp_ge (tgt := 26) hx hb dX6_stands_6 (by decide) (fun hc => ?_) (fun hc => ?_)
    · have hM := e_ip hc hM
      refine lv_iconst (v := nI 0) hx hb dX6_stands_26 (by decide) ?_
      obtain rfl := e_so hM
      exact e_zret E J (false) rfl dX6_stands_27
    · have hM := e_in hc hM
      refine lv_iload_n hx hb dX6_stands_9 rfl (lv_at hl 2 rfl) ?_
      refine lv_aload_n hx hb dX6_stands_10 rfl (lv_at hl 0 rfl) ?_
      obtain ⟨v1, hv, hM⟩ := e_bs hM
      refine e_alen E J hv rfl rfl dX6_stands_11 ?_
      refine lv_icmp_ge (tgt := 26) hx hb dX6_stands_12 (by decide) (fun hc => ?_) (fun hc => ?_)
      · have hM := e_ip hc hM
        refine lv_iconst (v := nI 0) hx hb dX6_stands_26 (by decide) ?_
        obtain rfl := e_so hM
        exact e_zret E J (false) rfl dX6_stands_27
      · have hM := e_in hc hM
        refine lv_aload_n hx hb dX6_stands_15 rfl (lv_at hl 0 rfl) ?_
        refine lv_iload_n hx hb dX6_stands_16 rfl (lv_at hl 2 rfl) ?_
        obtain ⟨v2, hv, hM⟩ := e_bs hM
        refine e_iald E J hv dX6_stands_17 ?_
        refine lv_iload_n hx hb dX6_stands_18 rfl (lv_at hl 3 rfl) ?_
        refine lv_icmp_ne (tgt := 26) hx hb dX6_stands_19 (by decide) (fun hc => ?_) (fun hc => ?_)
        · have hM := e_in hc hM
          refine lv_iconst (v := nI 0) hx hb dX6_stands_26 (by decide) ?_
          obtain rfl := e_so hM
          exact e_zret E J (false) rfl dX6_stands_27
        · have hM := e_ip hc hM
          refine lv_iconst (v := nI 1) hx hb dX6_stands_22 (by decide) ?_
          refine lv_goto (tgt := 27) hx hb dX6_stands_23 (by decide) ?_
          obtain rfl := e_so hM
          exact e_zret E J (true) rfl dX6_stands_27
set_option maxRecDepth 100000 in
set_option maxHeartbeats 4000000 in
theorem mX6_compareTold_b96 {p : Program} {l : Launch} {e : Env} {s : State} {m : MethodId} {args : Array Value} {below : List Frame} {meth : Method} {c : Code} {G : e_G} {res : Int32} (E : e_M G p s args m meth c cX6_compareTold 7 (some FieldType.int) RX6) (h : e_H) (l2 : Int32) (l4 : Int32) (hM : fX6_compareTold_b96 h l2 l4 = some res) {H : Heap} {locs : List Loc} (J : e_J G s h H locs) {ls : Array Slot} (hl : lv_has ls 7 [(2, .int l2), (4, .int l4)]) : W p l e (e_rm 1 23) s m args below meth c H locs 0 0 (MQ below (e_Q G h (some (.int res))) args s 0 0 (e_A G)) (F0 m 96 ls []) := by
  obtain ⟨hx, hb, hr, hml, hown, hts, hlocks, hES, hbs⟩ := id E
  unfold fX6_compareTold_b96 at hM
  refine lv_iload hx hb dX6_compareTold_96 (lv_at hl 1 rfl) ?_
  refine lv_iload_n hx hb dX6_compareTold_98 rfl (lv_at hl 0 rfl) ?_
  refine lv_icmp_ne (tgt := 106) hx hb dX6_compareTold_99 (by decide) (fun hc => ?_) (fun hc => ?_)
  · have hM := e_in hc hM
    refine lv_iconst (v := nI 1) hx hb dX6_compareTold_106 (by decide) ?_
    refine lv_iload hx hb dX6_compareTold_107 (lv_at hl 1 rfl) ?_
    refine lv_iadd hx hb dX6_compareTold_109 ?_
    obtain rfl := e_so hM
    exact e_iret E J dX6_compareTold_110
  · have hM := e_ip hc hM
    refine lv_iconst (v := nI 0) hx hb dX6_compareTold_102 (by decide) ?_
    refine lv_goto (tgt := 110) hx hb dX6_compareTold_103 (by decide) ?_
    obtain rfl := e_so hM
    exact e_iret E J dX6_compareTold_110
set_option maxRecDepth 100000 in
set_option maxHeartbeats 4000000 in
theorem mX6_compareTold_b90 {p : Program} {l : Launch} {e : Env} {s : State} {m : MethodId} {args : Array Value} {below : List Frame} {meth : Method} {c : Code} {G : e_G} {res : Int32} {k9 : Nat → Nat → Int32 → Int32 → Int32 → Int32 → Int32 → Option Int32} (E : e_M G p s args m meth c cX6_compareTold 7 (some FieldType.int) RX6) (h : e_H) (K9 : ∀ (l0 : Nat) (l1 : Nat) (l2 : Int32) (l3 : Int32) (l4 : Int32) (l5 : Int32) (l6 : Int32), k9 l0 l1 l2 l3 l4 l5 l6 = some res → ∀ (H : Heap) (locs : List Loc), e_J G s h H locs → ∀ (ls : Array Slot), lv_has ls 7 [(0, .ref (e_ad G l0)), (1, .ref (e_ad G l1)), (2, .int l2), (3, .int l3), (4, .int l4), (5, .int l5), (6, .int l6)] → W p l e (e_rm 1 23) s m args below meth c H locs 0 0 (MQ below (e_Q G h (some (.int res))) args s 0 0 (e_A G)) (F0 m 9 ls [])) (l0 : Nat) (l1 : Nat) (l2 : Int32) (l3 : Int32) (l4 : Int32) (l5 : Int32) (l6 : Int32) (hM : fX6_compareTold_b90 h k9 l0 l1 l2 l3 l4 l5 l6 = some res) {H : Heap} {locs : List Loc} (J : e_J G s h H locs) {ls : Array Slot} (hl : lv_has ls 7 [(0, .ref (e_ad G l0)), (1, .ref (e_ad G l1)), (2, .int l2), (3, .int l3), (4, .int l4), (5, .int l5), (6, .int l6)]) : W p l e (e_rm 1 23) s m args below meth c H locs 0 0 (MQ below (e_Q G h (some (.int res))) args s 0 0 (e_A G)) (F0 m 90 ls []) := by
  obtain ⟨hx, hb, hr, hml, hown, hts, hlocks, hES, hbs⟩ := id E
  unfold fX6_compareTold_b90 at hM
  refine lv_iinc (v := (l6 + (nI 1))) (lv' := [(6, .int (l6 + (nI 1))), (0, .ref (e_ad G l0)), (1, .ref (e_ad G l1)), (2, .int l2), (3, .int l3), (4, .int l4), (5, .int l5)]) hx hb dX6_compareTold_90 hl (k := 6) rfl rfl (by decide) rfl (fun ls hl => ?_)
  refine lv_goto (tgt := 9) hx hb dX6_compareTold_93 (by decide) ?_
  exact K9 l0 l1 l2 l3 l4 l5 (l6 + (nI 1)) hM _ _ J _ (lv_sub hl [1, 2, 3, 4, 5, 6, 0] rfl)
set_option maxRecDepth 100000 in
set_option maxHeartbeats 4000000 in
theorem mX6_compareTold_b9 {p : Program} {l : Launch} {e : Env} {s : State} {m : MethodId} {args : Array Value} {below : List Frame} {meth : Method} {c : Code} {G : e_G} {res : Int32} {k9 : Nat → Nat → Int32 → Int32 → Int32 → Int32 → Int32 → Option Int32} (E : e_M G p s args m meth c cX6_compareTold 7 (some FieldType.int) RX6) (h : e_H) (K9 : ∀ (l0 : Nat) (l1 : Nat) (l2 : Int32) (l3 : Int32) (l4 : Int32) (l5 : Int32) (l6 : Int32), k9 l0 l1 l2 l3 l4 l5 l6 = some res → ∀ (H : Heap) (locs : List Loc), e_J G s h H locs → ∀ (ls : Array Slot), lv_has ls 7 [(0, .ref (e_ad G l0)), (1, .ref (e_ad G l1)), (2, .int l2), (3, .int l3), (4, .int l4), (5, .int l5), (6, .int l6)] → W p l e (e_rm 1 23) s m args below meth c H locs 0 0 (MQ below (e_Q G h (some (.int res))) args s 0 0 (e_A G)) (F0 m 9 ls [])) (l0 : Nat) (l1 : Nat) (l2 : Int32) (l3 : Int32) (l4 : Int32) (l5 : Int32) (l6 : Int32) (hM : fX6_compareTold_b9 h k9 l0 l1 l2 l3 l4 l5 l6 = some res) {H : Heap} {locs : List Loc} (J : e_J G s h H locs) {ls : Array Slot} (hl : lv_has ls 7 [(0, .ref (e_ad G l0)), (1, .ref (e_ad G l1)), (2, .int l2), (3, .int l3), (4, .int l4), (5, .int l5), (6, .int l6)]) : W p l e (e_rm 1 23) s m args below meth c H locs 0 0 (MQ below (e_Q G h (some (.int res))) args s 0 0 (e_A G)) (F0 m 9 ls []) := by
  obtain ⟨hx, hb, hr, hml, hown, hts, hlocks, hES, hbs⟩ := id E
  unfold fX6_compareTold_b9 at hM
  refine lv_iload hx hb dX6_compareTold_9 (lv_at hl 6 rfl) ?_
  refine lv_aload_n hx hb dX6_compareTold_11 rfl (lv_at hl 0 rfl) ?_
  obtain ⟨v1, hv, hM⟩ := e_bs hM
  refine e_getR (C := RX6) (T := TX6) (N := 9) E J hv rfl inX6 (by decide) q_1_99 dX6_compareTold_12 ?_
  rcases v1 with _ | a2
  · have hM := e_on0 hM
    refine W.eq (g2 := F0 m 15 ls [.null, .int l6]) rfl ?_
    exact e_no hM
  · have hM := e_on1 hM
    refine W.eq (g2 := F0 m 15 ls [.ref (e_ad G a2), .int l6]) rfl ?_
    obtain ⟨v3, hv, hM⟩ := e_bs hM
    refine e_alen E J hv rfl rfl dX6_compareTold_15 ?_
    refine lv_icmp_ge (tgt := 96) hx hb dX6_compareTold_16 (by decide) (fun hc => ?_) (fun hc => ?_)
    · have hM := e_ip hc hM
      exact mX6_compareTold_b96 E h l2 l4 hM J (lv_sub hl [2, 4] rfl)
    · have hM := e_in hc hM
      refine lv_iload hx hb dX6_compareTold_19 (lv_at hl 5 rfl) ?_
      refine lv_iload_n hx hb dX6_compareTold_21 rfl (lv_at hl 3 rfl) ?_
      refine lv_icmp_ge (tgt := 96) hx hb dX6_compareTold_22 (by decide) (fun hc => ?_) (fun hc => ?_)
      · have hM := e_ip hc hM
        exact mX6_compareTold_b96 E h l2 l4 hM J (lv_sub hl [2, 4] rfl)
      · have hM := e_in hc hM
        refine lv_aload_n hx hb dX6_compareTold_25 rfl (lv_at hl 0 rfl) ?_
        obtain ⟨v4, hv, hM⟩ := e_bs hM
        refine e_getR (C := RX6) (T := TX6) (N := 9) E J hv rfl inX6 (by decide) q_1_99 dX6_compareTold_26 ?_
        rcases v4 with _ | a5
        · have hM := e_on0 hM
          refine W.eq (g2 := F0 m 29 ls [.null]) rfl ?_
          refine lv_iload hx hb dX6_compareTold_29 (lv_at hl 6 rfl) ?_
          exact e_no hM
        · have hM := e_on1 hM
          refine W.eq (g2 := F0 m 29 ls [.ref (e_ad G a5)]) rfl ?_
          refine lv_iload hx hb dX6_compareTold_29 (lv_at hl 6 rfl) ?_
          obtain ⟨v6, hv, hM⟩ := e_bs hM
          refine e_iald E J hv dX6_compareTold_31 ?_
          refine lv_iconst (v := nI 1) hx hb dX6_compareTold_32 (by decide) ?_
          refine lv_icmp_ge (tgt := 39) hx hb dX6_compareTold_33 (by decide) (fun hc => ?_) (fun hc => ?_)
          · have hM := e_ip hc hM
            refine lv_iinc (v := (l5 + (nI 1))) (lv' := [(5, .int (l5 + (nI 1))), (0, .ref (e_ad G l0)), (1, .ref (e_ad G l1)), (2, .int l2), (3, .int l3), (4, .int l4), (6, .int l6)]) hx hb dX6_compareTold_39 hl (k := 5) rfl rfl (by decide) rfl (fun ls hl => ?_)
            refine lv_aload_n hx hb dX6_compareTold_42 rfl (lv_at hl 2 rfl) ?_
            refine lv_iload_n hx hb dX6_compareTold_43 rfl (lv_at hl 3 rfl) ?_
            refine lv_iload hx hb dX6_compareTold_44 (lv_at hl 5 rfl) ?_
            refine lv_iload hx hb dX6_compareTold_46 (lv_at hl 6 rfl) ?_
            obtain ⟨v7, hv, hM⟩ := e_bs hM
            refine e_callS (As := [.int l6]) (rest := [.int l4, .int l2, .ref (e_ad G l1)]) (n := 1) E J (mX6_toldPlace (l := l) (G := G) l6 h _ hv) q_3_109 q_3_110 q_1_4 q_3_111 (by decide +kernel) rfl ⟨Nat.le_of_ble_eq_true rfl, Nat.le_of_ble_eq_true rfl⟩ (st0 := [.int l6, .int l4, .int l2, .ref (e_ad G l1)]) (st1 := [.int v7, .int l4, .int l2, .ref (e_ad G l1)]) rfl rfl hl.1 (Nat.le_of_ble_eq_true rfl) dX6_compareTold_48 ⟨Nat.le_refl _, Nat.le_refl _⟩ (fun H locs J => ?_)
            obtain ⟨v8, hv, hM⟩ := e_bs hM
            refine e_callS (As := [.ref (e_ad G l1), .int l2, .int l4, .int v7]) (rest := []) (n := 4) E J (mX6_stands (l := l) (G := G) l1 l2 l4 v7 h _ hv) q_4_224 q_4_225 q_1_4 q_4_226 (by decide +kernel) rfl ⟨Nat.le_of_ble_eq_true rfl, Nat.le_of_ble_eq_true rfl⟩ (st0 := [.int v7, .int l4, .int l2, .ref (e_ad G l1)]) (st1 := [.int (e_b v8)]) rfl rfl hl.1 (Nat.le_of_ble_eq_true rfl) dX6_compareTold_51 ⟨Nat.le_refl _, Nat.le_refl _⟩ (fun H locs J => ?_)
            refine lv_if_ne (tgt := 62) hx hb dX6_compareTold_54 (by decide) (fun hc => ?_) (fun hc => ?_)
            · have hM := e_in hc hM
              refine lv_iinc (v := (l4 + (nI 1))) (lv' := [(4, .int (l4 + (nI 1))), (5, .int (l5 + (nI 1))), (0, .ref (e_ad G l0)), (1, .ref (e_ad G l1)), (2, .int l2), (3, .int l3), (6, .int l6)]) hx hb dX6_compareTold_62 hl (k := 5) rfl rfl (by decide) rfl (fun ls hl => ?_)
              refine lv_aload_n hx hb dX6_compareTold_65 rfl (lv_at hl 3 rfl) ?_
              refine lv_iload_n hx hb dX6_compareTold_66 rfl (lv_at hl 4 rfl) ?_
              refine lv_iload hx hb dX6_compareTold_67 (lv_at hl 0 rfl) ?_
              refine lv_aload_n hx hb dX6_compareTold_69 rfl (lv_at hl 2 rfl) ?_
              obtain ⟨v9, hv, hM⟩ := e_bs hM
              refine e_getR (C := RX6) (T := TX6) (N := 9) E J hv rfl inX6 (by decide) q_1_99 dX6_compareTold_70 ?_
              rcases v9 with _ | a10
              · have hM := e_on0 hM
                refine W.eq (g2 := F0 m 73 ls [.null, .int (l4 + (nI 1)), .int l2, .ref (e_ad G l1)]) rfl ?_
                refine lv_iload hx hb dX6_compareTold_73 (lv_at hl 6 rfl) ?_
                exact e_no hM
              · have hM := e_on1 hM
                refine W.eq (g2 := F0 m 73 ls [.ref (e_ad G a10), .int (l4 + (nI 1)), .int l2, .ref (e_ad G l1)]) rfl ?_
                refine lv_iload hx hb dX6_compareTold_73 (lv_at hl 6 rfl) ?_
                obtain ⟨v11, hv, hM⟩ := e_bs hM
                refine e_iald E J hv dX6_compareTold_75 ?_
                obtain ⟨v12, hv, hM⟩ := e_bs hM
                refine e_callS (As := [.ref (e_ad G l1), .int l2, .int (l4 + (nI 1)), .int v11]) (rest := []) (n := 4) E J (mX6_stands (l := l) (G := G) l1 l2 (l4 + (nI 1)) v11 h _ hv) q_4_224 q_4_225 q_1_4 q_4_226 (by decide +kernel) rfl ⟨Nat.le_of_ble_eq_true rfl, Nat.le_of_ble_eq_true rfl⟩ (st0 := [.int v11, .int (l4 + (nI 1)), .int l2, .ref (e_ad G l1)]) (st1 := [.int (e_b v12)]) rfl rfl hl.1 (Nat.le_of_ble_eq_true rfl) dX6_compareTold_76 ⟨Nat.le_refl _, Nat.le_refl _⟩ (fun H locs J => ?_)
                refine lv_if_ne (tgt := 87) hx hb dX6_compareTold_79 (by decide) (fun hc => ?_) (fun hc => ?_)
                · have hM := e_in hc hM
                  refine lv_iinc (v := ((l4 + (nI 1)) + (nI 1))) (lv' := [(4, .int ((l4 + (nI 1)) + (nI 1))), (5, .int (l5 + (nI 1))), (0, .ref (e_ad G l0)), (1, .ref (e_ad G l1)), (2, .int l2), (3, .int l3), (6, .int l6)]) hx hb dX6_compareTold_87 hl (k := 0) rfl rfl (by decide) rfl (fun ls hl => ?_)
                  exact mX6_compareTold_b90 E h K9 l0 l1 l2 l3 ((l4 + (nI 1)) + (nI 1)) (l5 + (nI 1)) l6 hM J (lv_sub hl [2, 3, 4, 5, 0, 1, 6] rfl)
                · have hM := e_ip hc hM
                  refine lv_iconst (v := nI 1) hx hb dX6_compareTold_82 (by decide) ?_
                  refine lv_iload hx hb dX6_compareTold_83 (lv_at hl 0 rfl) ?_
                  refine lv_iadd hx hb dX6_compareTold_85 ?_
                  obtain rfl := e_so hM
                  exact e_iret E J dX6_compareTold_86
            · have hM := e_ip hc hM
              refine lv_iconst (v := nI 1) hx hb dX6_compareTold_57 (by decide) ?_
              refine lv_iload hx hb dX6_compareTold_58 (lv_at hl 5 rfl) ?_
              refine lv_iadd hx hb dX6_compareTold_60 ?_
              obtain rfl := e_so hM
              exact e_iret E J dX6_compareTold_61
          · have hM := e_in hc hM
            refine lv_goto (tgt := 90) hx hb dX6_compareTold_36 (by decide) ?_
            exact mX6_compareTold_b90 E h K9 l0 l1 l2 l3 l4 l5 l6 hM J (lv_sub hl [0, 1, 2, 3, 4, 5, 6] rfl)
set_option maxRecDepth 100000 in
set_option maxHeartbeats 4000000 in
theorem mX6_compareTold_L9 {p : Program} {l : Launch} {e : Env} {s : State} {m : MethodId} {args : Array Value} {below : List Frame} {meth : Method} {c : Code} {G : e_G} {res : Int32} (E : e_M G p s args m meth c cX6_compareTold 7 (some FieldType.int) RX6) (h : e_H) (n : Nat) (l0 : Nat) (l1 : Nat) (l2 : Int32) (l3 : Int32) (l4 : Int32) (l5 : Int32) (l6 : Int32) (hM : fX6_compareTold_L9 h n l0 l1 l2 l3 l4 l5 l6 = some res) {H : Heap} {locs : List Loc} (J : e_J G s h H locs) {ls : Array Slot} (hl : lv_has ls 7 [(0, .ref (e_ad G l0)), (1, .ref (e_ad G l1)), (2, .int l2), (3, .int l3), (4, .int l4), (5, .int l5), (6, .int l6)]) : W p l e (e_rm 1 23) s m args below meth c H locs 0 0 (MQ below (e_Q G h (some (.int res))) args s 0 0 (e_A G)) (F0 m 9 ls []) := by
  induction n generalizing l0 l1 l2 l3 l4 l5 l6 H locs ls with
  | zero => exact e_no hM
  | succ n ih => exact mX6_compareTold_b9 (k9 := (fX6_compareTold_L9 h n)) E h  (fun l0 l1 l2 l3 l4 l5 l6 hM H locs J ls hl => ih l0 l1 l2 l3 l4 l5 l6 hM J hl) l0 l1 l2 l3 l4 l5 l6 hM J hl
set_option maxRecDepth 100000 in
set_option maxHeartbeats 4000000 in
theorem mX6_compareTold {l : Launch} {G : e_G} (l0 : Nat) (l1 : Nat) (l2 : Int32) (l3 : Int32) (h : e_H) (res : Int32) (hM : fX6_compareTold l0 l1 l2 l3 h = some res) : Met l yX6_compareTold (e_W yX6_compareTold cX6_compareTold 7 (some FieldType.int)) (e_rm 1 23) (e_Pc G h [.ref (e_ad G l0), .ref (e_ad G l1), .int l2, .int l3]) (e_Q G h (some (.int res))) 0 0 (e_A G) := by
  refine Met.ofW (cc := cX6_compareTold) (maxL := 7) (ret := (some FieldType.int)) (by decide) rfl ?_
  intro p e s m args below meth c s₁ B hml hv
  obtain ⟨rfl, hS, hP⟩ := hv
  have E := e_enter (own := RX6) (ret := (some FieldType.int)) B hml rfl hS hP
  have J : e_J G s h s.heap [] := ⟨hP, va_S.rf⟩
  have hl := lv_entry ([.ref (e_ad G l0), .ref (e_ad G l1), .int l2, .int l3]) (n := 7) (Nat.le_of_ble_eq_true rfl)
  rw [lg_entry_eq]
  generalize (lg_sl ([.ref (e_ad G l0), .ref (e_ad G l1), .int l2, .int l3]) ++ List.replicate (7 - (lg_sl ([.ref (e_ad G l0), .ref (e_ad G l1), .int l2, .int l3])).length) Slot.unset).toArray = ls at hl ⊢
  have hl : lv_has ls 7 [(0, .ref (e_ad G l0)), (1, .ref (e_ad G l1)), (2, .int l2), (3, .int l3)] := hl
  obtain ⟨hx, hb, hr, hml, hown, hts, hlocks, hES, hbs⟩ := id E
  unfold fX6_compareTold at hM
  obtain ⟨fs_, hk_, hM⟩ := e_bs hM
  refine lv_iconst (v := nI 0) hx hb dX6_compareTold_0 (by decide) ?_
  refine lv_istore (lv' := [(4, .int (nI 0)), (0, .ref (e_ad G l0)), (1, .ref (e_ad G l1)), (2, .int l2), (3, .int l3)]) hx hb dX6_compareTold_1 hl (by decide) rfl (fun ls hl => ?_)
  refine lv_iconst (v := nI 0) hx hb dX6_compareTold_3 (by decide) ?_
  refine lv_istore (lv' := [(5, .int (nI 0)), (4, .int (nI 0)), (0, .ref (e_ad G l0)), (1, .ref (e_ad G l1)), (2, .int l2), (3, .int l3)]) hx hb dX6_compareTold_4 hl (by decide) rfl (fun ls hl => ?_)
  refine lv_iconst (v := nI 0) hx hb dX6_compareTold_6 (by decide) ?_
  refine lv_istore (lv' := [(6, .int (nI 0)), (5, .int (nI 0)), (4, .int (nI 0)), (0, .ref (e_ad G l0)), (1, .ref (e_ad G l1)), (2, .int l2), (3, .int l3)]) hx hb dX6_compareTold_7 hl (by decide) rfl (fun ls hl => ?_)
  exact mX6_compareTold_L9 E h 200 l0 l1 l2 l3 (nI 0) (nI 0) (nI 0) hM J (lv_sub hl [3, 4, 5, 6, 2, 1, 0] rfl)
set_option maxRecDepth 100000 in
set_option maxHeartbeats 4000000 in
theorem mX8_check {l : Launch} {G : e_G} (l0 : Nat) (l1 : Int32) (l2 : Int32) (h : e_H) (res : (Int32 × e_H)) (hM : fX8_check l0 l1 l2 h = some res) : Met l yX8_check (e_W yX8_check cX8_check 5 (some FieldType.int)) (e_rm 6 148) (e_Pc G h [.ref (e_ad G l0), .int l1, .int l2]) (e_Q G res.2 (some (.int res.1))) 0 0 (e_A G) := by
  refine Met.ofW (cc := cX8_check) (maxL := 5) (ret := (some FieldType.int)) (by decide) rfl ?_
  intro p e s m args below meth c s₁ B hml hv
  obtain ⟨rfl, hS, hP⟩ := hv
  have E := e_enter (own := RX8) (ret := (some FieldType.int)) B hml rfl hS hP
  have J : e_J G s h s.heap [] := ⟨hP, va_S.rf⟩
  have hl := lv_entry ([.ref (e_ad G l0), .int l1, .int l2]) (n := 5) (Nat.le_of_ble_eq_true rfl)
  rw [lg_entry_eq]
  generalize (lg_sl ([.ref (e_ad G l0), .int l1, .int l2]) ++ List.replicate (5 - (lg_sl ([.ref (e_ad G l0), .int l1, .int l2])).length) Slot.unset).toArray = ls at hl ⊢
  have hl : lv_has ls 5 [(0, .ref (e_ad G l0)), (1, .int l1), (2, .int l2)] := hl
  obtain ⟨hx, hb, hr, hml, hown, hts, hlocks, hES, hbs⟩ := id E
  unfold fX8_check at hM
  obtain ⟨fs_, hk_, hM⟩ := e_bs hM
  refine lv_aload_n hx hb dX8_check_0 rfl (lv_at hl 0 rfl) ?_
  obtain ⟨v1, hv, hM⟩ := e_bs hM
  refine e_getI (C := RX8) (T := TX8) (N := 10) E J hv rfl inX8 (by decide) q_1_207 dX8_check_1 ?_
  refine lv_istore_n (lv' := [(3, .int v1), (0, .ref (e_ad G l0)), (1, .int l1), (2, .int l2)]) hx hb dX8_check_4 rfl hl (by decide) rfl (fun ls hl => ?_)
  refine lv_aload_n hx hb dX8_check_5 rfl (lv_at hl 1 rfl) ?_
  refine lv_iconst (v := nI 0) hx hb dX8_check_6 (by decide) ?_
  obtain ⟨h2, hv, hM⟩ := e_bs hM
  refine e_putv (C := RX8) (T := TX8) (N := 10) E J hv rfl rfl inX8 tyX8 tyX8_ok nmX8 (by decide) q_1_207 rfl rfl rfl rfl dX8_check_7 (fun H locs J => ?_)
  refine lv_iload_n hx hb dX8_check_10 rfl (lv_at hl 3 rfl) ?_
  refine lv_iconst (v := nI 1) hx hb dX8_check_11 (by decide) ?_
  refine lv_icmp_lt (tgt := 21) hx hb dX8_check_12 (by decide) (fun hc => ?_) (fun hc => ?_)
  · have hM := e_ip hc hM
    refine lv_ldc (v := -1000000001) hx hb hown (hts _ q_1_237) dX8_check_21 ?_
    obtain rfl := e_so hM
    exact e_iret E J dX8_check_23
  · have hM := e_in hc hM
    refine lv_iload_n hx hb dX8_check_15 rfl (lv_at hl 3 rfl) ?_
    refine lv_bipush (v := nI 30) hx hb dX8_check_16 (by decide) ?_
    refine lv_icmp_le (tgt := 24) hx hb dX8_check_18 (by decide) (fun hc => ?_) (fun hc => ?_)
    · have hM := e_ip hc hM
      refine lv_aload_n hx hb dX8_check_24 rfl (lv_at hl 1 rfl) ?_
      obtain ⟨v3, hv, hM⟩ := e_bs hM
      refine e_getI (C := RX8) (T := TX8) (N := 10) E J hv rfl inX8 (by decide) q_1_208 dX8_check_25 ?_
      refine lv_if_ne (tgt := 34) hx hb dX8_check_28 (by decide) (fun hc => ?_) (fun hc => ?_)
      · have hM := e_in hc hM
        refine lv_aload_n hx hb dX8_check_34 rfl (lv_at hl 1 rfl) ?_
        obtain ⟨v4, hv, hM⟩ := e_bs hM
        refine e_getR (C := RX8) (T := TX8) (N := 10) E J hv rfl inX8 (by decide) q_1_200 dX8_check_35 ?_
        rcases v4 with _ | a5
        · have hM := e_on0 hM
          refine W.eq (g2 := F0 m 38 ls [.null]) rfl ?_
          refine lv_iload_n hx hb dX8_check_38 rfl (lv_at hl 2 rfl) ?_
          exact e_no hM
        · have hM := e_on1 hM
          refine W.eq (g2 := F0 m 38 ls [.ref (e_ad G a5)]) rfl ?_
          refine lv_iload_n hx hb dX8_check_38 rfl (lv_at hl 2 rfl) ?_
          obtain ⟨v6, hv, hM⟩ := e_bs hM
          obtain ⟨fs_, hk, -⟩ := e_bs hv
          refine e_callV (ci := 7) (As := [.int l1]) (rest := []) (n := 1) E J hk rfl (mX7_curveOf (l := l) (G := G) a5 l1 h2 _ hv) q_2_14 q_2_15 q_2_16 q_1_2 q_2_17 (by decide +kernel) rfl ⟨Nat.le_of_ble_eq_true rfl, Nat.le_of_ble_eq_true rfl⟩ (st0 := [.int l1, .ref (e_ad G a5)]) (st1 := [e_r G v6]) rfl rfl hl.1 (Nat.le_of_ble_eq_true rfl) dX8_check_39 ⟨Nat.le_refl _, Nat.le_refl _⟩ (fun H locs J => ?_)
          rcases v6 with _ | a7
          · have hM := e_on0 hM
            refine W.eq (g2 := F0 m 42 ls [.null]) rfl ?_
            refine lv_astoreN (lv' := [(4, .null), (3, .int v1), (0, .ref (e_ad G l0)), (1, .int l1), (2, .int l2)]) hx hb dX8_check_42 hl (by decide) rfl (fun ls hl => ?_)
            refine lv_aloadN hx hb dX8_check_44 (lv_at hl 0 rfl) ?_
            refine lv_ifnonnullN hx hb dX8_check_46 ?_
            refine lv_ldc (v := -1000000001) hx hb hown (hts _ q_1_237) dX8_check_49 ?_
            obtain rfl := e_so hM
            exact e_iret E J dX8_check_51
          · have hM := e_on1 hM
            refine W.eq (g2 := F0 m 42 ls [.ref (e_ad G a7)]) rfl ?_
            refine lv_astore (lv' := [(4, .ref (e_ad G a7)), (3, .int v1), (0, .ref (e_ad G l0)), (1, .int l1), (2, .int l2)]) hx hb dX8_check_42 hl (by decide) rfl (fun ls hl => ?_)
            refine lv_aload hx hb dX8_check_44 (lv_at hl 0 rfl) ?_
            refine lv_ifnonnull (tgt := 52) hx hb dX8_check_46 (by decide) ?_
            refine lv_aload_n hx hb dX8_check_52 rfl (lv_at hl 2 rfl) ?_
            obtain ⟨v8, hv, hM⟩ := e_bs hM
            refine e_getR (C := RX8) (T := TX8) (N := 10) E J hv rfl inX8 (by decide) q_1_202 dX8_check_53 ?_
            rcases v8 with _ | a9
            · have hM := e_on0 hM
              refine W.eq (g2 := F0 m 56 ls [.null]) rfl ?_
              refine lv_aload hx hb dX8_check_56 (lv_at hl 0 rfl) ?_
              exact e_no hM
            · have hM := e_on1 hM
              refine W.eq (g2 := F0 m 56 ls [.ref (e_ad G a9)]) rfl ?_
              refine lv_aload hx hb dX8_check_56 (lv_at hl 0 rfl) ?_
              obtain ⟨h10, hv, hM⟩ := e_bs hM
              obtain ⟨fs_, hk, -⟩ := e_bs hv
              refine e_callV (ci := 6) (As := [.ref (e_ad G a7)]) (rest := []) (n := 1) E J hk rfl (mX6_walk (l := l) (G := G) a9 a7 h2 _ hv) q_3_85 q_3_86 q_3_87 q_1_4 q_3_88 (by decide +kernel) rfl ⟨Nat.le_of_ble_eq_true rfl, Nat.le_of_ble_eq_true rfl⟩ (st0 := [.ref (e_ad G a7), .ref (e_ad G a9)]) (st1 := []) rfl rfl hl.1 (Nat.le_of_ble_eq_true rfl) dX8_check_58 ⟨Nat.le_refl _, Nat.le_refl _⟩ (fun H locs J => ?_)
              refine lv_aload_n hx hb dX8_check_61 rfl (lv_at hl 2 rfl) ?_
              obtain ⟨v11, hv, hM⟩ := e_bs hM
              refine e_getR (C := RX8) (T := TX8) (N := 10) E J hv rfl inX8 (by decide) q_1_202 dX8_check_62 ?_
              rcases v11 with _ | a12
              · have hM := e_on0 hM
                refine W.eq (g2 := F0 m 65 ls [.null]) rfl ?_
                refine lv_aload_n hx hb dX8_check_65 rfl (lv_at hl 2 rfl) ?_
                obtain ⟨v13, hv, hM⟩ := e_bs hM
                refine e_getR (C := RX8) (T := TX8) (N := 10) E J hv rfl inX8 (by decide) q_1_206 dX8_check_66 ?_
                rcases v13 with _ | a14
                · have hM := e_on0 hM
                  refine W.eq (g2 := F0 m 69 ls [.null, .null]) rfl ?_
                  refine lv_iload_n hx hb dX8_check_69 rfl (lv_at hl 1 rfl) ?_
                  refine lv_iload_n hx hb dX8_check_70 rfl (lv_at hl 4 rfl) ?_
                  exact e_no hM
                · have hM := e_on1 hM
                  refine W.eq (g2 := F0 m 69 ls [.ref (e_ad G a14), .null]) rfl ?_
                  refine lv_iload_n hx hb dX8_check_69 rfl (lv_at hl 1 rfl) ?_
                  refine lv_iload_n hx hb dX8_check_70 rfl (lv_at hl 4 rfl) ?_
                  exact e_no hM
              · have hM := e_on1 hM
                refine W.eq (g2 := F0 m 65 ls [.ref (e_ad G a12)]) rfl ?_
                refine lv_aload_n hx hb dX8_check_65 rfl (lv_at hl 2 rfl) ?_
                obtain ⟨v15, hv, hM⟩ := e_bs hM
                refine e_getR (C := RX8) (T := TX8) (N := 10) E J hv rfl inX8 (by decide) q_1_206 dX8_check_66 ?_
                rcases v15 with _ | a16
                · have hM := e_on0 hM
                  refine W.eq (g2 := F0 m 69 ls [.null, .ref (e_ad G a12)]) rfl ?_
                  refine lv_iload_n hx hb dX8_check_69 rfl (lv_at hl 1 rfl) ?_
                  refine lv_iload_n hx hb dX8_check_70 rfl (lv_at hl 4 rfl) ?_
                  exact e_no hM
                · have hM := e_on1 hM
                  refine W.eq (g2 := F0 m 69 ls [.ref (e_ad G a16), .ref (e_ad G a12)]) rfl ?_
                  refine lv_iload_n hx hb dX8_check_69 rfl (lv_at hl 1 rfl) ?_
                  refine lv_iload_n hx hb dX8_check_70 rfl (lv_at hl 4 rfl) ?_
                  obtain ⟨v17, hv, hM⟩ := e_bs hM
                  obtain ⟨fs_, hk, -⟩ := e_bs hv
                  refine e_callV (ci := 6) (As := [.ref (e_ad G a16), .int v1, .int l2]) (rest := []) (n := 3) E J hk rfl (mX6_compareTold (l := l) (G := G) a12 a16 v1 l2 h10 _ hv) q_4_220 q_4_221 q_4_222 q_1_4 q_4_223 (by decide +kernel) rfl ⟨Nat.le_of_ble_eq_true rfl, Nat.le_of_ble_eq_true rfl⟩ (st0 := [.int l2, .int v1, .ref (e_ad G a16), .ref (e_ad G a12)]) (st1 := [.int v17]) rfl rfl hl.1 (Nat.le_of_ble_eq_true rfl) dX8_check_71 ⟨Nat.le_refl _, Nat.le_refl _⟩ (fun H locs J => ?_)
                  obtain rfl := e_so hM
                  exact e_iret E J dX8_check_74
      · have hM := e_ip hc hM
        refine lv_ldc (v := -1000000002) hx hb hown (hts _ q_2_230) dX8_check_31 ?_
        obtain rfl := e_so hM
        exact e_iret E J dX8_check_33
    · have hM := e_in hc hM
      refine lv_ldc (v := -1000000001) hx hb hown (hts _ q_1_237) dX8_check_21 ?_
      obtain rfl := e_so hM
      exact e_iret E J dX8_check_23
set_option maxRecDepth 100000 in
set_option maxHeartbeats 4000000 in
theorem mX7_becomes_b79 {p : Program} {l : Launch} {e : Env} {s : State} {m : MethodId} {args : Array Value} {below : List Frame} {meth : Method} {c : Code} {G : e_G} {res : e_H} (E : e_M G p s args m meth c cX7_becomes 3 none RX7) (l0 : Nat) (l1 : Nat) (h : e_H) (hM : fX7_becomes_b79 l0 l1 h = some res) {H : Heap} {locs : List Loc} (J : e_J G s h H locs) {ls : Array Slot} (hl : lv_has ls 3 [(0, .ref (e_ad G l0)), (1, .ref (e_ad G l1))]) : W p l e (e_rm 2 101) s m args below meth c H locs 0 0 (MQ below (e_Q G res (none)) args s 0 0 (e_A G)) (F0 m 79 ls []) := by
  obtain ⟨hx, hb, hr, hml, hown, hts, hlocks, hES, hbs⟩ := id E
  unfold fX7_becomes_b79 at hM
  refine lv_aload_n hx hb dX7_becomes_79 rfl (lv_at hl 0 rfl) ?_
  refine lv_aload_n hx hb dX7_becomes_80 rfl (lv_at hl 1 rfl) ?_
  obtain ⟨v1, hv, hM⟩ := e_bs hM
  refine e_getI (C := RX7) (T := TX7) (N := 6) E J hv rfl inX7 (by decide) q_1_51 dX7_becomes_81 ?_
  obtain ⟨h2, hv, hM⟩ := e_bs hM
  refine e_putv (C := RX7) (T := TX7) (N := 6) E J hv rfl rfl inX7 tyX7 tyX7_ok nmX7 (by decide) q_1_51 rfl rfl rfl rfl dX7_becomes_84 (fun H locs J => ?_)
  refine lv_aload_n hx hb dX7_becomes_87 rfl (lv_at hl 0 rfl) ?_
  refine lv_aload_n hx hb dX7_becomes_88 rfl (lv_at hl 1 rfl) ?_
  obtain ⟨v3, hv, hM⟩ := e_bs hM
  refine e_getI (C := RX7) (T := TX7) (N := 6) E J hv rfl inX7 (by decide) q_1_53 dX7_becomes_89 ?_
  obtain ⟨h4, hv, hM⟩ := e_bs hM
  refine e_putv (C := RX7) (T := TX7) (N := 6) E J hv rfl rfl inX7 tyX7 tyX7_ok nmX7 (by decide) q_1_53 rfl rfl rfl rfl dX7_becomes_92 (fun H locs J => ?_)
  refine lv_aload_n hx hb dX7_becomes_95 rfl (lv_at hl 0 rfl) ?_
  refine lv_aload_n hx hb dX7_becomes_96 rfl (lv_at hl 1 rfl) ?_
  obtain ⟨v5, hv, hM⟩ := e_bs hM
  refine e_getI (C := RX7) (T := TX7) (N := 6) E J hv rfl inX7 (by decide) q_1_55 dX7_becomes_97 ?_
  obtain ⟨h6, hv, hM⟩ := e_bs hM
  refine e_putv (C := RX7) (T := TX7) (N := 6) E J hv rfl rfl inX7 tyX7 tyX7_ok nmX7 (by decide) q_1_55 rfl rfl rfl rfl dX7_becomes_100 (fun H locs J => ?_)
  obtain rfl := e_so hM
  exact e_vret E J dX7_becomes_103
set_option maxRecDepth 100000 in
set_option maxHeartbeats 4000000 in
theorem mX7_becomes_b43 {p : Program} {l : Launch} {e : Env} {s : State} {m : MethodId} {args : Array Value} {below : List Frame} {meth : Method} {c : Code} {G : e_G} {res : e_H} {k43 : Nat → Nat → Int32 → e_H → Option e_H} (E : e_M G p s args m meth c cX7_becomes 3 none RX7) (K43 : ∀ (l0 : Nat) (l1 : Nat) (l2 : Int32) (h : e_H), k43 l0 l1 l2 h = some res → ∀ (H : Heap) (locs : List Loc), e_J G s h H locs → ∀ (ls : Array Slot), lv_has ls 3 [(0, .ref (e_ad G l0)), (1, .ref (e_ad G l1)), (2, .int l2)] → W p l e (e_rm 2 101) s m args below meth c H locs 0 0 (MQ below (e_Q G res (none)) args s 0 0 (e_A G)) (F0 m 43 ls [])) (l0 : Nat) (l1 : Nat) (l2 : Int32) (h : e_H) (hM : fX7_becomes_b43 k43 l0 l1 l2 h = some res) {H : Heap} {locs : List Loc} (J : e_J G s h H locs) {ls : Array Slot} (hl : lv_has ls 3 [(0, .ref (e_ad G l0)), (1, .ref (e_ad G l1)), (2, .int l2)]) : W p l e (e_rm 2 101) s m args below meth c H locs 0 0 (MQ below (e_Q G res (none)) args s 0 0 (e_A G)) (F0 m 43 ls []) := by
  obtain ⟨hx, hb, hr, hml, hown, hts, hlocks, hES, hbs⟩ := id E
  unfold fX7_becomes_b43 at hM
  refine lv_iload_n hx hb dX7_becomes_43 rfl (lv_at hl 2 rfl) ?_
  refine lv_aload_n hx hb dX7_becomes_44 rfl (lv_at hl 0 rfl) ?_
  obtain ⟨v1, hv, hM⟩ := e_bs hM
  refine e_getR (C := RX7) (T := TX7) (N := 6) E J hv rfl inX7 (by decide) q_1_58 dX7_becomes_45 ?_
  rcases v1 with _ | a2
  · have hM := e_on0 hM
    refine W.eq (g2 := F0 m 48 ls [.null, .int l2]) rfl ?_
    exact e_no hM
  · have hM := e_on1 hM
    refine W.eq (g2 := F0 m 48 ls [.ref (e_ad G a2), .int l2]) rfl ?_
    obtain ⟨v3, hv, hM⟩ := e_bs hM
    refine e_alen E J hv rfl rfl dX7_becomes_48 ?_
    refine lv_icmp_ge (tgt := 79) hx hb dX7_becomes_49 (by decide) (fun hc => ?_) (fun hc => ?_)
    · have hM := e_ip hc hM
      exact mX7_becomes_b79 E l0 l1 h hM J (lv_sub hl [0, 1] rfl)
    · have hM := e_in hc hM
      refine lv_iload_n hx hb dX7_becomes_52 rfl (lv_at hl 2 rfl) ?_
      refine lv_aload_n hx hb dX7_becomes_53 rfl (lv_at hl 1 rfl) ?_
      obtain ⟨v4, hv, hM⟩ := e_bs hM
      refine e_getR (C := RX7) (T := TX7) (N := 6) E J hv rfl inX7 (by decide) q_1_58 dX7_becomes_54 ?_
      rcases v4 with _ | a5
      · have hM := e_on0 hM
        refine W.eq (g2 := F0 m 57 ls [.null, .int l2]) rfl ?_
        exact e_no hM
      · have hM := e_on1 hM
        refine W.eq (g2 := F0 m 57 ls [.ref (e_ad G a5), .int l2]) rfl ?_
        obtain ⟨v6, hv, hM⟩ := e_bs hM
        refine e_alen E J hv rfl rfl dX7_becomes_57 ?_
        refine lv_icmp_ge (tgt := 79) hx hb dX7_becomes_58 (by decide) (fun hc => ?_) (fun hc => ?_)
        · have hM := e_ip hc hM
          exact mX7_becomes_b79 E l0 l1 h hM J (lv_sub hl [0, 1] rfl)
        · have hM := e_in hc hM
          refine lv_aload_n hx hb dX7_becomes_61 rfl (lv_at hl 0 rfl) ?_
          obtain ⟨v7, hv, hM⟩ := e_bs hM
          refine e_getR (C := RX7) (T := TX7) (N := 6) E J hv rfl inX7 (by decide) q_1_58 dX7_becomes_62 ?_
          rcases v7 with _ | a8
          · have hM := e_on0 hM
            refine W.eq (g2 := F0 m 65 ls [.null]) rfl ?_
            refine lv_iload_n hx hb dX7_becomes_65 rfl (lv_at hl 2 rfl) ?_
            refine lv_aload_n hx hb dX7_becomes_66 rfl (lv_at hl 1 rfl) ?_
            obtain ⟨v9, hv, hM⟩ := e_bs hM
            refine e_getR (C := RX7) (T := TX7) (N := 6) E J hv rfl inX7 (by decide) q_1_58 dX7_becomes_67 ?_
            rcases v9 with _ | a10
            · have hM := e_on0 hM
              refine W.eq (g2 := F0 m 70 ls [.null, .int l2, .null]) rfl ?_
              refine lv_iload_n hx hb dX7_becomes_70 rfl (lv_at hl 2 rfl) ?_
              exact e_no hM
            · have hM := e_on1 hM
              refine W.eq (g2 := F0 m 70 ls [.ref (e_ad G a10), .int l2, .null]) rfl ?_
              refine lv_iload_n hx hb dX7_becomes_70 rfl (lv_at hl 2 rfl) ?_
              obtain ⟨v12, hv, hM⟩ := e_bs hM
              refine e_aald E J hv rfl dX7_becomes_71 ?_
              rcases v12 with _ | a13
              · have hM := e_on0 hM
                refine W.eq (g2 := F0 m 72 ls [.null, .int l2, .null]) rfl ?_
                exact e_no hM
              · have hM := e_on1 hM
                refine W.eq (g2 := F0 m 72 ls [.ref (e_ad G a13), .int l2, .null]) rfl ?_
                exact e_no hM
          · have hM := e_on1 hM
            refine W.eq (g2 := F0 m 65 ls [.ref (e_ad G a8)]) rfl ?_
            refine lv_iload_n hx hb dX7_becomes_65 rfl (lv_at hl 2 rfl) ?_
            refine lv_aload_n hx hb dX7_becomes_66 rfl (lv_at hl 1 rfl) ?_
            obtain ⟨v16, hv, hM⟩ := e_bs hM
            refine e_getR (C := RX7) (T := TX7) (N := 6) E J hv rfl inX7 (by decide) q_1_58 dX7_becomes_67 ?_
            rcases v16 with _ | a17
            · have hM := e_on0 hM
              refine W.eq (g2 := F0 m 70 ls [.null, .int l2, .ref (e_ad G a8)]) rfl ?_
              refine lv_iload_n hx hb dX7_becomes_70 rfl (lv_at hl 2 rfl) ?_
              exact e_no hM
            · have hM := e_on1 hM
              refine W.eq (g2 := F0 m 70 ls [.ref (e_ad G a17), .int l2, .ref (e_ad G a8)]) rfl ?_
              refine lv_iload_n hx hb dX7_becomes_70 rfl (lv_at hl 2 rfl) ?_
              obtain ⟨v19, hv, hM⟩ := e_bs hM
              refine e_aald E J hv rfl dX7_becomes_71 ?_
              rcases v19 with _ | a20
              · have hM := e_on0 hM
                refine W.eq (g2 := F0 m 72 ls [.null, .int l2, .ref (e_ad G a8)]) rfl ?_
                obtain ⟨h21, hv, hM⟩ := e_bs hM
                refine e_aastN E J hv rfl dX7_becomes_72 (fun H locs J => ?_)
                refine lv_iinc (v := (l2 + (nI 1))) (lv' := [(2, .int (l2 + (nI 1))), (0, .ref (e_ad G l0)), (1, .ref (e_ad G l1))]) hx hb dX7_becomes_73 hl (k := 2) rfl rfl (by decide) rfl (fun ls hl => ?_)
                refine lv_goto (tgt := 43) hx hb dX7_becomes_76 (by decide) ?_
                exact K43 l0 l1 (l2 + (nI 1)) h21 hM _ _ J _ (lv_sub hl [1, 2, 0] rfl)
              · have hM := e_on1 hM
                refine W.eq (g2 := F0 m 72 ls [.ref (e_ad G a20), .int l2, .ref (e_ad G a8)]) rfl ?_
                obtain ⟨h22, hv, hM⟩ := e_bs hM
                refine e_aastQ E J hv rfl rfl dX7_becomes_72 (fun H locs J => ?_)
                refine lv_iinc (v := (l2 + (nI 1))) (lv' := [(2, .int (l2 + (nI 1))), (0, .ref (e_ad G l0)), (1, .ref (e_ad G l1))]) hx hb dX7_becomes_73 hl (k := 2) rfl rfl (by decide) rfl (fun ls hl => ?_)
                refine lv_goto (tgt := 43) hx hb dX7_becomes_76 (by decide) ?_
                exact K43 l0 l1 (l2 + (nI 1)) h22 hM _ _ J _ (lv_sub hl [1, 2, 0] rfl)
set_option maxRecDepth 100000 in
set_option maxHeartbeats 4000000 in
theorem mX7_Lecomes_L43 {p : Program} {l : Launch} {e : Env} {s : State} {m : MethodId} {args : Array Value} {below : List Frame} {meth : Method} {c : Code} {G : e_G} {res : e_H} (E : e_M G p s args m meth c cX7_becomes 3 none RX7) (n : Nat) (l0 : Nat) (l1 : Nat) (l2 : Int32) (h : e_H) (hM : fX7_Lecomes_L43 n l0 l1 l2 h = some res) {H : Heap} {locs : List Loc} (J : e_J G s h H locs) {ls : Array Slot} (hl : lv_has ls 3 [(0, .ref (e_ad G l0)), (1, .ref (e_ad G l1)), (2, .int l2)]) : W p l e (e_rm 2 101) s m args below meth c H locs 0 0 (MQ below (e_Q G res (none)) args s 0 0 (e_A G)) (F0 m 43 ls []) := by
  induction n generalizing l0 l1 l2 h H locs ls with
  | zero => exact e_no hM
  | succ n ih => exact mX7_becomes_b43 (k43 := (fX7_Lecomes_L43 n)) E   (fun l0 l1 l2 h hM H locs J ls hl => ih l0 l1 l2 h hM J hl) l0 l1 l2 h hM J hl
set_option maxRecDepth 100000 in
set_option maxHeartbeats 4000000 in
theorem mX7_becomes_b41 {p : Program} {l : Launch} {e : Env} {s : State} {m : MethodId} {args : Array Value} {below : List Frame} {meth : Method} {c : Code} {G : e_G} {res : e_H} (E : e_M G p s args m meth c cX7_becomes 3 none RX7) (l0 : Nat) (l1 : Nat) (h : e_H) (hM : fX7_becomes_b41 l0 l1 h = some res) {H : Heap} {locs : List Loc} (J : e_J G s h H locs) {ls : Array Slot} (hl : lv_has ls 3 [(0, .ref (e_ad G l0)), (1, .ref (e_ad G l1))]) : W p l e (e_rm 2 101) s m args below meth c H locs 0 0 (MQ below (e_Q G res (none)) args s 0 0 (e_A G)) (F0 m 41 ls []) := by
  obtain ⟨hx, hb, hr, hml, hown, hts, hlocks, hES, hbs⟩ := id E
  unfold fX7_becomes_b41 at hM
  refine lv_iconst (v := nI 0) hx hb dX7_becomes_41 (by decide) ?_
  refine lv_istore_n (lv' := [(2, .int (nI 0)), (0, .ref (e_ad G l0)), (1, .ref (e_ad G l1))]) hx hb dX7_becomes_42 rfl hl (by decide) rfl (fun ls hl => ?_)
  exact mX7_Lecomes_L43 E 200 l0 l1 (nI 0) h hM J (lv_sub hl [1, 2, 0] rfl)
set_option maxRecDepth 100000 in
set_option maxHeartbeats 4000000 in
theorem mX7_becomes_b2 {p : Program} {l : Launch} {e : Env} {s : State} {m : MethodId} {args : Array Value} {below : List Frame} {meth : Method} {c : Code} {G : e_G} {res : e_H} {k2 : Nat → Nat → Int32 → e_H → Option e_H} (E : e_M G p s args m meth c cX7_becomes 3 none RX7) (K2 : ∀ (l0 : Nat) (l1 : Nat) (l2 : Int32) (h : e_H), k2 l0 l1 l2 h = some res → ∀ (H : Heap) (locs : List Loc), e_J G s h H locs → ∀ (ls : Array Slot), lv_has ls 3 [(0, .ref (e_ad G l0)), (1, .ref (e_ad G l1)), (2, .int l2)] → W p l e (e_rm 2 101) s m args below meth c H locs 0 0 (MQ below (e_Q G res (none)) args s 0 0 (e_A G)) (F0 m 2 ls [])) (l0 : Nat) (l1 : Nat) (l2 : Int32) (h : e_H) (hM : fX7_becomes_b2 k2 l0 l1 l2 h = some res) {H : Heap} {locs : List Loc} (J : e_J G s h H locs) {ls : Array Slot} (hl : lv_has ls 3 [(0, .ref (e_ad G l0)), (1, .ref (e_ad G l1)), (2, .int l2)]) : W p l e (e_rm 2 101) s m args below meth c H locs 0 0 (MQ below (e_Q G res (none)) args s 0 0 (e_A G)) (F0 m 2 ls []) := by
  obtain ⟨hx, hb, hr, hml, hown, hts, hlocks, hES, hbs⟩ := id E
  unfold fX7_becomes_b2 at hM
  refine lv_iload_n hx hb dX7_becomes_2 rfl (lv_at hl 2 rfl) ?_
  refine lv_aload_n hx hb dX7_becomes_3 rfl (lv_at hl 0 rfl) ?_
  obtain ⟨v1, hv, hM⟩ := e_bs hM
  refine e_getR (C := RX7) (T := TX7) (N := 6) E J hv rfl inX7 (by decide) q_1_57 dX7_becomes_4 ?_
  rcases v1 with _ | a2
  · have hM := e_on0 hM
    refine W.eq (g2 := F0 m 7 ls [.null, .int l2]) rfl ?_
    exact e_no hM
  · have hM := e_on1 hM
    refine W.eq (g2 := F0 m 7 ls [.ref (e_ad G a2), .int l2]) rfl ?_
    obtain ⟨v3, hv, hM⟩ := e_bs hM
    refine e_alen E J hv rfl rfl dX7_becomes_7 ?_
    refine lv_icmp_ge (tgt := 41) hx hb dX7_becomes_8 (by decide) (fun hc => ?_) (fun hc => ?_)
    · have hM := e_ip hc hM
      exact mX7_becomes_b41 E l0 l1 h hM J (lv_sub hl [0, 1] rfl)
    · have hM := e_in hc hM
      refine lv_iload_n hx hb dX7_becomes_11 rfl (lv_at hl 2 rfl) ?_
      refine lv_aload_n hx hb dX7_becomes_12 rfl (lv_at hl 1 rfl) ?_
      obtain ⟨v4, hv, hM⟩ := e_bs hM
      refine e_getR (C := RX7) (T := TX7) (N := 6) E J hv rfl inX7 (by decide) q_1_57 dX7_becomes_13 ?_
      rcases v4 with _ | a5
      · have hM := e_on0 hM
        refine W.eq (g2 := F0 m 16 ls [.null, .int l2]) rfl ?_
        exact e_no hM
      · have hM := e_on1 hM
        refine W.eq (g2 := F0 m 16 ls [.ref (e_ad G a5), .int l2]) rfl ?_
        obtain ⟨v6, hv, hM⟩ := e_bs hM
        refine e_alen E J hv rfl rfl dX7_becomes_16 ?_
        refine lv_icmp_ge (tgt := 41) hx hb dX7_becomes_17 (by decide) (fun hc => ?_) (fun hc => ?_)
        · have hM := e_ip hc hM
          exact mX7_becomes_b41 E l0 l1 h hM J (lv_sub hl [0, 1] rfl)
        · have hM := e_in hc hM
          refine lv_aload_n hx hb dX7_becomes_20 rfl (lv_at hl 0 rfl) ?_
          obtain ⟨v7, hv, hM⟩ := e_bs hM
          refine e_getR (C := RX7) (T := TX7) (N := 6) E J hv rfl inX7 (by decide) q_1_57 dX7_becomes_21 ?_
          rcases v7 with _ | a8
          · have hM := e_on0 hM
            refine W.eq (g2 := F0 m 24 ls [.null]) rfl ?_
            refine lv_iload_n hx hb dX7_becomes_24 rfl (lv_at hl 2 rfl) ?_
            exact e_no hM
          · have hM := e_on1 hM
            refine W.eq (g2 := F0 m 24 ls [.ref (e_ad G a8)]) rfl ?_
            refine lv_iload_n hx hb dX7_becomes_24 rfl (lv_at hl 2 rfl) ?_
            obtain ⟨v10, hv, hM⟩ := e_bs hM
            refine e_aald E J hv rfl dX7_becomes_25 ?_
            rcases v10 with _ | a11
            · have hM := e_on0 hM
              refine W.eq (g2 := F0 m 26 ls [.null]) rfl ?_
              refine lv_aload_n hx hb dX7_becomes_26 rfl (lv_at hl 1 rfl) ?_
              obtain ⟨v12, hv, hM⟩ := e_bs hM
              refine e_getR (C := RX7) (T := TX7) (N := 6) E J hv rfl inX7 (by decide) q_1_57 dX7_becomes_27 ?_
              rcases v12 with _ | a13
              · have hM := e_on0 hM
                refine W.eq (g2 := F0 m 30 ls [.null, .null]) rfl ?_
                refine lv_iload_n hx hb dX7_becomes_30 rfl (lv_at hl 2 rfl) ?_
                exact e_no hM
              · have hM := e_on1 hM
                refine W.eq (g2 := F0 m 30 ls [.ref (e_ad G a13), .null]) rfl ?_
                refine lv_iload_n hx hb dX7_becomes_30 rfl (lv_at hl 2 rfl) ?_
                obtain ⟨v15, hv, hM⟩ := e_bs hM
                refine e_aald E J hv rfl dX7_becomes_31 ?_
                rcases v15 with _ | a16
                · have hM := e_on0 hM
                  refine W.eq (g2 := F0 m 32 ls [.null, .null]) rfl ?_
                  exact e_no hM
                · have hM := e_on1 hM
                  refine W.eq (g2 := F0 m 32 ls [.ref (e_ad G a16), .null]) rfl ?_
                  exact e_no hM
            · have hM := e_on1 hM
              refine W.eq (g2 := F0 m 26 ls [.ref (e_ad G a11)]) rfl ?_
              refine lv_aload_n hx hb dX7_becomes_26 rfl (lv_at hl 1 rfl) ?_
              obtain ⟨v17, hv, hM⟩ := e_bs hM
              refine e_getR (C := RX7) (T := TX7) (N := 6) E J hv rfl inX7 (by decide) q_1_57 dX7_becomes_27 ?_
              rcases v17 with _ | a18
              · have hM := e_on0 hM
                refine W.eq (g2 := F0 m 30 ls [.null, .ref (e_ad G a11)]) rfl ?_
                refine lv_iload_n hx hb dX7_becomes_30 rfl (lv_at hl 2 rfl) ?_
                exact e_no hM
              · have hM := e_on1 hM
                refine W.eq (g2 := F0 m 30 ls [.ref (e_ad G a18), .ref (e_ad G a11)]) rfl ?_
                refine lv_iload_n hx hb dX7_becomes_30 rfl (lv_at hl 2 rfl) ?_
                obtain ⟨v20, hv, hM⟩ := e_bs hM
                refine e_aald E J hv rfl dX7_becomes_31 ?_
                rcases v20 with _ | a21
                · have hM := e_on0 hM
                  refine W.eq (g2 := F0 m 32 ls [.null, .ref (e_ad G a11)]) rfl ?_
                  exact e_no hM
                · have hM := e_on1 hM
                  refine W.eq (g2 := F0 m 32 ls [.ref (e_ad G a21), .ref (e_ad G a11)]) rfl ?_
                  obtain ⟨h22, hv, hM⟩ := e_bs hM
                  obtain ⟨fs_, hk, -⟩ := e_bs hv
                  refine e_callV (ci := 0) (As := [.ref (e_ad G a21)]) (rest := []) (n := 1) E J hk rfl (mX0_becomes (l := l) (G := G) a11 a21 h _ hv) q_4_235 q_4_191 q_4_192 q_1_3 q_4_193 (by decide +kernel) rfl ⟨Nat.le_of_ble_eq_true rfl, Nat.le_of_ble_eq_true rfl⟩ (st0 := [.ref (e_ad G a21), .ref (e_ad G a11)]) (st1 := []) rfl rfl hl.1 (Nat.le_of_ble_eq_true rfl) dX7_becomes_32 ⟨Nat.le_refl _, Nat.le_refl _⟩ (fun H locs J => ?_)
                  refine lv_iinc (v := (l2 + (nI 1))) (lv' := [(2, .int (l2 + (nI 1))), (0, .ref (e_ad G l0)), (1, .ref (e_ad G l1))]) hx hb dX7_becomes_35 hl (k := 2) rfl rfl (by decide) rfl (fun ls hl => ?_)
                  refine lv_goto (tgt := 2) hx hb dX7_becomes_38 (by decide) ?_
                  exact K2 l0 l1 (l2 + (nI 1)) h22 hM _ _ J _ (lv_sub hl [1, 2, 0] rfl)
set_option maxRecDepth 100000 in
set_option maxHeartbeats 4000000 in
theorem mX7_Lecomes_L2 {p : Program} {l : Launch} {e : Env} {s : State} {m : MethodId} {args : Array Value} {below : List Frame} {meth : Method} {c : Code} {G : e_G} {res : e_H} (E : e_M G p s args m meth c cX7_becomes 3 none RX7) (n : Nat) (l0 : Nat) (l1 : Nat) (l2 : Int32) (h : e_H) (hM : fX7_Lecomes_L2 n l0 l1 l2 h = some res) {H : Heap} {locs : List Loc} (J : e_J G s h H locs) {ls : Array Slot} (hl : lv_has ls 3 [(0, .ref (e_ad G l0)), (1, .ref (e_ad G l1)), (2, .int l2)]) : W p l e (e_rm 2 101) s m args below meth c H locs 0 0 (MQ below (e_Q G res (none)) args s 0 0 (e_A G)) (F0 m 2 ls []) := by
  induction n generalizing l0 l1 l2 h H locs ls with
  | zero => exact e_no hM
  | succ n ih => exact mX7_becomes_b2 (k2 := (fX7_Lecomes_L2 n)) E   (fun l0 l1 l2 h hM H locs J ls hl => ih l0 l1 l2 h hM J hl) l0 l1 l2 h hM J hl
set_option maxRecDepth 100000 in
set_option maxHeartbeats 4000000 in
theorem mX7_becomes {l : Launch} {G : e_G} (l0 : Nat) (l1 : Nat) (h : e_H) (res : e_H) (hM : fX7_becomes l0 l1 h = some res) : Met l yX7_becomes (e_W yX7_becomes cX7_becomes 3 none) (e_rm 2 101) (e_Pc G h [.ref (e_ad G l0), .ref (e_ad G l1)]) (e_Q G res (none)) 0 0 (e_A G) := by
  refine Met.ofW (cc := cX7_becomes) (maxL := 3) (ret := none) (by decide) rfl ?_
  intro p e s m args below meth c s₁ B hml hv
  obtain ⟨rfl, hS, hP⟩ := hv
  have E := e_enter (own := RX7) (ret := none) B hml rfl hS hP
  have J : e_J G s h s.heap [] := ⟨hP, va_S.rf⟩
  have hl := lv_entry ([.ref (e_ad G l0), .ref (e_ad G l1)]) (n := 3) (Nat.le_of_ble_eq_true rfl)
  rw [lg_entry_eq]
  generalize (lg_sl ([.ref (e_ad G l0), .ref (e_ad G l1)]) ++ List.replicate (3 - (lg_sl ([.ref (e_ad G l0), .ref (e_ad G l1)])).length) Slot.unset).toArray = ls at hl ⊢
  have hl : lv_has ls 3 [(0, .ref (e_ad G l0)), (1, .ref (e_ad G l1))] := hl
  obtain ⟨hx, hb, hr, hml, hown, hts, hlocks, hES, hbs⟩ := id E
  unfold fX7_becomes at hM
  obtain ⟨fs_, hk_, hM⟩ := e_bs hM
  refine lv_iconst (v := nI 0) hx hb dX7_becomes_0 (by decide) ?_
  refine lv_istore_n (lv' := [(2, .int (nI 0)), (0, .ref (e_ad G l0)), (1, .ref (e_ad G l1))]) hx hb dX7_becomes_1 rfl hl (by decide) rfl (fun ls hl => ?_)
  exact mX7_Lecomes_L2 E 200 l0 l1 (nI 0) h hM J (lv_sub hl [1, 2, 0] rfl)
set_option maxRecDepth 100000 in
set_option maxHeartbeats 4000000 in
theorem mX8_keep {l : Launch} {G : e_G} (l0 : Nat) (h : e_H) (res : (Int32 × e_H)) (hM : fX8_keep l0 h = some res) : Met l yX8_keep (e_W yX8_keep cX8_keep 1 (some FieldType.int)) (e_rm 3 123) (e_Pc G h [.ref (e_ad G l0)]) (e_Q G res.2 (some (.int res.1))) 0 0 (e_A G) := by
  refine Met.ofW (cc := cX8_keep) (maxL := 1) (ret := (some FieldType.int)) (by decide) rfl ?_
  intro p e s m args below meth c s₁ B hml hv
  obtain ⟨rfl, hS, hP⟩ := hv
  have E := e_enter (own := RX8) (ret := (some FieldType.int)) B hml rfl hS hP
  have J : e_J G s h s.heap [] := ⟨hP, va_S.rf⟩
  have hl := lv_entry ([.ref (e_ad G l0)]) (n := 1) (Nat.le_of_ble_eq_true rfl)
  rw [lg_entry_eq]
  generalize (lg_sl ([.ref (e_ad G l0)]) ++ List.replicate (1 - (lg_sl ([.ref (e_ad G l0)])).length) Slot.unset).toArray = ls at hl ⊢
  have hl : lv_has ls 1 [(0, .ref (e_ad G l0))] := hl
  obtain ⟨hx, hb, hr, hml, hown, hts, hlocks, hES, hbs⟩ := id E
  unfold fX8_keep at hM
  obtain ⟨fs_, hk_, hM⟩ := e_bs hM
  refine lv_aload_n hx hb dX8_keep_0 rfl (lv_at hl 0 rfl) ?_
  obtain ⟨v1, hv, hM⟩ := e_bs hM
  refine e_getR (C := RX8) (T := TX8) (N := 10) E J hv rfl inX8 (by decide) q_1_200 dX8_keep_1 ?_
  rcases v1 with _ | a2
  · have hM := e_on0 hM
    refine W.eq (g2 := F0 m 4 ls [.null]) rfl ?_
    refine lv_aload_n hx hb dX8_keep_4 rfl (lv_at hl 0 rfl) ?_
    obtain ⟨v3, hv, hM⟩ := e_bs hM
    refine e_getR (C := RX8) (T := TX8) (N := 10) E J hv rfl inX8 (by decide) q_1_199 dX8_keep_5 ?_
    rcases v3 with _ | a4
    · have hM := e_on0 hM
      refine W.eq (g2 := F0 m 8 ls [.null, .null]) rfl ?_
      exact e_no hM
    · have hM := e_on1 hM
      refine W.eq (g2 := F0 m 8 ls [.ref (e_ad G a4), .null]) rfl ?_
      exact e_no hM
  · have hM := e_on1 hM
    refine W.eq (g2 := F0 m 4 ls [.ref (e_ad G a2)]) rfl ?_
    refine lv_aload_n hx hb dX8_keep_4 rfl (lv_at hl 0 rfl) ?_
    obtain ⟨v5, hv, hM⟩ := e_bs hM
    refine e_getR (C := RX8) (T := TX8) (N := 10) E J hv rfl inX8 (by decide) q_1_199 dX8_keep_5 ?_
    rcases v5 with _ | a6
    · have hM := e_on0 hM
      refine W.eq (g2 := F0 m 8 ls [.null, .ref (e_ad G a2)]) rfl ?_
      exact e_no hM
    · have hM := e_on1 hM
      refine W.eq (g2 := F0 m 8 ls [.ref (e_ad G a6), .ref (e_ad G a2)]) rfl ?_
      obtain ⟨h7, hv, hM⟩ := e_bs hM
      obtain ⟨fs_, hk, -⟩ := e_bs hv
      refine e_callV (ci := 7) (As := [.ref (e_ad G a6)]) (rest := []) (n := 1) E J hk rfl (mX7_becomes (l := l) (G := G) a2 a6 h _ hv) q_4_231 q_4_232 q_4_233 q_1_2 q_4_234 (by decide +kernel) rfl ⟨Nat.le_of_ble_eq_true rfl, Nat.le_of_ble_eq_true rfl⟩ (st0 := [.ref (e_ad G a6), .ref (e_ad G a2)]) (st1 := []) rfl rfl hl.1 (Nat.le_of_ble_eq_true rfl) dX8_keep_8 ⟨Nat.le_refl _, Nat.le_refl _⟩ (fun H locs J => ?_)
      refine lv_aload_n hx hb dX8_keep_11 rfl (lv_at hl 0 rfl) ?_
      refine lv_iconst (v := nI 1) hx hb dX8_keep_12 (by decide) ?_
      obtain ⟨h8, hv, hM⟩ := e_bs hM
      refine e_putv (C := RX8) (T := TX8) (N := 10) E J hv rfl rfl inX8 tyX8 tyX8_ok nmX8 (by decide) q_1_208 rfl rfl (by decide) (by decide) dX8_keep_13 (fun H locs J => ?_)
      refine lv_aload_n hx hb dX8_keep_16 rfl (lv_at hl 0 rfl) ?_
      obtain ⟨v9, hv, hM⟩ := e_bs hM
      refine e_getR (C := RX8) (T := TX8) (N := 10) E J hv rfl inX8 (by decide) q_1_200 dX8_keep_17 ?_
      rcases v9 with _ | a10
      · have hM := e_on0 hM
        refine W.eq (g2 := F0 m 20 ls [.null]) rfl ?_
        exact e_no hM
      · have hM := e_on1 hM
        refine W.eq (g2 := F0 m 20 ls [.ref (e_ad G a10)]) rfl ?_
        obtain ⟨v11, hv, hM⟩ := e_bs hM
        refine e_getI (C := RX7) (T := TX7) (N := 6) E J hv rfl inX7 (by decide) q_1_52 dX8_keep_20 ?_
        obtain rfl := e_so hM
        exact e_iret E J dX8_keep_23
set_option maxRecDepth 100000 in
set_option maxHeartbeats 4000000 in
theorem mX8_back {l : Launch} {G : e_G} (l0 : Nat) (h : e_H) (res : (Int32 × e_H)) (hM : fX8_back l0 h = some res) : Met l yX8_back (e_W yX8_back cX8_back 1 (some FieldType.int)) (e_rm 3 123) (e_Pc G h [.ref (e_ad G l0)]) (e_Q G res.2 (some (.int res.1))) 0 0 (e_A G) := by
  refine Met.ofW (cc := cX8_back) (maxL := 1) (ret := (some FieldType.int)) (by decide) rfl ?_
  intro p e s m args below meth c s₁ B hml hv
  obtain ⟨rfl, hS, hP⟩ := hv
  have E := e_enter (own := RX8) (ret := (some FieldType.int)) B hml rfl hS hP
  have J : e_J G s h s.heap [] := ⟨hP, va_S.rf⟩
  have hl := lv_entry ([.ref (e_ad G l0)]) (n := 1) (Nat.le_of_ble_eq_true rfl)
  rw [lg_entry_eq]
  generalize (lg_sl ([.ref (e_ad G l0)]) ++ List.replicate (1 - (lg_sl ([.ref (e_ad G l0)])).length) Slot.unset).toArray = ls at hl ⊢
  have hl : lv_has ls 1 [(0, .ref (e_ad G l0))] := hl
  obtain ⟨hx, hb, hr, hml, hown, hts, hlocks, hES, hbs⟩ := id E
  unfold fX8_back at hM
  obtain ⟨fs_, hk_, hM⟩ := e_bs hM
  refine lv_aload_n hx hb dX8_back_0 rfl (lv_at hl 0 rfl) ?_
  obtain ⟨v1, hv, hM⟩ := e_bs hM
  refine e_getI (C := RX8) (T := TX8) (N := 10) E J hv rfl inX8 (by decide) q_1_208 dX8_back_1 ?_
  refine lv_if_ne (tgt := 10) hx hb dX8_back_4 (by decide) (fun hc => ?_) (fun hc => ?_)
  · have hM := e_in hc hM
    refine lv_aload_n hx hb dX8_back_10 rfl (lv_at hl 0 rfl) ?_
    obtain ⟨v2, hv, hM⟩ := e_bs hM
    refine e_getR (C := RX8) (T := TX8) (N := 10) E J hv rfl inX8 (by decide) q_1_199 dX8_back_11 ?_
    rcases v2 with _ | a3
    · have hM := e_on0 hM
      refine W.eq (g2 := F0 m 14 ls [.null]) rfl ?_
      refine lv_aload_n hx hb dX8_back_14 rfl (lv_at hl 0 rfl) ?_
      obtain ⟨v4, hv, hM⟩ := e_bs hM
      refine e_getR (C := RX8) (T := TX8) (N := 10) E J hv rfl inX8 (by decide) q_1_200 dX8_back_15 ?_
      rcases v4 with _ | a5
      · have hM := e_on0 hM
        refine W.eq (g2 := F0 m 18 ls [.null, .null]) rfl ?_
        exact e_no hM
      · have hM := e_on1 hM
        refine W.eq (g2 := F0 m 18 ls [.ref (e_ad G a5), .null]) rfl ?_
        exact e_no hM
    · have hM := e_on1 hM
      refine W.eq (g2 := F0 m 14 ls [.ref (e_ad G a3)]) rfl ?_
      refine lv_aload_n hx hb dX8_back_14 rfl (lv_at hl 0 rfl) ?_
      obtain ⟨v6, hv, hM⟩ := e_bs hM
      refine e_getR (C := RX8) (T := TX8) (N := 10) E J hv rfl inX8 (by decide) q_1_200 dX8_back_15 ?_
      rcases v6 with _ | a7
      · have hM := e_on0 hM
        refine W.eq (g2 := F0 m 18 ls [.null, .ref (e_ad G a3)]) rfl ?_
        exact e_no hM
      · have hM := e_on1 hM
        refine W.eq (g2 := F0 m 18 ls [.ref (e_ad G a7), .ref (e_ad G a3)]) rfl ?_
        obtain ⟨h8, hv, hM⟩ := e_bs hM
        obtain ⟨fs_, hk, -⟩ := e_bs hv
        refine e_callV (ci := 7) (As := [.ref (e_ad G a7)]) (rest := []) (n := 1) E J hk rfl (mX7_becomes (l := l) (G := G) a3 a7 h _ hv) q_4_231 q_4_232 q_4_233 q_1_2 q_4_234 (by decide +kernel) rfl ⟨Nat.le_of_ble_eq_true rfl, Nat.le_of_ble_eq_true rfl⟩ (st0 := [.ref (e_ad G a7), .ref (e_ad G a3)]) (st1 := []) rfl rfl hl.1 (Nat.le_of_ble_eq_true rfl) dX8_back_18 ⟨Nat.le_refl _, Nat.le_refl _⟩ (fun H locs J => ?_)
        refine lv_aload_n hx hb dX8_back_21 rfl (lv_at hl 0 rfl) ?_
        obtain ⟨v9, hv, hM⟩ := e_bs hM
        refine e_getR (C := RX8) (T := TX8) (N := 10) E J hv rfl inX8 (by decide) q_1_199 dX8_back_22 ?_
        rcases v9 with _ | a10
        · have hM := e_on0 hM
          refine W.eq (g2 := F0 m 25 ls [.null]) rfl ?_
          exact e_no hM
        · have hM := e_on1 hM
          refine W.eq (g2 := F0 m 25 ls [.ref (e_ad G a10)]) rfl ?_
          obtain ⟨v11, hv, hM⟩ := e_bs hM
          refine e_getI (C := RX7) (T := TX7) (N := 6) E J hv rfl inX7 (by decide) q_1_52 dX8_back_25 ?_
          obtain rfl := e_so hM
          exact e_iret E J dX8_back_28
  · have hM := e_ip hc hM
    refine lv_ldc (v := -1000000002) hx hb hown (hts _ q_2_230) dX8_back_7 ?_
    obtain rfl := e_so hM
    exact e_iret E J dX8_back_9
set_option maxRecDepth 100000 in
set_option maxHeartbeats 4000000 in
theorem mX8_count {l : Launch} {G : e_G} (l0 : Nat) (l1 : Int32) (h : e_H) (res : Int32) (hM : fX8_count l0 l1 h = some res) : Met l yX8_count (e_W yX8_count cX8_count 2 (some FieldType.int)) (e_rm 0 0) (e_Pc G h [.ref (e_ad G l0), .int l1]) (e_Q G h (some (.int res))) 0 0 (e_A G) := by
  refine Met.ofW (cc := cX8_count) (maxL := 2) (ret := (some FieldType.int)) (by decide) rfl ?_
  intro p e s m args below meth c s₁ B hml hv
  obtain ⟨rfl, hS, hP⟩ := hv
  have E := e_enter (own := RX8) (ret := (some FieldType.int)) B hml rfl hS hP
  have J : e_J G s h s.heap [] := ⟨hP, va_S.rf⟩
  have hl := lv_entry ([.ref (e_ad G l0), .int l1]) (n := 2) (Nat.le_of_ble_eq_true rfl)
  rw [lg_entry_eq]
  generalize (lg_sl ([.ref (e_ad G l0), .int l1]) ++ List.replicate (2 - (lg_sl ([.ref (e_ad G l0), .int l1])).length) Slot.unset).toArray = ls at hl ⊢
  have hl : lv_has ls 2 [(0, .ref (e_ad G l0)), (1, .int l1)] := hl
  obtain ⟨hx, hb, hr, hml, hown, hts, hlocks, hES, hbs⟩ := id E
  unfold fX8_count at hM
  obtain ⟨fs_, hk_, hM⟩ := e_bs hM
  refine lv_iload_n hx hb dX8_count_0 rfl (lv_at hl 1 rfl) ?_
  by_cases hc0 : l1 = nI 0
  · have hM := e_ip hc0 hM
    refine e_tin (y := nI 0) (off := 35) (tgt := 36) hx hb dX8_count_1 hc0 (by decide) (by decide) (by decide +kernel) (by decide) ?_
    refine lv_aload_n hx hb dX8_count_36 rfl (lv_at hl 0 rfl) ?_
    obtain ⟨v1, hv, hM⟩ := e_bs hM
    refine e_getR (C := RX8) (T := TX8) (N := 10) E J hv rfl inX8 (by decide) q_1_199 dX8_count_37 ?_
    rcases v1 with _ | a2
    · have hM := e_on0 hM
      refine W.eq (g2 := F0 m 40 ls [.null]) rfl ?_
      exact e_no hM
    · have hM := e_on1 hM
      refine W.eq (g2 := F0 m 40 ls [.ref (e_ad G a2)]) rfl ?_
      obtain ⟨v3, hv, hM⟩ := e_bs hM
      refine e_getI (C := RX7) (T := TX7) (N := 6) E J hv rfl inX7 (by decide) q_1_52 dX8_count_40 ?_
      obtain rfl := e_so hM
      exact e_iret E J dX8_count_43
  have hM := e_in hc0 hM
  by_cases hc1 : l1 = nI 1
  · have hM := e_ip hc1 hM
    refine e_tin (y := nI 1) (off := 43) (tgt := 44) hx hb dX8_count_1 hc1 (by decide) (by decide) (by decide +kernel) (by decide) ?_
    refine lv_aload_n hx hb dX8_count_44 rfl (lv_at hl 0 rfl) ?_
    obtain ⟨v4, hv, hM⟩ := e_bs hM
    refine e_getR (C := RX8) (T := TX8) (N := 10) E J hv rfl inX8 (by decide) q_1_199 dX8_count_45 ?_
    rcases v4 with _ | a5
    · have hM := e_on0 hM
      refine W.eq (g2 := F0 m 48 ls [.null]) rfl ?_
      exact e_no hM
    · have hM := e_on1 hM
      refine W.eq (g2 := F0 m 48 ls [.ref (e_ad G a5)]) rfl ?_
      obtain ⟨v6, hv, hM⟩ := e_bs hM
      refine e_getI (C := RX7) (T := TX7) (N := 6) E J hv rfl inX7 (by decide) q_1_54 dX8_count_48 ?_
      obtain rfl := e_so hM
      exact e_iret E J dX8_count_51
  have hM := e_in hc1 hM
  by_cases hc2 : l1 = nI 2
  · have hM := e_ip hc2 hM
    refine e_tin (y := nI 2) (off := 51) (tgt := 52) hx hb dX8_count_1 hc2 (by decide) (by decide) (by decide +kernel) (by decide) ?_
    refine lv_aload_n hx hb dX8_count_52 rfl (lv_at hl 0 rfl) ?_
    obtain ⟨v7, hv, hM⟩ := e_bs hM
    refine e_getI (C := RX8) (T := TX8) (N := 10) E J hv rfl inX8 (by decide) q_1_207 dX8_count_53 ?_
    obtain rfl := e_so hM
    exact e_iret E J dX8_count_56
  have hM := e_in hc2 hM
  by_cases hc3 : l1 = nI 3
  · have hM := e_ip hc3 hM
    refine e_tin (y := nI 3) (off := 56) (tgt := 57) hx hb dX8_count_1 hc3 (by decide) (by decide) (by decide +kernel) (by decide) ?_
    refine lv_aload_n hx hb dX8_count_57 rfl (lv_at hl 0 rfl) ?_
    obtain ⟨v8, hv, hM⟩ := e_bs hM
    refine e_getR (C := RX8) (T := TX8) (N := 10) E J hv rfl inX8 (by decide) q_1_203 dX8_count_58 ?_
    rcases v8 with _ | a9
    · have hM := e_on0 hM
      refine W.eq (g2 := F0 m 61 ls [.null]) rfl ?_
      exact e_no hM
    · have hM := e_on1 hM
      refine W.eq (g2 := F0 m 61 ls [.ref (e_ad G a9)]) rfl ?_
      obtain ⟨v10, hv, hM⟩ := e_bs hM
      refine e_getI (C := RX5) (T := TX5) (N := 7) E J hv rfl inX5 (by decide) q_1_129 dX8_count_61 ?_
      obtain rfl := e_so hM
      exact e_iret E J dX8_count_64
  have hM := e_in hc3 hM
  by_cases hc4 : l1 = nI 4
  · have hM := e_ip hc4 hM
    refine e_tin (y := nI 4) (off := 64) (tgt := 65) hx hb dX8_count_1 hc4 (by decide) (by decide) (by decide +kernel) (by decide) ?_
    refine lv_aload_n hx hb dX8_count_65 rfl (lv_at hl 0 rfl) ?_
    obtain ⟨v11, hv, hM⟩ := e_bs hM
    refine e_getR (C := RX8) (T := TX8) (N := 10) E J hv rfl inX8 (by decide) q_1_199 dX8_count_66 ?_
    rcases v11 with _ | a12
    · have hM := e_on0 hM
      refine W.eq (g2 := F0 m 69 ls [.null]) rfl ?_
      exact e_no hM
    · have hM := e_on1 hM
      refine W.eq (g2 := F0 m 69 ls [.ref (e_ad G a12)]) rfl ?_
      obtain ⟨v13, hv, hM⟩ := e_bs hM
      refine e_getI (C := RX7) (T := TX7) (N := 6) E J hv rfl inX7 (by decide) q_1_56 dX8_count_69 ?_
      obtain rfl := e_so hM
      exact e_iret E J dX8_count_72
  have hM := e_in hc4 hM
  refine lv_tableOut (tgt := 73) hx hb dX8_count_1 (Classical.byContradiction fun hn => by
      have h9 : l1.toInt = 0 ∨ l1.toInt = 1 ∨ l1.toInt = 2 ∨ l1.toInt = 3 ∨ l1.toInt = 4 := by omega
      rcases h9 with h9 | h9 | h9 | h9 | h9
      · exact hc0 (e_i32 (h9.trans (by decide)))
      · exact hc1 (e_i32 (h9.trans (by decide)))
      · exact hc2 (e_i32 (h9.trans (by decide)))
      · exact hc3 (e_i32 (h9.trans (by decide)))
      · exact hc4 (e_i32 (h9.trans (by decide)))) (by decide) ?_
  refine lv_ldc (v := -1000000001) hx hb hown (hts _ q_1_237) dX8_count_73 ?_
  obtain rfl := e_so hM
  exact e_iret E J dX8_count_75
