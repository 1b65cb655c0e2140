set_option maxRecDepth 100000 in
set_option maxHeartbeats 4000000 in
theorem mX9_nameOf {l : Launch} {G : e_G} (l0 : Nat) (l1 : Int32) (h : e_H) (res : Int32) (hM : fX9_nameOf l0 l1 h = some res) : Met l yX9_nameOf (e_W yX9_nameOf cX9_nameOf 2 (some FieldType.int)) (e_rm 0 0) (e_Pc G h [.ref (e_ad G l0), .int l1]) (e_Q G h (some (.int res))) 0 0 (e_A G) := by
  refine Met.ofW (cc := cX9_nameOf) (maxL := 2) (ret := (some FieldType.int)) (by decide) rfl ?_
  intro p e s m args below meth c s₁ B hml hv
  obtain ⟨rfl, hS, hP⟩ := hv
  have E := e_enter (own := RX9) (ret := (some FieldType.int)) B hml rfl hS hP
  have J : e_J G s h s.heap [] := ⟨hP, va_S.rf⟩
  have hl := lv_entry ([.ref (e_ad G l0), .int l1]) (n := 2) (Nat.le_of_ble_eq_true rfl)
  rw [lg_entry_eq]
  generalize (lg_sl ([.ref (e_ad G l0), .int l1]) ++ List.replicate (2 - (lg_sl ([.ref (e_ad G l0), .int l1])).length) Slot.unset).toArray = ls at hl ⊢
  have hl : lv_has ls 2 [(0, .ref (e_ad G l0)), (1, .int l1)] := hl
  obtain ⟨hx, hb, hr, hml, hown, hts, hlocks, hES, hbs⟩ := id E
  unfold fX9_nameOf at hM
  obtain ⟨fs_, hk_, hM⟩ := e_bs hM
  refine lv_aload_n hx hb dX9_nameOf_0 rfl (lv_at hl 0 rfl) ?_
  obtain ⟨v1, hv, hM⟩ := e_bs hM
  refine e_getI (C := RX9) (T := TX9) (N := 40) E J hv rfl inX9 (by decide) q_5_29 dX9_nameOf_1 ?_
  by_cases hc0 : v1 = nI 0
  · have hM := e_ip hc0 hM
    refine e_lin (y := nI 0) (off := 28) (tgt := 32) hx hb dX9_nameOf_4 hc0 (by decide +kernel) (by decide +kernel) (by decide) ?_
    refine lv_iload_n hx hb dX9_nameOf_32 rfl (lv_at hl 1 rfl) ?_
    refine lv_bipush (v := nI 105) hx hb dX9_nameOf_33 (by decide) ?_
    refine lv_icmp_ne (tgt := 42) hx hb dX9_nameOf_35 (by decide) (fun hc => ?_) (fun hc => ?_)
    · have hM := e_in hc hM
      refine lv_iload_n hx hb dX9_nameOf_42 rfl (lv_at hl 1 rfl) ?_
      refine lv_bipush (v := nI 106) hx hb dX9_nameOf_43 (by decide) ?_
      refine lv_icmp_ne (tgt := 52) hx hb dX9_nameOf_45 (by decide) (fun hc => ?_) (fun hc => ?_)
      · have hM := e_in hc hM
        refine lv_iload_n hx hb dX9_nameOf_52 rfl (lv_at hl 1 rfl) ?_
        refine lv_bipush (v := nI 99) hx hb dX9_nameOf_53 (by decide) ?_
        refine lv_icmp_ne (tgt := 62) hx hb dX9_nameOf_55 (by decide) (fun hc => ?_) (fun hc => ?_)
        · have hM := e_in hc hM
          refine lv_iconst (v := -1) hx hb dX9_nameOf_62 (by decide) ?_
          obtain rfl := e_so hM
          exact e_iret E J dX9_nameOf_63
        · have hM := e_ip hc hM
          refine lv_iconst (v := nI 2) hx hb dX9_nameOf_58 (by decide) ?_
          refine lv_goto (tgt := 63) hx hb dX9_nameOf_59 (by decide) ?_
          obtain rfl := e_so hM
          exact e_iret E J dX9_nameOf_63
      · have hM := e_ip hc hM
        refine lv_iconst (v := nI 1) hx hb dX9_nameOf_48 (by decide) ?_
        refine lv_goto (tgt := 63) hx hb dX9_nameOf_49 (by decide) ?_
        obtain rfl := e_so hM
        exact e_iret E J dX9_nameOf_63
    · have hM := e_ip hc hM
      refine lv_iconst (v := nI 0) hx hb dX9_nameOf_38 (by decide) ?_
      refine lv_goto (tgt := 63) hx hb dX9_nameOf_39 (by decide) ?_
      obtain rfl := e_so hM
      exact e_iret E J dX9_nameOf_63
  have hM := e_in hc0 hM
  by_cases hc1 : v1 = nI 1
  · have hM := e_ip hc1 hM
    refine e_lin (y := nI 1) (off := 60) (tgt := 64) hx hb dX9_nameOf_4 hc1 (by decide +kernel) (by decide +kernel) (by decide) ?_
    refine lv_iload_n hx hb dX9_nameOf_64 rfl (lv_at hl 1 rfl) ?_
    refine lv_bipush (v := nI 116) hx hb dX9_nameOf_65 (by decide) ?_
    refine lv_icmp_ne (tgt := 74) hx hb dX9_nameOf_67 (by decide) (fun hc => ?_) (fun hc => ?_)
    · have hM := e_in hc hM
      refine lv_iload_n hx hb dX9_nameOf_74 rfl (lv_at hl 1 rfl) ?_
      refine lv_bipush (v := nI 109) hx hb dX9_nameOf_75 (by decide) ?_
      refine lv_icmp_ne (tgt := 84) hx hb dX9_nameOf_77 (by decide) (fun hc => ?_) (fun hc => ?_)
      · have hM := e_in hc hM
        refine lv_iconst (v := -1) hx hb dX9_nameOf_84 (by decide) ?_
        obtain rfl := e_so hM
        exact e_iret E J dX9_nameOf_85
      · have hM := e_ip hc hM
        refine lv_iconst (v := nI 1) hx hb dX9_nameOf_80 (by decide) ?_
        refine lv_goto (tgt := 85) hx hb dX9_nameOf_81 (by decide) ?_
        obtain rfl := e_so hM
        exact e_iret E J dX9_nameOf_85
    · have hM := e_ip hc hM
      refine lv_iconst (v := nI 0) hx hb dX9_nameOf_70 (by decide) ?_
      refine lv_goto (tgt := 85) hx hb dX9_nameOf_71 (by decide) ?_
      obtain rfl := e_so hM
      exact e_iret E J dX9_nameOf_85
  have hM := e_in hc1 hM
  refine lv_lookup (tgt := 86) hx hb dX9_nameOf_4 (by decide +kernel) (e_lout (List.forall_mem_cons.mpr ⟨fun e => hc0 (e_i32 (e.symm.trans (by decide))), List.forall_mem_cons.mpr ⟨fun e => hc1 (e_i32 (e.symm.trans (by decide))), fun _ h => absurd h List.not_mem_nil⟩⟩)) (by decide) ?_
  refine lv_iload_n hx hb dX9_nameOf_86 rfl (lv_at hl 1 rfl) ?_
  refine lv_bipush (v := nI 120) hx hb dX9_nameOf_87 (by decide) ?_
  refine lv_icmp_ne (tgt := 96) hx hb dX9_nameOf_89 (by decide) (fun hc => ?_) (fun hc => ?_)
  · have hM := e_in hc hM
    refine lv_iload_n hx hb dX9_nameOf_96 rfl (lv_at hl 1 rfl) ?_
    refine lv_bipush (v := nI 121) hx hb dX9_nameOf_97 (by decide) ?_
    refine lv_icmp_ne (tgt := 106) hx hb dX9_nameOf_99 (by decide) (fun hc => ?_) (fun hc => ?_)
    · have hM := e_in hc hM
      refine lv_iload_n hx hb dX9_nameOf_106 rfl (lv_at hl 1 rfl) ?_
      refine lv_bipush (v := nI 109) hx hb dX9_nameOf_107 (by decide) ?_
      refine lv_icmp_ne (tgt := 116) hx hb dX9_nameOf_109 (by decide) (fun hc => ?_) (fun hc => ?_)
      · have hM := e_in hc hM
        refine lv_iconst (v := -1) hx hb dX9_nameOf_116 (by decide) ?_
        obtain rfl := e_so hM
        exact e_iret E J dX9_nameOf_117
      · have hM := e_ip hc hM
        refine lv_iconst (v := nI 2) hx hb dX9_nameOf_112 (by decide) ?_
        refine lv_goto (tgt := 117) hx hb dX9_nameOf_113 (by decide) ?_
        obtain rfl := e_so hM
        exact e_iret E J dX9_nameOf_117
    · have hM := e_ip hc hM
      refine lv_iconst (v := nI 1) hx hb dX9_nameOf_102 (by decide) ?_
      refine lv_goto (tgt := 117) hx hb dX9_nameOf_103 (by decide) ?_
      obtain rfl := e_so hM
      exact e_iret E J dX9_nameOf_117
  · have hM := e_ip hc hM
    refine lv_iconst (v := nI 0) hx hb dX9_nameOf_92 (by decide) ?_
    refine lv_goto (tgt := 117) hx hb dX9_nameOf_93 (by decide) ?_
    obtain rfl := e_so hM
    exact e_iret E J dX9_nameOf_117
set_option maxRecDepth 100000 in
set_option maxHeartbeats 4000000 in
theorem mX9_rank {l : Launch} {G : e_G} (l0 : Int32) (h : e_H) (res : Int32) (hM : fX9_rank l0 = some res) : Met l yX9_rank (e_W yX9_rank cX9_rank 1 (some FieldType.int)) (e_rm 0 0) (e_Pc G h [.int l0]) (e_Q G h (some (.int res))) 0 0 (e_A G) := by
  refine Met.ofW (cc := cX9_rank) (maxL := 1) (ret := (some FieldType.int)) (by decide) rfl ?_
  intro p e s m args below meth c s₁ B hml hv
  obtain ⟨rfl, hS, hP⟩ := hv
  have E := e_enter (own := RX9) (ret := (some FieldType.int)) B hml rfl hS hP
  have J : e_J G s h s.heap [] := ⟨hP, va_S.rf⟩
  have hl := lv_entry ([.int l0]) (n := 1) (Nat.le_of_ble_eq_true rfl)
  rw [lg_entry_eq]
  generalize (lg_sl ([.int l0]) ++ List.replicate (1 - (lg_sl ([.int l0])).length) Slot.unset).toArray = ls at hl ⊢
  have hl : lv_has ls 1 [(0, .int l0)] := hl
  obtain ⟨hx, hb, hr, hml, hown, hts, hlocks, hES, hbs⟩ := id E
  unfold fX9_rank at hM
  refine lv_iload_n hx hb dX9_rank_0 rfl (lv_at hl 0 rfl) ?_
  refine lv_iconst (v := -1) hx hb dX9_rank_1 (by decide) ?_
  refine lv_icmp_ne (tgt := 9) hx hb dX9_rank_2 (by decide) (fun hc => ?_) (fun hc => ?_)
  · have hM := e_in hc hM
    refine lv_iload_n hx hb dX9_rank_9 rfl (lv_at hl 0 rfl) ?_
    refine lv_bipush (v := -2) hx hb dX9_rank_10 (by decide) ?_
    refine lv_icmp_ne (tgt := 19) hx hb dX9_rank_12 (by decide) (fun hc => ?_) (fun hc => ?_)
    · have hM := e_in hc hM
      refine lv_iload_n hx hb dX9_rank_19 rfl (lv_at hl 0 rfl) ?_
      refine lv_bipush (v := -5) hx hb dX9_rank_20 (by decide) ?_
      refine lv_icmp_lt (tgt := 29) hx hb dX9_rank_22 (by decide) (fun hc => ?_) (fun hc => ?_)
      · have hM := e_ip hc hM
        refine lv_iload_n hx hb dX9_rank_29 rfl (lv_at hl 0 rfl) ?_
        refine lv_bipush (v := -7) hx hb dX9_rank_30 (by decide) ?_
        refine lv_icmp_lt (tgt := 39) hx hb dX9_rank_32 (by decide) (fun hc => ?_) (fun hc => ?_)
        · have hM := e_ip hc hM
          refine lv_iload_n hx hb dX9_rank_39 rfl (lv_at hl 0 rfl) ?_
          refine lv_bipush (v := -9) hx hb dX9_rank_40 (by decide) ?_
          refine lv_icmp_lt (tgt := 49) hx hb dX9_rank_42 (by decide) (fun hc => ?_) (fun hc => ?_)
          · have hM := e_ip hc hM
            refine lv_bipush (v := nI 6) hx hb dX9_rank_49 (by decide) ?_
            obtain rfl := e_so hM
            exact e_iret E J dX9_rank_51
          · have hM := e_in hc hM
            refine lv_iconst (v := nI 5) hx hb dX9_rank_45 (by decide) ?_
            refine lv_goto (tgt := 51) hx hb dX9_rank_46 (by decide) ?_
            obtain rfl := e_so hM
            exact e_iret E J dX9_rank_51
        · have hM := e_in hc hM
          refine lv_iconst (v := nI 4) hx hb dX9_rank_35 (by decide) ?_
          refine lv_goto (tgt := 51) hx hb dX9_rank_36 (by decide) ?_
          obtain rfl := e_so hM
          exact e_iret E J dX9_rank_51
      · have hM := e_in hc hM
        refine lv_iconst (v := nI 3) hx hb dX9_rank_25 (by decide) ?_
        refine lv_goto (tgt := 51) hx hb dX9_rank_26 (by decide) ?_
        obtain rfl := e_so hM
        exact e_iret E J dX9_rank_51
    · have hM := e_ip hc hM
      refine lv_iconst (v := nI 2) hx hb dX9_rank_15 (by decide) ?_
      refine lv_goto (tgt := 51) hx hb dX9_rank_16 (by decide) ?_
      obtain rfl := e_so hM
      exact e_iret E J dX9_rank_51
  · have hM := e_ip hc hM
    refine lv_iconst (v := nI 1) hx hb dX9_rank_5 (by decide) ?_
    refine lv_goto (tgt := 51) hx hb dX9_rank_6 (by decide) ?_
    obtain rfl := e_so hM
    exact e_iret E J dX9_rank_51
set_option maxRecDepth 100000 in
set_option maxHeartbeats 4000000 in
theorem mX9_settle_b0 {p : Program} {l : Launch} {e : Env} {s : State} {m : MethodId} {args : Array Value} {below : List Frame} {meth : Method} {c : Code} {G : e_G} {res : e_H} {k0 : Nat → Int32 → e_H → Option e_H} (E : e_M G p s args m meth c cX9_settle 2 none RX9) (K0 : ∀ (l0 : Nat) (l1 : Int32) (h : e_H), k0 l0 l1 h = some res → ∀ (H : Heap) (locs : List Loc), e_J G s h H locs → ∀ (ls : Array Slot), lv_has ls 2 [(0, .ref (e_ad G l0)), (1, .int l1)] → W p l e (e_rm 1 20) s m args below meth c H locs 0 0 (MQ below (e_Q G res (none)) args s 0 0 (e_A G)) (F0 m 0 ls [])) (l0 : Nat) (l1 : Int32) (h : e_H) (hM : fX9_settle_b0 k0 l0 l1 h = some res) {H : Heap} {locs : List Loc} (J : e_J G s h H locs) {ls : Array Slot} (hl : lv_has ls 2 [(0, .ref (e_ad G l0)), (1, .int l1)]) : W p l e (e_rm 1 20) s m args below meth c H locs 0 0 (MQ below (e_Q G res (none)) args s 0 0 (e_A G)) (F0 m 0 ls []) := by
  obtain ⟨hx, hb, hr, hml, hown, hts, hlocks, hES, hbs⟩ := id E
  unfold fX9_settle_b0 at hM
  refine lv_aload_n hx hb dX9_settle_0 rfl (lv_at hl 0 rfl) ?_
  obtain ⟨v1, hv, hM⟩ := e_bs hM
  refine e_getI (C := RX9) (T := TX9) (N := 40) E J hv rfl inX9 (by decide) q_5_36 dX9_settle_1 ?_
  refine lv_if_le (tgt := 82) hx hb dX9_settle_4 (by decide) (fun hc => ?_) (fun hc => ?_)
  · have hM := e_ip hc hM
    obtain rfl := e_so hM
    exact e_vret E J dX9_settle_82
  · have hM := e_in hc hM
    refine lv_aload_n hx hb dX9_settle_7 rfl (lv_at hl 0 rfl) ?_
    obtain ⟨v2, hv, hM⟩ := e_bs hM
    refine e_getR (C := RX9) (T := TX9) (N := 40) E J hv rfl inX9 (by decide) q_5_35 dX9_settle_8 ?_
    rcases v2 with _ | a3
    · have hM := e_on0 hM
      refine W.eq (g2 := F0 m 11 ls [.null]) rfl ?_
      refine lv_aload_n hx hb dX9_settle_11 rfl (lv_at hl 0 rfl) ?_
      obtain ⟨v4, hv, hM⟩ := e_bs hM
      refine e_getI (C := RX9) (T := TX9) (N := 40) E J hv rfl inX9 (by decide) q_5_36 dX9_settle_12 ?_
      refine lv_iconst (v := nI 1) hx hb dX9_settle_15 (by decide) ?_
      refine lv_isub hx hb dX9_settle_16 ?_
      exact e_no hM
    · have hM := e_on1 hM
      refine W.eq (g2 := F0 m 11 ls [.ref (e_ad G a3)]) rfl ?_
      refine lv_aload_n hx hb dX9_settle_11 rfl (lv_at hl 0 rfl) ?_
      obtain ⟨v5, hv, hM⟩ := e_bs hM
      refine e_getI (C := RX9) (T := TX9) (N := 40) E J hv rfl inX9 (by decide) q_5_36 dX9_settle_12 ?_
      refine lv_iconst (v := nI 1) hx hb dX9_settle_15 (by decide) ?_
      refine lv_isub hx hb dX9_settle_16 ?_
      obtain ⟨v6, hv, hM⟩ := e_bs hM
      refine e_iald E J hv dX9_settle_17 ?_
      refine lv_bipush (v := -11) hx hb dX9_settle_18 (by decide) ?_
      refine lv_icmp_eq (tgt := 82) hx hb dX9_settle_20 (by decide) (fun hc => ?_) (fun hc => ?_)
      · have hM := e_ip hc hM
        obtain rfl := e_so hM
        exact e_vret E J dX9_settle_82
      · have hM := e_in hc hM
        refine lv_aload_n hx hb dX9_settle_23 rfl (lv_at hl 0 rfl) ?_
        obtain ⟨v7, hv, hM⟩ := e_bs hM
        refine e_getR (C := RX9) (T := TX9) (N := 40) E J hv rfl inX9 (by decide) q_5_35 dX9_settle_24 ?_
        rcases v7 with _ | a8
        · have hM := e_on0 hM
          refine W.eq (g2 := F0 m 27 ls [.null]) rfl ?_
          refine lv_aload_n hx hb dX9_settle_27 rfl (lv_at hl 0 rfl) ?_
          obtain ⟨v9, hv, hM⟩ := e_bs hM
          refine e_getI (C := RX9) (T := TX9) (N := 40) E J hv rfl inX9 (by decide) q_5_36 dX9_settle_28 ?_
          refine lv_iconst (v := nI 1) hx hb dX9_settle_31 (by decide) ?_
          refine lv_isub hx hb dX9_settle_32 ?_
          exact e_no hM
        · have hM := e_on1 hM
          refine W.eq (g2 := F0 m 27 ls [.ref (e_ad G a8)]) rfl ?_
          refine lv_aload_n hx hb dX9_settle_27 rfl (lv_at hl 0 rfl) ?_
          obtain ⟨v10, hv, hM⟩ := e_bs hM
          refine e_getI (C := RX9) (T := TX9) (N := 40) E J hv rfl inX9 (by decide) q_5_36 dX9_settle_28 ?_
          refine lv_iconst (v := nI 1) hx hb dX9_settle_31 (by decide) ?_
          refine lv_isub hx hb dX9_settle_32 ?_
          obtain ⟨v11, hv, hM⟩ := e_bs hM
          refine e_iald E J hv dX9_settle_33 ?_
          obtain ⟨v12, hv, hM⟩ := e_bs hM
          refine e_callS (As := [.int v11]) (rest := []) (n := 1) E J (mX9_rank (l := l) (G := G) v11 h _ hv) q_6_162 q_6_163 q_1_9 q_6_164 (by decide +kernel) rfl ⟨Nat.le_of_ble_eq_true rfl, Nat.le_of_ble_eq_true rfl⟩ (st0 := [.int v11]) (st1 := [.int v12]) rfl rfl hl.1 (Nat.le_of_ble_eq_true rfl) dX9_settle_34 ⟨Nat.le_refl _, Nat.le_refl _⟩ (fun H locs J => ?_)
          refine lv_iload_n hx hb dX9_settle_37 rfl (lv_at hl 1 rfl) ?_
          refine lv_icmp_lt (tgt := 82) hx hb dX9_settle_38 (by decide) (fun hc => ?_) (fun hc => ?_)
          · have hM := e_ip hc hM
            obtain rfl := e_so hM
            exact e_vret E J dX9_settle_82
          · have hM := e_in hc hM
            refine lv_aload_n hx hb dX9_settle_41 rfl (lv_at hl 0 rfl) ?_
            refine lv_dup hx hb dX9_settle_42 rfl ?_
            obtain ⟨v13, hv, hM⟩ := e_bs hM
            refine e_getI (C := RX9) (T := TX9) (N := 40) E J hv rfl inX9 (by decide) q_5_36 dX9_settle_43 ?_
            refine lv_iconst (v := nI 1) hx hb dX9_settle_46 (by decide) ?_
            refine lv_isub hx hb dX9_settle_47 ?_
            obtain ⟨h14, hv, hM⟩ := e_bs hM
            refine e_putv (C := RX9) (T := TX9) (N := 40) E J hv rfl rfl inX9 tyX9 tyX9_ok nmX9 (by decide) q_5_36 rfl rfl rfl rfl dX9_settle_48 (fun H locs J => ?_)
            refine lv_aload_n hx hb dX9_settle_51 rfl (lv_at hl 0 rfl) ?_
            obtain ⟨v15, hv, hM⟩ := e_bs hM
            refine e_getR (C := RX9) (T := TX9) (N := 40) E J hv rfl inX9 (by decide) q_5_32 dX9_settle_52 ?_
            rcases v15 with _ | a16
            · have hM := e_on0 hM
              refine W.eq (g2 := F0 m 55 ls [.null]) rfl ?_
              refine lv_aload_n hx hb dX9_settle_55 rfl (lv_at hl 0 rfl) ?_
              obtain ⟨v17, hv, hM⟩ := e_bs hM
              refine e_getI (C := RX9) (T := TX9) (N := 40) E J hv rfl inX9 (by decide) q_5_33 dX9_settle_56 ?_
              refine lv_aload_n hx hb dX9_settle_59 rfl (lv_at hl 0 rfl) ?_
              obtain ⟨v18, hv, hM⟩ := e_bs hM
              refine e_getR (C := RX9) (T := TX9) (N := 40) E J hv rfl inX9 (by decide) q_5_35 dX9_settle_60 ?_
              rcases v18 with _ | a19
              · have hM := e_on0 hM
                refine W.eq (g2 := F0 m 63 ls [.null, .int v17, .null]) rfl ?_
                refine lv_aload_n hx hb dX9_settle_63 rfl (lv_at hl 0 rfl) ?_
                obtain ⟨v20, hv, hM⟩ := e_bs hM
                refine e_getI (C := RX9) (T := TX9) (N := 40) E J hv rfl inX9 (by decide) q_5_36 dX9_settle_64 ?_
                exact e_no hM
              · have hM := e_on1 hM
                refine W.eq (g2 := F0 m 63 ls [.ref (e_ad G a19), .int v17, .null]) rfl ?_
                refine lv_aload_n hx hb dX9_settle_63 rfl (lv_at hl 0 rfl) ?_
                obtain ⟨v21, hv, hM⟩ := e_bs hM
                refine e_getI (C := RX9) (T := TX9) (N := 40) E J hv rfl inX9 (by decide) q_5_36 dX9_settle_64 ?_
                obtain ⟨v22, hv, hM⟩ := e_bs hM
                refine e_iald E J hv dX9_settle_67 ?_
                exact e_no hM
            · have hM := e_on1 hM
              refine W.eq (g2 := F0 m 55 ls [.ref (e_ad G a16)]) rfl ?_
              refine lv_aload_n hx hb dX9_settle_55 rfl (lv_at hl 0 rfl) ?_
              obtain ⟨v24, hv, hM⟩ := e_bs hM
              refine e_getI (C := RX9) (T := TX9) (N := 40) E J hv rfl inX9 (by decide) q_5_33 dX9_settle_56 ?_
              refine lv_aload_n hx hb dX9_settle_59 rfl (lv_at hl 0 rfl) ?_
              obtain ⟨v25, hv, hM⟩ := e_bs hM
              refine e_getR (C := RX9) (T := TX9) (N := 40) E J hv rfl inX9 (by decide) q_5_35 dX9_settle_60 ?_
              rcases v25 with _ | a26
              · have hM := e_on0 hM
                refine W.eq (g2 := F0 m 63 ls [.null, .int v24, .ref (e_ad G a16)]) rfl ?_
                refine lv_aload_n hx hb dX9_settle_63 rfl (lv_at hl 0 rfl) ?_
                obtain ⟨v27, hv, hM⟩ := e_bs hM
                refine e_getI (C := RX9) (T := TX9) (N := 40) E J hv rfl inX9 (by decide) q_5_36 dX9_settle_64 ?_
                exact e_no hM
              · have hM := e_on1 hM
                refine W.eq (g2 := F0 m 63 ls [.ref (e_ad G a26), .int v24, .ref (e_ad G a16)]) rfl ?_
                refine lv_aload_n hx hb dX9_settle_63 rfl (lv_at hl 0 rfl) ?_
                obtain ⟨v28, hv, hM⟩ := e_bs hM
                refine e_getI (C := RX9) (T := TX9) (N := 40) E J hv rfl inX9 (by decide) q_5_36 dX9_settle_64 ?_
                obtain ⟨v29, hv, hM⟩ := e_bs hM
                refine e_iald E J hv dX9_settle_67 ?_
                obtain ⟨h30, hv, hM⟩ := e_bs hM
                refine e_iast E J hv dX9_settle_68 (fun H locs J => ?_)
                refine lv_aload_n hx hb dX9_settle_69 rfl (lv_at hl 0 rfl) ?_
                refine lv_dup hx hb dX9_settle_70 rfl ?_
                obtain ⟨v31, hv, hM⟩ := e_bs hM
                refine e_getI (C := RX9) (T := TX9) (N := 40) E J hv rfl inX9 (by decide) q_5_33 dX9_settle_71 ?_
                refine lv_iconst (v := nI 1) hx hb dX9_settle_74 (by decide) ?_
                refine lv_iadd hx hb dX9_settle_75 ?_
                obtain ⟨h32, hv, hM⟩ := e_bs hM
                refine e_putv (C := RX9) (T := TX9) (N := 40) E J hv rfl rfl inX9 tyX9 tyX9_ok nmX9 (by decide) q_5_33 rfl rfl rfl rfl dX9_settle_76 (fun H locs J => ?_)
                refine lv_goto (tgt := 0) hx hb dX9_settle_79 (by decide) ?_
                exact K0 l0 l1 h32 hM _ _ J _ (lv_sub hl [0, 1] rfl)
set_option maxRecDepth 100000 in
set_option maxHeartbeats 4000000 in
theorem mX9_settle_L0 {p : Program} {l : Launch} {e : Env} {s : State} {m : MethodId} {args : Array Value} {below : List Frame} {meth : Method} {c : Code} {G : e_G} {res : e_H} (E : e_M G p s args m meth c cX9_settle 2 none RX9) (n : Nat) (l0 : Nat) (l1 : Int32) (h : e_H) (hM : fX9_settle_L0 n l0 l1 h = some res) {H : Heap} {locs : List Loc} (J : e_J G s h H locs) {ls : Array Slot} (hl : lv_has ls 2 [(0, .ref (e_ad G l0)), (1, .int l1)]) : W p l e (e_rm 1 20) s m args below meth c H locs 0 0 (MQ below (e_Q G res (none)) args s 0 0 (e_A G)) (F0 m 0 ls []) := by
  induction n generalizing l0 l1 h H locs ls with
  | zero => exact e_no hM
  | succ n ih => exact mX9_settle_b0 (k0 := (fX9_settle_L0 n)) E   (fun l0 l1 h hM H locs J ls hl => ih l0 l1 h hM J hl) l0 l1 h hM J hl
set_option maxRecDepth 100000 in
set_option maxHeartbeats 4000000 in
theorem mX9_settle {l : Launch} {G : e_G} (l0 : Nat) (l1 : Int32) (h : e_H) (res : e_H) (hM : fX9_settle l0 l1 h = some res) : Met l yX9_settle (e_W yX9_settle cX9_settle 2 none) (e_rm 1 20) (e_Pc G h [.ref (e_ad G l0), .int l1]) (e_Q G res (none)) 0 0 (e_A G) := by
  refine Met.ofW (cc := cX9_settle) (maxL := 2) (ret := none) (by decide) rfl ?_
  intro p e s m args below meth c s₁ B hml hv
  obtain ⟨rfl, hS, hP⟩ := hv
  have E := e_enter (own := RX9) (ret := none) B hml rfl hS hP
  have J : e_J G s h s.heap [] := ⟨hP, va_S.rf⟩
  have hl := lv_entry ([.ref (e_ad G l0), .int l1]) (n := 2) (Nat.le_of_ble_eq_true rfl)
  rw [lg_entry_eq]
  generalize (lg_sl ([.ref (e_ad G l0), .int l1]) ++ List.replicate (2 - (lg_sl ([.ref (e_ad G l0), .int l1])).length) Slot.unset).toArray = ls at hl ⊢
  have hl : lv_has ls 2 [(0, .ref (e_ad G l0)), (1, .int l1)] := hl
  obtain ⟨hx, hb, hr, hml, hown, hts, hlocks, hES, hbs⟩ := id E
  unfold fX9_settle at hM
  obtain ⟨fs_, hk_, hM⟩ := e_bs hM
  exact mX9_settle_L0 E 200 l0 l1 h hM J (lv_sub hl [0, 1] rfl)
set_option maxRecDepth 100000 in
set_option maxHeartbeats 4000000 in
theorem mX9_takesPart_b87 {p : Program} {l : Launch} {e : Env} {s : State} {m : MethodId} {args : Array Value} {below : List Frame} {meth : Method} {c : Code} {G : e_G} {res : (Bool × e_H)} (E : e_M G p s args m meth c cX9_takesPart 2 (some FieldType.boolean) RX9) (l0 : Nat) (t0 : Int32) (t1 : Int32) (h : e_H) (hM : fX9_takesPart_b87 l0 t0 t1 h = some res) {H : Heap} {locs : List Loc} (J : e_J G s h H locs) {ls : Array Slot} (hl : lv_has ls 2 [(0, .ref (e_ad G l0))]) : W p l e (e_rm 2 42) s m args below meth c H locs 0 0 (MQ below (e_Q G res.2 (some (.int (e_b res.1)))) args s 0 0 (e_A G)) (F0 m 87 ls [.int t0, .int t1, .null]) := by
  obtain ⟨hx, hb, hr, hml, hown, hts, hlocks, hES, hbs⟩ := id E
  unfold fX9_takesPart_b87 at hM
  exact e_no hM
set_option maxRecDepth 100000 in
set_option maxHeartbeats 4000000 in
theorem mX9_takesPart_b87x1 {p : Program} {l : Launch} {e : Env} {s : State} {m : MethodId} {args : Array Value} {below : List Frame} {meth : Method} {c : Code} {G : e_G} {res : (Bool × e_H)} (E : e_M G p s args m meth c cX9_takesPart 2 (some FieldType.boolean) RX9) (l0 : Nat) (t0 : Int32) (t1 : Int32) (t2 : Nat) (h : e_H) (hM : fX9_takesPart_b87x1 l0 t0 t1 t2 h = some res) {H : Heap} {locs : List Loc} (J : e_J G s h H locs) {ls : Array Slot} (hl : lv_has ls 2 [(0, .ref (e_ad G l0))]) : W p l e (e_rm 2 42) s m args below meth c H locs 0 0 (MQ below (e_Q G res.2 (some (.int (e_b res.1)))) args s 0 0 (e_A G)) (F0 m 87 ls [.int t0, .int t1, .ref (e_ad G t2)]) := by
  obtain ⟨hx, hb, hr, hml, hown, hts, hlocks, hES, hbs⟩ := id E
  unfold fX9_takesPart_b87x1 at hM
  obtain ⟨h1, hv, hM⟩ := e_bs hM
  refine e_iast E J hv dX9_takesPart_87 (fun H locs J => ?_)
  refine lv_aload_n hx hb dX9_takesPart_88 rfl (lv_at hl 0 rfl) ?_
  refine lv_dup hx hb dX9_takesPart_89 rfl ?_
  obtain ⟨v2, hv, hM⟩ := e_bs hM
  refine e_getI (C := RX9) (T := TX9) (N := 40) E J hv rfl inX9 (by decide) q_5_33 dX9_takesPart_90 ?_
  refine lv_iconst (v := nI 1) hx hb dX9_takesPart_93 (by decide) ?_
  refine lv_iadd hx hb dX9_takesPart_94 ?_
  obtain ⟨h3, hv, hM⟩ := e_bs hM
  refine e_putv (C := RX9) (T := TX9) (N := 40) E J hv rfl rfl inX9 tyX9 tyX9_ok nmX9 (by decide) q_5_33 rfl rfl rfl rfl dX9_takesPart_95 (fun H locs J => ?_)
  refine lv_aload_n hx hb dX9_takesPart_98 rfl (lv_at hl 0 rfl) ?_
  refine lv_dup hx hb dX9_takesPart_99 rfl ?_
  obtain ⟨v4, hv, hM⟩ := e_bs hM
  refine e_getI (C := RX9) (T := TX9) (N := 40) E J hv rfl inX9 (by decide) q_5_34 dX9_takesPart_100 ?_
  refine lv_iconst (v := nI 1) hx hb dX9_takesPart_103 (by decide) ?_
  refine lv_iadd hx hb dX9_takesPart_104 ?_
  obtain ⟨h5, hv, hM⟩ := e_bs hM
  refine e_putv (C := RX9) (T := TX9) (N := 40) E J hv rfl rfl inX9 tyX9 tyX9_ok nmX9 (by decide) q_5_34 rfl rfl rfl rfl dX9_takesPart_105 (fun H locs J => ?_)
  refine lv_aload_n hx hb dX9_takesPart_108 rfl (lv_at hl 0 rfl) ?_
  refine lv_bipush (v := nI 6) hx hb dX9_takesPart_109 (by decide) ?_
  obtain ⟨h6, hv, hM⟩ := e_bs hM
  obtain ⟨fs_, hk, -⟩ := e_bs hv
  refine e_callV (ci := 9) (As := [.int (nI 6)]) (rest := []) (n := 1) E J hk rfl (mX9_settle (l := l) (G := G) l0 (nI 6) h5 _ hv) q_6_158 q_6_160 q_p_44 q_1_9 q_6_161 (by decide +kernel) rfl ⟨Nat.le_of_ble_eq_true rfl, Nat.le_of_ble_eq_true rfl⟩ (st0 := [.int (nI 6), .ref (e_ad G l0)]) (st1 := []) rfl rfl hl.1 (Nat.le_of_ble_eq_true rfl) dX9_takesPart_111 ⟨Nat.le_refl _, Nat.le_refl _⟩ (fun H locs J => ?_)
  refine lv_aload_n hx hb dX9_takesPart_114 rfl (lv_at hl 0 rfl) ?_
  obtain ⟨h7, hv, hM⟩ := e_bs hM
  obtain ⟨fs_, hk, -⟩ := e_bs hv
  refine e_callV (ci := 9) (As := []) (rest := []) (n := 0) E J hk rfl (mX9_go (l := l) (G := G) l0 h6 _ hv) q_6_130 q_6_132 q_p_37 q_1_9 q_6_133 (by decide +kernel) rfl ⟨Nat.le_of_ble_eq_true rfl, Nat.le_of_ble_eq_true rfl⟩ (st0 := [.ref (e_ad G l0)]) (st1 := []) rfl rfl hl.1 (Nat.le_of_ble_eq_true rfl) dX9_takesPart_115 ⟨Nat.le_refl _, Nat.le_refl _⟩ (fun H locs J => ?_)
  refine lv_iconst (v := nI 1) hx hb dX9_takesPart_118 (by decide) ?_
  obtain rfl := e_so hM
  exact e_zret E J (true) rfl dX9_takesPart_119
set_option maxRecDepth 100000 in
set_option maxHeartbeats 4000000 in
theorem mX9_takesPart_b52 {p : Program} {l : Launch} {e : Env} {s : State} {m : MethodId} {args : Array Value} {below : List Frame} {meth : Method} {c : Code} {G : e_G} {res : (Bool × e_H)} (E : e_M G p s args m meth c cX9_takesPart 2 (some FieldType.boolean) RX9) (l0 : Nat) (h : e_H) (hM : fX9_takesPart_b52 l0 h = some res) {H : Heap} {locs : List Loc} (J : e_J G s h H locs) {ls : Array Slot} (hl : lv_has ls 2 [(0, .ref (e_ad G l0))]) : W p l e (e_rm 2 42) s m args below meth c H locs 0 0 (MQ below (e_Q G res.2 (some (.int (e_b res.1)))) args s 0 0 (e_A G)) (F0 m 52 ls []) := by
  obtain ⟨hx, hb, hr, hml, hown, hts, hlocks, hES, hbs⟩ := id E
  unfold fX9_takesPart_b52 at hM
  refine lv_aload_n hx hb dX9_takesPart_52 rfl (lv_at hl 0 rfl) ?_
  obtain ⟨v1, hv, hM⟩ := e_bs hM
  refine e_getR (C := RX9) (T := TX9) (N := 40) E J hv rfl inX9 (by decide) q_5_32 dX9_takesPart_53 ?_
  rcases v1 with _ | a2
  · have hM := e_on0 hM
    refine W.eq (g2 := F0 m 56 ls [.null]) rfl ?_
    refine lv_aload_n hx hb dX9_takesPart_56 rfl (lv_at hl 0 rfl) ?_
    obtain ⟨v3, hv, hM⟩ := e_bs hM
    refine e_getI (C := RX9) (T := TX9) (N := 40) E J hv rfl inX9 (by decide) q_5_33 dX9_takesPart_57 ?_
    refine lv_aload_n hx hb dX9_takesPart_60 rfl (lv_at hl 0 rfl) ?_
    obtain ⟨v4, hv, hM⟩ := e_bs hM
    refine e_getI (C := RX9) (T := TX9) (N := 40) E J hv rfl inX9 (by decide) q_5_26 dX9_takesPart_61 ?_
    refine lv_iconst (v := nI 2) hx hb dX9_takesPart_64 (by decide) ?_
    refine lv_icmp_ne (tgt := 75) hx hb dX9_takesPart_65 (by decide) (fun hc => ?_) (fun hc => ?_)
    · have hM := e_in hc hM
      refine lv_sipush (v := nI 10000) hx hb dX9_takesPart_75 (by decide) ?_
      refine lv_aload_n hx hb dX9_takesPart_78 rfl (lv_at hl 0 rfl) ?_
      refine lv_aload_n hx hb dX9_takesPart_79 rfl (lv_at hl 0 rfl) ?_
      obtain ⟨v6, hv, hM⟩ := e_bs hM
      refine e_getI (C := RX9) (T := TX9) (N := 40) E J hv rfl inX9 (by decide) q_5_27 dX9_takesPart_80 ?_
      obtain ⟨v7, hv, hM⟩ := e_bs hM
      obtain ⟨fs_, hk, -⟩ := e_bs hv
      refine e_callV (ci := 9) (As := [.int v6]) (rest := [.int (nI 10000), .int v3, .null]) (n := 1) E J hk rfl (mX9_nameOf (l := l) (G := G) l0 v6 h _ hv) q_6_154 q_6_156 q_p_43 q_1_9 q_6_157 (by decide +kernel) rfl ⟨Nat.le_of_ble_eq_true rfl, Nat.le_of_ble_eq_true rfl⟩ (st0 := [.int v6, .ref (e_ad G l0), .int (nI 10000), .int v3, .null]) (st1 := [.int v7, .int (nI 10000), .int v3, .null]) rfl rfl hl.1 (Nat.le_of_ble_eq_true rfl) dX9_takesPart_83 ⟨Nat.le_refl _, Nat.le_refl _⟩ (fun H locs J => ?_)
      refine lv_iadd hx hb dX9_takesPart_86 ?_
      exact mX9_takesPart_b87 E l0 ((nI 10000) + v7) v3 h hM J (lv_sub hl [0] rfl)
    · have hM := e_ip hc hM
      refine lv_aload_n hx hb dX9_takesPart_68 rfl (lv_at hl 0 rfl) ?_
      obtain ⟨v5, hv, hM⟩ := e_bs hM
      refine e_getI (C := RX9) (T := TX9) (N := 40) E J hv rfl inX9 (by decide) q_5_27 dX9_takesPart_69 ?_
      refine lv_goto (tgt := 87) hx hb dX9_takesPart_72 (by decide) ?_
      exact mX9_takesPart_b87 E l0 v5 v3 h hM J (lv_sub hl [0] rfl)
  · have hM := e_on1 hM
    refine W.eq (g2 := F0 m 56 ls [.ref (e_ad G a2)]) rfl ?_
    refine lv_aload_n hx hb dX9_takesPart_56 rfl (lv_at hl 0 rfl) ?_
    obtain ⟨v8, hv, hM⟩ := e_bs hM
    refine e_getI (C := RX9) (T := TX9) (N := 40) E J hv rfl inX9 (by decide) q_5_33 dX9_takesPart_57 ?_
    refine lv_aload_n hx hb dX9_takesPart_60 rfl (lv_at hl 0 rfl) ?_
    obtain ⟨v9, hv, hM⟩ := e_bs hM
    refine e_getI (C := RX9) (T := TX9) (N := 40) E J hv rfl inX9 (by decide) q_5_26 dX9_takesPart_61 ?_
    refine lv_iconst (v := nI 2) hx hb dX9_takesPart_64 (by decide) ?_
    refine lv_icmp_ne (tgt := 75) hx hb dX9_takesPart_65 (by decide) (fun hc => ?_) (fun hc => ?_)
    · have hM := e_in hc hM
      refine lv_sipush (v := nI 10000) hx hb dX9_takesPart_75 (by decide) ?_
      refine lv_aload_n hx hb dX9_takesPart_78 rfl (lv_at hl 0 rfl) ?_
      refine lv_aload_n hx hb dX9_takesPart_79 rfl (lv_at hl 0 rfl) ?_
      obtain ⟨v11, hv, hM⟩ := e_bs hM
      refine e_getI (C := RX9) (T := TX9) (N := 40) E J hv rfl inX9 (by decide) q_5_27 dX9_takesPart_80 ?_
      obtain ⟨v12, hv, hM⟩ := e_bs hM
      obtain ⟨fs_, hk, -⟩ := e_bs hv
      refine e_callV (ci := 9) (As := [.int v11]) (rest := [.int (nI 10000), .int v8, .ref (e_ad G a2)]) (n := 1) E J hk rfl (mX9_nameOf (l := l) (G := G) l0 v11 h _ hv) q_6_154 q_6_156 q_p_43 q_1_9 q_6_157 (by decide +kernel) rfl ⟨Nat.le_of_ble_eq_true rfl, Nat.le_of_ble_eq_true rfl⟩ (st0 := [.int v11, .ref (e_ad G l0), .int (nI 10000), .int v8, .ref (e_ad G a2)]) (st1 := [.int v12, .int (nI 10000), .int v8, .ref (e_ad G a2)]) rfl rfl hl.1 (Nat.le_of_ble_eq_true rfl) dX9_takesPart_83 ⟨Nat.le_refl _, Nat.le_refl _⟩ (fun H locs J => ?_)
      refine lv_iadd hx hb dX9_takesPart_86 ?_
      exact mX9_takesPart_b87x1 E l0 ((nI 10000) + v12) v8 a2 h hM J (lv_sub hl [0] rfl)
    · have hM := e_ip hc hM
      refine lv_aload_n hx hb dX9_takesPart_68 rfl (lv_at hl 0 rfl) ?_
      obtain ⟨v10, hv, hM⟩ := e_bs hM
      refine e_getI (C := RX9) (T := TX9) (N := 40) E J hv rfl inX9 (by decide) q_5_27 dX9_takesPart_69 ?_
      refine lv_goto (tgt := 87) hx hb dX9_takesPart_72 (by decide) ?_
      exact mX9_takesPart_b87x1 E l0 v10 v8 a2 h hM J (lv_sub hl [0] rfl)
set_option maxRecDepth 100000 in
set_option maxHeartbeats 4000000 in
theorem mX9_takesPart_b37 {p : Program} {l : Launch} {e : Env} {s : State} {m : MethodId} {args : Array Value} {below : List Frame} {meth : Method} {c : Code} {G : e_G} {res : (Bool × e_H)} (E : e_M G p s args m meth c cX9_takesPart 2 (some FieldType.boolean) RX9) (l0 : Nat) (t0 : Int32) (h : e_H) (hM : fX9_takesPart_b37 l0 t0 h = some res) {H : Heap} {locs : List Loc} (J : e_J G s h H locs) {ls : Array Slot} (hl : lv_has ls 2 [(0, .ref (e_ad G l0))]) : W p l e (e_rm 2 42) s m args below meth c H locs 0 0 (MQ below (e_Q G res.2 (some (.int (e_b res.1)))) args s 0 0 (e_A G)) (F0 m 37 ls [.int t0]) := by
  obtain ⟨hx, hb, hr, hml, hown, hts, hlocks, hES, hbs⟩ := id E
  unfold fX9_takesPart_b37 at hM
  refine lv_istore_n (lv' := [(1, .int t0), (0, .ref (e_ad G l0))]) hx hb dX9_takesPart_37 rfl hl (by decide) rfl (fun ls hl => ?_)
  refine lv_aload_n hx hb dX9_takesPart_38 rfl (lv_at hl 1 rfl) ?_
  obtain ⟨v1, hv, hM⟩ := e_bs hM
  refine e_getI (C := RX9) (T := TX9) (N := 40) E J hv rfl inX9 (by decide) q_5_26 dX9_takesPart_39 ?_
  refine lv_iconst (v := nI 2) hx hb dX9_takesPart_42 (by decide) ?_
  refine lv_icmp_eq (tgt := 52) hx hb dX9_takesPart_43 (by decide) (fun hc => ?_) (fun hc => ?_)
  · have hM := e_ip hc hM
    exact mX9_takesPart_b52 E l0 h hM J (lv_sub hl [1] rfl)
  · have hM := e_in hc hM
    refine lv_iload_n hx hb dX9_takesPart_46 rfl (lv_at hl 0 rfl) ?_
    refine lv_if_ne (tgt := 52) hx hb dX9_takesPart_47 (by decide) (fun hc => ?_) (fun hc => ?_)
    · have hM := e_in hc hM
      exact mX9_takesPart_b52 E l0 h hM J (lv_sub hl [1] rfl)
    · have hM := e_ip hc hM
      refine lv_iconst (v := nI 0) hx hb dX9_takesPart_50 (by decide) ?_
      obtain rfl := e_so hM
      exact e_zret E J (false) rfl dX9_takesPart_51
set_option maxRecDepth 100000 in
set_option maxHeartbeats 4000000 in
theorem mX9_takesPart_b36 {p : Program} {l : Launch} {e : Env} {s : State} {m : MethodId} {args : Array Value} {below : List Frame} {meth : Method} {c : Code} {G : e_G} {res : (Bool × e_H)} (E : e_M G p s args m meth c cX9_takesPart 2 (some FieldType.boolean) RX9) (l0 : Nat) (h : e_H) (hM : fX9_takesPart_b36 l0 h = some res) {H : Heap} {locs : List Loc} (J : e_J G s h H locs) {ls : Array Slot} (hl : lv_has ls 2 [(0, .ref (e_ad G l0))]) : W p l e (e_rm 2 42) s m args below meth c H locs 0 0 (MQ below (e_Q G res.2 (some (.int (e_b res.1)))) args s 0 0 (e_A G)) (F0 m 36 ls []) := by
  obtain ⟨hx, hb, hr, hml, hown, hts, hlocks, hES, hbs⟩ := id E
  unfold fX9_takesPart_b36 at hM
  refine lv_iconst (v := nI 0) hx hb dX9_takesPart_36 (by decide) ?_
  exact mX9_takesPart_b37 E l0 (nI 0) h hM J (lv_sub hl [0] rfl)
set_option maxRecDepth 100000 in
set_option maxHeartbeats 4000000 in
theorem mX9_takesPart {l : Launch} {G : e_G} (l0 : Nat) (h : e_H) (res : (Bool × e_H)) (hM : fX9_takesPart l0 h = some res) : Met l yX9_takesPart (e_W yX9_takesPart cX9_takesPart 2 (some FieldType.boolean)) (e_rm 2 42) (e_Pc G h [.ref (e_ad G l0)]) (e_Q G res.2 (some (.int (e_b res.1)))) 0 0 (e_A G) := by
  refine Met.ofW (cc := cX9_takesPart) (maxL := 2) (ret := (some FieldType.boolean)) (by decide) rfl ?_
  intro p e s m args below meth c s₁ B hml hv
  obtain ⟨rfl, hS, hP⟩ := hv
  have E := e_enter (own := RX9) (ret := (some FieldType.boolean)) B hml rfl hS hP
  have J : e_J G s h s.heap [] := ⟨hP, va_S.rf⟩
  have hl := lv_entry ([.ref (e_ad G l0)]) (n := 2) (Nat.le_of_ble_eq_true rfl)
  rw [lg_entry_eq]
  generalize (lg_sl ([.ref (e_ad G l0)]) ++ List.replicate (2 - (lg_sl ([.ref (e_ad G l0)])).length) Slot.unset).toArray = ls at hl ⊢
  have hl : lv_has ls 2 [(0, .ref (e_ad G l0))] := hl
  obtain ⟨hx, hb, hr, hml, hown, hts, hlocks, hES, hbs⟩ := id E
  unfold fX9_takesPart at hM
  obtain ⟨fs_, hk_, hM⟩ := e_bs hM
  refine lv_aload_n hx hb dX9_takesPart_0 rfl (lv_at hl 0 rfl) ?_
  obtain ⟨v1, hv, hM⟩ := e_bs hM
  refine e_getI (C := RX9) (T := TX9) (N := 40) E J hv rfl inX9 (by decide) q_5_26 dX9_takesPart_1 ?_
  refine lv_iconst (v := nI 1) hx hb dX9_takesPart_4 (by decide) ?_
  refine lv_icmp_ne (tgt := 36) hx hb dX9_takesPart_5 (by decide) (fun hc => ?_) (fun hc => ?_)
  · have hM := e_in hc hM
    exact mX9_takesPart_b36 E l0 h hM J (lv_sub hl [0] rfl)
  · have hM := e_ip hc hM
    refine lv_aload_n hx hb dX9_takesPart_8 rfl (lv_at hl 0 rfl) ?_
    obtain ⟨v2, hv, hM⟩ := e_bs hM
    refine e_getI (C := RX9) (T := TX9) (N := 40) E J hv rfl inX9 (by decide) q_5_24 dX9_takesPart_9 ?_
    refine lv_aload_n hx hb dX9_takesPart_12 rfl (lv_at hl 0 rfl) ?_
    obtain ⟨v3, hv, hM⟩ := e_bs hM
    refine e_getI (C := RX9) (T := TX9) (N := 40) E J hv rfl inX9 (by decide) q_5_25 dX9_takesPart_13 ?_
    refine lv_isub hx hb dX9_takesPart_16 ?_
    refine lv_iconst (v := nI 1) hx hb dX9_takesPart_17 (by decide) ?_
    refine lv_icmp_ne (tgt := 36) hx hb dX9_takesPart_18 (by decide) (fun hc => ?_) (fun hc => ?_)
    · have hM := e_in hc hM
      exact mX9_takesPart_b36 E l0 h hM J (lv_sub hl [0] rfl)
    · have hM := e_ip hc hM
      refine lv_aload_n hx hb dX9_takesPart_21 rfl (lv_at hl 0 rfl) ?_
      refine lv_aload_n hx hb dX9_takesPart_22 rfl (lv_at hl 0 rfl) ?_
      obtain ⟨v4, hv, hM⟩ := e_bs hM
      refine e_getI (C := RX9) (T := TX9) (N := 40) E J hv rfl inX9 (by decide) q_5_27 dX9_takesPart_23 ?_
      obtain ⟨v5, hv, hM⟩ := e_bs hM
      obtain ⟨fs_, hk, -⟩ := e_bs hv
      refine e_callV (ci := 9) (As := [.int v4]) (rest := []) (n := 1) E J hk rfl (mX9_nameOf (l := l) (G := G) l0 v4 h _ hv) q_6_154 q_6_156 q_p_43 q_1_9 q_6_157 (by decide +kernel) rfl ⟨Nat.le_of_ble_eq_true rfl, Nat.le_of_ble_eq_true rfl⟩ (st0 := [.int v4, .ref (e_ad G l0)]) (st1 := [.int v5]) rfl rfl hl.1 (Nat.le_of_ble_eq_true rfl) dX9_takesPart_26 ⟨Nat.le_refl _, Nat.le_refl _⟩ (fun H locs J => ?_)
      refine lv_if_lt (tgt := 36) hx hb dX9_takesPart_29 (by decide) (fun hc => ?_) (fun hc => ?_)
      · have hM := e_ip hc hM
        exact mX9_takesPart_b36 E l0 h hM J (lv_sub hl [0] rfl)
      · have hM := e_in hc hM
        refine lv_iconst (v := nI 1) hx hb dX9_takesPart_32 (by decide) ?_
        refine lv_goto (tgt := 37) hx hb dX9_takesPart_33 (by decide) ?_
        exact mX9_takesPart_b37 E l0 (nI 1) h hM J (lv_sub hl [0] rfl)
set_option maxRecDepth 100000 in
set_option maxHeartbeats 4000000 in
theorem mX9_notsOpen_b29 {p : Program} {l : Launch} {e : Env} {s : State} {m : MethodId} {args : Array Value} {below : List Frame} {meth : Method} {c : Code} {G : e_G} {res : Int32} {k4 : Nat → Int32 → Int32 → Option Int32} (E : e_M G p s args m meth c cX9_notsOpen 3 (some FieldType.int) RX9) (h : e_H) (K4 : ∀ (l0 : Nat) (l1 : Int32) (l2 : Int32), k4 l0 l1 l2 = some res → ∀ (H : Heap) (locs : List Loc), e_J G s h H locs → ∀ (ls : Array Slot), lv_has ls 3 [(0, .ref (e_ad G l0)), (1, .int l1), (2, .int l2)] → W p l e (e_rm 0 0) s m args below meth c H locs 0 0 (MQ below (e_Q G h (some (.int res))) args s 0 0 (e_A G)) (F0 m 4 ls [])) (l0 : Nat) (l2 : Int32) (t0 : Int32) (t1 : Int32) (hM : fX9_notsOpen_b29 h k4 l0 l2 t0 t1 = some res) {H : Heap} {locs : List Loc} (J : e_J G s h H locs) {ls : Array Slot} (hl : lv_has ls 3 [(0, .ref (e_ad G l0)), (2, .int l2)]) : W p l e (e_rm 0 0) s m args below meth c H locs 0 0 (MQ below (e_Q G h (some (.int res))) args s 0 0 (e_A G)) (F0 m 29 ls [.int t0, .int t1]) := by
  obtain ⟨hx, hb, hr, hml, hown, hts, hlocks, hES, hbs⟩ := id E
  unfold fX9_notsOpen_b29 at hM
  refine lv_iadd hx hb dX9_notsOpen_29 ?_
  refine lv_istore_n (lv' := [(1, .int (t1 + t0)), (0, .ref (e_ad G l0)), (2, .int l2)]) hx hb dX9_notsOpen_30 rfl hl (by decide) rfl (fun ls hl => ?_)
  refine lv_iinc (v := (l2 + (nI 1))) (lv' := [(2, .int (l2 + (nI 1))), (1, .int (t1 + t0)), (0, .ref (e_ad G l0))]) hx hb dX9_notsOpen_31 hl (k := 2) rfl rfl (by decide) rfl (fun ls hl => ?_)
  refine lv_goto (tgt := 4) hx hb dX9_notsOpen_34 (by decide) ?_
  exact K4 l0 (t1 + t0) (l2 + (nI 1)) hM _ _ J _ (lv_sub hl [2, 1, 0] rfl)
set_option maxRecDepth 100000 in
set_option maxHeartbeats 4000000 in
theorem mX9_notsOpen_b4 {p : Program} {l : Launch} {e : Env} {s : State} {m : MethodId} {args : Array Value} {below : List Frame} {meth : Method} {c : Code} {G : e_G} {res : Int32} {k4 : Nat → Int32 → Int32 → Option Int32} (E : e_M G p s args m meth c cX9_notsOpen 3 (some FieldType.int) RX9) (h : e_H) (K4 : ∀ (l0 : Nat) (l1 : Int32) (l2 : Int32), k4 l0 l1 l2 = some res → ∀ (H : Heap) (locs : List Loc), e_J G s h H locs → ∀ (ls : Array Slot), lv_has ls 3 [(0, .ref (e_ad G l0)), (1, .int l1), (2, .int l2)] → W p l e (e_rm 0 0) s m args below meth c H locs 0 0 (MQ below (e_Q G h (some (.int res))) args s 0 0 (e_A G)) (F0 m 4 ls [])) (l0 : Nat) (l1 : Int32) (l2 : Int32) (hM : fX9_notsOpen_b4 h k4 l0 l1 l2 = some res) {H : Heap} {locs : List Loc} (J : e_J G s h H locs) {ls : Array Slot} (hl : lv_has ls 3 [(0, .ref (e_ad G l0)), (1, .int l1), (2, .int l2)]) : W p l e (e_rm 0 0) s m args below meth c H locs 0 0 (MQ below (e_Q G h (some (.int res))) args s 0 0 (e_A G)) (F0 m 4 ls []) := by
  obtain ⟨hx, hb, hr, hml, hown, hts, hlocks, hES, hbs⟩ := id E
  unfold fX9_notsOpen_b4 at hM
  refine lv_iload_n hx hb dX9_notsOpen_4 rfl (lv_at hl 2 rfl) ?_
  refine lv_aload_n hx hb dX9_notsOpen_5 rfl (lv_at hl 0 rfl) ?_
  obtain ⟨v1, hv, hM⟩ := e_bs hM
  refine e_getI (C := RX9) (T := TX9) (N := 40) E J hv rfl inX9 (by decide) q_5_36 dX9_notsOpen_6 ?_
  refine lv_icmp_ge (tgt := 37) hx hb dX9_notsOpen_9 (by decide) (fun hc => ?_) (fun hc => ?_)
  · have hM := e_ip hc hM
    refine lv_iload_n hx hb dX9_notsOpen_37 rfl (lv_at hl 1 rfl) ?_
    obtain rfl := e_so hM
    exact e_iret E J dX9_notsOpen_38
  · have hM := e_in hc hM
    refine lv_iload_n hx hb dX9_notsOpen_12 rfl (lv_at hl 1 rfl) ?_
    refine lv_aload_n hx hb dX9_notsOpen_13 rfl (lv_at hl 0 rfl) ?_
    obtain ⟨v2, hv, hM⟩ := e_bs hM
    refine e_getR (C := RX9) (T := TX9) (N := 40) E J hv rfl inX9 (by decide) q_5_35 dX9_notsOpen_14 ?_
    rcases v2 with _ | a3
    · have hM := e_on0 hM
      refine W.eq (g2 := F0 m 17 ls [.null, .int l1]) rfl ?_
      refine lv_iload_n hx hb dX9_notsOpen_17 rfl (lv_at hl 2 rfl) ?_
      exact e_no hM
    · have hM := e_on1 hM
      refine W.eq (g2 := F0 m 17 ls [.ref (e_ad G a3), .int l1]) rfl ?_
      refine lv_iload_n hx hb dX9_notsOpen_17 rfl (lv_at hl 2 rfl) ?_
      obtain ⟨v4, hv, hM⟩ := e_bs hM
      refine e_iald E J hv dX9_notsOpen_18 ?_
      refine lv_bipush (v := -10) hx hb dX9_notsOpen_19 (by decide) ?_
      refine lv_icmp_ne (tgt := 28) hx hb dX9_notsOpen_21 (by decide) (fun hc => ?_) (fun hc => ?_)
      · have hM := e_in hc hM
        refine lv_iconst (v := nI 0) hx hb dX9_notsOpen_28 (by decide) ?_
        exact mX9_notsOpen_b29 E h K4 l0 l2 (nI 0) l1 hM J (lv_sub hl [0, 2] rfl)
      · have hM := e_ip hc hM
        refine lv_iconst (v := nI 1) hx hb dX9_notsOpen_24 (by decide) ?_
        refine lv_goto (tgt := 29) hx hb dX9_notsOpen_25 (by decide) ?_
        exact mX9_notsOpen_b29 E h K4 l0 l2 (nI 1) l1 hM J (lv_sub hl [0, 2] rfl)
set_option maxRecDepth 100000 in
set_option maxHeartbeats 4000000 in
theorem mX9_notsOpen_L4 {p : Program} {l : Launch} {e : Env} {s : State} {m : MethodId} {args : Array Value} {below : List Frame} {meth : Method} {c : Code} {G : e_G} {res : Int32} (E : e_M G p s args m meth c cX9_notsOpen 3 (some FieldType.int) RX9) (h : e_H) (n : Nat) (l0 : Nat) (l1 : Int32) (l2 : Int32) (hM : fX9_notsOpen_L4 h n l0 l1 l2 = some res) {H : Heap} {locs : List Loc} (J : e_J G s h H locs) {ls : Array Slot} (hl : lv_has ls 3 [(0, .ref (e_ad G l0)), (1, .int l1), (2, .int l2)]) : W p l e (e_rm 0 0) s m args below meth c H locs 0 0 (MQ below (e_Q G h (some (.int res))) args s 0 0 (e_A G)) (F0 m 4 ls []) := by
  induction n generalizing l0 l1 l2 H locs ls with
  | zero => exact e_no hM
  | succ n ih => exact mX9_notsOpen_b4 (k4 := (fX9_notsOpen_L4 h n)) E h  (fun l0 l1 l2 hM H locs J ls hl => ih l0 l1 l2 hM J hl) l0 l1 l2 hM J hl
set_option maxRecDepth 100000 in
set_option maxHeartbeats 4000000 in
theorem mX9_notsOpen {l : Launch} {G : e_G} (l0 : Nat) (h : e_H) (res : Int32) (hM : fX9_notsOpen l0 h = some res) : Met l yX9_notsOpen (e_W yX9_notsOpen cX9_notsOpen 3 (some FieldType.int)) (e_rm 0 0) (e_Pc G h [.ref (e_ad G l0)]) (e_Q G h (some (.int res))) 0 0 (e_A G) := by
  refine Met.ofW (cc := cX9_notsOpen) (maxL := 3) (ret := (some FieldType.int)) (by decide) rfl ?_
  intro p e s m args below meth c s₁ B hml hv
  obtain ⟨rfl, hS, hP⟩ := hv
  have E := e_enter (own := RX9) (ret := (some FieldType.int)) B hml rfl hS hP
  have J : e_J G s h s.heap [] := ⟨hP, va_S.rf⟩
  have hl := lv_entry ([.ref (e_ad G l0)]) (n := 3) (Nat.le_of_ble_eq_true rfl)
  rw [lg_entry_eq]
  generalize (lg_sl ([.ref (e_ad G l0)]) ++ List.replicate (3 - (lg_sl ([.ref (e_ad G l0)])).length) Slot.unset).toArray = ls at hl ⊢
  have hl : lv_has ls 3 [(0, .ref (e_ad G l0))] := hl
  obtain ⟨hx, hb, hr, hml, hown, hts, hlocks, hES, hbs⟩ := id E
  unfold fX9_notsOpen at hM
  obtain ⟨fs_, hk_, hM⟩ := e_bs hM
  refine lv_iconst (v := nI 0) hx hb dX9_notsOpen_0 (by decide) ?_
  refine lv_istore_n (lv' := [(1, .int (nI 0)), (0, .ref (e_ad G l0))]) hx hb dX9_notsOpen_1 rfl hl (by decide) rfl (fun ls hl => ?_)
  refine lv_iconst (v := nI 0) hx hb dX9_notsOpen_2 (by decide) ?_
  refine lv_istore_n (lv' := [(2, .int (nI 0)), (1, .int (nI 0)), (0, .ref (e_ad G l0))]) hx hb dX9_notsOpen_3 rfl hl (by decide) rfl (fun ls hl => ?_)
  exact mX9_notsOpen_L4 E h 200 l0 (nI 0) (nI 0) hM J (lv_sub hl [2, 1, 0] rfl)
set_option maxRecDepth 100000 in
set_option maxHeartbeats 4000000 in
theorem mX9_signHere {l : Launch} {G : e_G} (l0 : Nat) (h : e_H) (res : Int32) (hM : fX9_signHere l0 h = some res) : Met l yX9_signHere (e_W yX9_signHere cX9_signHere 1 (some FieldType.int)) (e_rm 0 0) (e_Pc G h [.ref (e_ad G l0)]) (e_Q G h (some (.int res))) 0 0 (e_A G) := by
  refine Met.ofW (cc := cX9_signHere) (maxL := 1) (ret := (some FieldType.int)) (by decide) rfl ?_
  intro p e s m args below meth c s₁ B hml hv
  obtain ⟨rfl, hS, hP⟩ := hv
  have E := e_enter (own := RX9) (ret := (some FieldType.int)) B hml rfl hS hP
  have J : e_J G s h s.heap [] := ⟨hP, va_S.rf⟩
  have hl := lv_entry ([.ref (e_ad G l0)]) (n := 1) (Nat.le_of_ble_eq_true rfl)
  rw [lg_entry_eq]
  generalize (lg_sl ([.ref (e_ad G l0)]) ++ List.replicate (1 - (lg_sl ([.ref (e_ad G l0)])).length) Slot.unset).toArray = ls at hl ⊢
  have hl : lv_has ls 1 [(0, .ref (e_ad G l0))] := hl
  obtain ⟨hx, hb, hr, hml, hown, hts, hlocks, hES, hbs⟩ := id E
  unfold fX9_signHere at hM
  obtain ⟨fs_, hk_, hM⟩ := e_bs hM
  refine lv_aload_n hx hb dX9_signHere_0 rfl (lv_at hl 0 rfl) ?_
  obtain ⟨v1, hv, hM⟩ := e_bs hM
  refine e_getI (C := RX9) (T := TX9) (N := 40) E J hv rfl inX9 (by decide) q_5_26 dX9_signHere_1 ?_
  refine lv_iconst (v := nI 3) hx hb dX9_signHere_4 (by decide) ?_
  refine lv_icmp_eq (tgt := 10) hx hb dX9_signHere_5 (by decide) (fun hc => ?_) (fun hc => ?_)
  · have hM := e_ip hc hM
    refine lv_aload_n hx hb dX9_signHere_10 rfl (lv_at hl 0 rfl) ?_
    obtain ⟨v2, hv, hM⟩ := e_bs hM
    refine e_getI (C := RX9) (T := TX9) (N := 40) E J hv rfl inX9 (by decide) q_5_27 dX9_signHere_11 ?_
    by_cases hc0 : v2 = nI 38
    · have hM := e_ip hc0 hM
      refine e_lin (y := nI 38) (off := 84) (tgt := 98) hx hb dX9_signHere_14 hc0 (by decide +kernel) (by decide +kernel) (by decide) ?_
      refine lv_bipush (v := -2) hx hb dX9_signHere_98 (by decide) ?_
      obtain rfl := e_so hM
      exact e_iret E J dX9_signHere_100
    have hM := e_in hc0 hM
    by_cases hc1 : v2 = nI 42
    · have hM := e_ip hc1 hM
      refine e_lin (y := nI 42) (off := 102) (tgt := 116) hx hb dX9_signHere_14 hc1 (by decide +kernel) (by decide +kernel) (by decide) ?_
      refine lv_bipush (v := -8) hx hb dX9_signHere_116 (by decide) ?_
      obtain rfl := e_so hM
      exact e_iret E J dX9_signHere_118
    have hM := e_in hc1 hM
    by_cases hc2 : v2 = nI 43
    · have hM := e_ip hc2 hM
      refine e_lin (y := nI 43) (off := 96) (tgt := 110) hx hb dX9_signHere_14 hc2 (by decide +kernel) (by decide +kernel) (by decide) ?_
      refine lv_bipush (v := -6) hx hb dX9_signHere_110 (by decide) ?_
      obtain rfl := e_so hM
      exact e_iret E J dX9_signHere_112
    have hM := e_in hc2 hM
    by_cases hc3 : v2 = nI 45
    · have hM := e_ip hc3 hM
      refine e_lin (y := nI 45) (off := 99) (tgt := 113) hx hb dX9_signHere_14 hc3 (by decide +kernel) (by decide +kernel) (by decide) ?_
      refine lv_bipush (v := -7) hx hb dX9_signHere_113 (by decide) ?_
      obtain rfl := e_so hM
      exact e_iret E J dX9_signHere_115
    have hM := e_in hc3 hM
    by_cases hc4 : v2 = nI 47
    · have hM := e_ip hc4 hM
      refine e_lin (y := nI 47) (off := 105) (tgt := 119) hx hb dX9_signHere_14 hc4 (by decide +kernel) (by decide +kernel) (by decide) ?_
      refine lv_bipush (v := -9) hx hb dX9_signHere_119 (by decide) ?_
      obtain rfl := e_so hM
      exact e_iret E J dX9_signHere_121
    have hM := e_in hc4 hM
    by_cases hc5 : v2 = nI 60
    · have hM := e_ip hc5 hM
      refine e_lin (y := nI 60) (off := 87) (tgt := 101) hx hb dX9_signHere_14 hc5 (by decide +kernel) (by decide +kernel) (by decide) ?_
      refine lv_bipush (v := -3) hx hb dX9_signHere_101 (by decide) ?_
      obtain rfl := e_so hM
      exact e_iret E J dX9_signHere_103
    have hM := e_in hc5 hM
    by_cases hc6 : v2 = nI 61
    · have hM := e_ip hc6 hM
      refine e_lin (y := nI 61) (off := 90) (tgt := 104) hx hb dX9_signHere_14 hc6 (by decide +kernel) (by decide +kernel) (by decide) ?_
      refine lv_bipush (v := -4) hx hb dX9_signHere_104 (by decide) ?_
      obtain rfl := e_so hM
      exact e_iret E J dX9_signHere_106
    have hM := e_in hc6 hM
    by_cases hc7 : v2 = nI 62
    · have hM := e_ip hc7 hM
      refine e_lin (y := nI 62) (off := 93) (tgt := 107) hx hb dX9_signHere_14 hc7 (by decide +kernel) (by decide +kernel) (by decide) ?_
      refine lv_bipush (v := -5) hx hb dX9_signHere_107 (by decide) ?_
      obtain rfl := e_so hM
      exact e_iret E J dX9_signHere_109
    have hM := e_in hc7 hM
    by_cases hc8 : v2 = nI 124
    · have hM := e_ip hc8 hM
      refine e_lin (y := nI 124) (off := 82) (tgt := 96) hx hb dX9_signHere_14 hc8 (by decide +kernel) (by decide +kernel) (by decide) ?_
      refine lv_iconst (v := -1) hx hb dX9_signHere_96 (by decide) ?_
      obtain rfl := e_so hM
      exact e_iret E J dX9_signHere_97
    have hM := e_in hc8 hM
    refine lv_lookup (tgt := 122) hx hb dX9_signHere_14 (by decide +kernel) (e_lout (List.forall_mem_cons.mpr ⟨fun e => hc0 (e_i32 (e.symm.trans (by decide))), List.forall_mem_cons.mpr ⟨fun e => hc1 (e_i32 (e.symm.trans (by decide))), List.forall_mem_cons.mpr ⟨fun e => hc2 (e_i32 (e.symm.trans (by decide))), List.forall_mem_cons.mpr ⟨fun e => hc3 (e_i32 (e.symm.trans (by decide))), List.forall_mem_cons.mpr ⟨fun e => hc4 (e_i32 (e.symm.trans (by decide))), List.forall_mem_cons.mpr ⟨fun e => hc5 (e_i32 (e.symm.trans (by decide))), List.forall_mem_cons.mpr ⟨fun e => hc6 (e_i32 (e.symm.trans (by decide))), List.forall_mem_cons.mpr ⟨fun e => hc7 (e_i32 (e.symm.trans (by decide))), List.forall_mem_cons.mpr ⟨fun e => hc8 (e_i32 (e.symm.trans (by decide))), fun _ h => absurd h List.not_mem_nil⟩⟩⟩⟩⟩⟩⟩⟩⟩)) (by decide) ?_
    refine lv_iconst (v := nI 0) hx hb dX9_signHere_122 (by decide) ?_
    obtain rfl := e_so hM
    exact e_iret E J dX9_signHere_123
  · have hM := e_in hc hM
    refine lv_iconst (v := nI 0) hx hb dX9_signHere_8 (by decide) ?_
    obtain rfl := e_so hM
    exact e_iret E J dX9_signHere_9
set_option maxRecDepth 100000 in
set_option maxHeartbeats 4000000 in
theorem mX9_takesE_b305 {p : Program} {l : Launch} {e : Env} {s : State} {m : MethodId} {args : Array Value} {below : List Frame} {meth : Method} {c : Code} {G : e_G} {res : (Bool × e_H)} {k28 : Nat → Int32 → Int32 → Int32 → e_H → Option (Bool × e_H)} (E : e_M G p s args m meth c cX9_takesE 5 (some FieldType.boolean) RX9) (K28 : ∀ (l0 : Nat) (l1 : Int32) (l2 : Int32) (l3 : Int32) (h : e_H), k28 l0 l1 l2 l3 h = some res → ∀ (H : Heap) (locs : List Loc), e_J G s h H locs → ∀ (ls : Array Slot), lv_has ls 5 [(0, .ref (e_ad G l0)), (1, .int l1), (2, .int l2), (3, .int l3)] → W p l e (e_rm 3 63) s m args below meth c H locs 0 0 (MQ below (e_Q G res.2 (some (.int (e_b res.1)))) args s 0 0 (e_A G)) (F0 m 28 ls [])) (l0 : Nat) (l1 : Int32) (l2 : Int32) (l4 : Int32) (t0 : Int32) (t1 : Int32) (h : e_H) (hM : fX9_takesE_b305 k28 l0 l1 l2 l4 t0 t1 h = some res) {H : Heap} {locs : List Loc} (J : e_J G s h H locs) {ls : Array Slot} (hl : lv_has ls 5 [(0, .ref (e_ad G l0)), (1, .int l1), (2, .int l2), (4, .int l4)]) : W p l e (e_rm 3 63) s m args below meth c H locs 0 0 (MQ below (e_Q G res.2 (some (.int (e_b res.1)))) args s 0 0 (e_A G)) (F0 m 305 ls [.int t0, .int t1, .null]) := by
  obtain ⟨hx, hb, hr, hml, hown, hts, hlocks, hES, hbs⟩ := id E
  unfold fX9_takesE_b305 at hM
  exact e_no hM
set_option maxRecDepth 100000 in
set_option maxHeartbeats 4000000 in
theorem mX9_takesE_b300 {p : Program} {l : Launch} {e : Env} {s : State} {m : MethodId} {args : Array Value} {below : List Frame} {meth : Method} {c : Code} {G : e_G} {res : (Bool × e_H)} {k28 : Nat → Int32 → Int32 → Int32 → e_H → Option (Bool × e_H)} (E : e_M G p s args m meth c cX9_takesE 5 (some FieldType.boolean) RX9) (K28 : ∀ (l0 : Nat) (l1 : Int32) (l2 : Int32) (l3 : Int32) (h : e_H), k28 l0 l1 l2 l3 h = some res → ∀ (H : Heap) (locs : List Loc), e_J G s h H locs → ∀ (ls : Array Slot), lv_has ls 5 [(0, .ref (e_ad G l0)), (1, .int l1), (2, .int l2), (3, .int l3)] → W p l e (e_rm 3 63) s m args below meth c H locs 0 0 (MQ below (e_Q G res.2 (some (.int (e_b res.1)))) args s 0 0 (e_A G)) (F0 m 28 ls [])) (l0 : Nat) (l1 : Int32) (l2 : Int32) (l4 : Int32) (t0 : Int32) (h : e_H) (hM : fX9_takesE_b300 k28 l0 l1 l2 l4 t0 h = some res) {H : Heap} {locs : List Loc} (J : e_J G s h H locs) {ls : Array Slot} (hl : lv_has ls 5 [(0, .ref (e_ad G l0)), (1, .int l1), (2, .int l2), (4, .int l4)]) : W p l e (e_rm 3 63) s m args below meth c H locs 0 0 (MQ below (e_Q G res.2 (some (.int (e_b res.1)))) args s 0 0 (e_A G)) (F0 m 300 ls [.int t0, .null]) := by
  obtain ⟨hx, hb, hr, hml, hown, hts, hlocks, hES, hbs⟩ := id E
  unfold fX9_takesE_b300 at hM
  refine lv_iconst (v := nI 1) hx hb dX9_takesE_300 (by decide) ?_
  refine lv_goto (tgt := 305) hx hb dX9_takesE_301 (by decide) ?_
  exact mX9_takesE_b305 E K28 l0 l1 l2 l4 (nI 1) t0 h hM J (lv_sub hl [0, 1, 2, 3] rfl)
set_option maxRecDepth 100000 in
set_option maxHeartbeats 4000000 in
theorem mX9_takesE_b304 {p : Program} {l : Launch} {e : Env} {s : State} {m : MethodId} {args : Array Value} {below : List Frame} {meth : Method} {c : Code} {G : e_G} {res : (Bool × e_H)} {k28 : Nat → Int32 → Int32 → Int32 → e_H → Option (Bool × e_H)} (E : e_M G p s args m meth c cX9_takesE 5 (some FieldType.boolean) RX9) (K28 : ∀ (l0 : Nat) (l1 : Int32) (l2 : Int32) (l3 : Int32) (h : e_H), k28 l0 l1 l2 l3 h = some res → ∀ (H : Heap) (locs : List Loc), e_J G s h H locs → ∀ (ls : Array Slot), lv_has ls 5 [(0, .ref (e_ad G l0)), (1, .int l1), (2, .int l2), (3, .int l3)] → W p l e (e_rm 3 63) s m args below meth c H locs 0 0 (MQ below (e_Q G res.2 (some (.int (e_b res.1)))) args s 0 0 (e_A G)) (F0 m 28 ls [])) (l0 : Nat) (l1 : Int32) (l2 : Int32) (l4 : Int32) (t0 : Int32) (h : e_H) (hM : fX9_takesE_b304 k28 l0 l1 l2 l4 t0 h = some res) {H : Heap} {locs : List Loc} (J : e_J G s h H locs) {ls : Array Slot} (hl : lv_has ls 5 [(0, .ref (e_ad G l0)), (1, .int l1), (2, .int l2), (4, .int l4)]) : W p l e (e_rm 3 63) s m args below meth c H locs 0 0 (MQ below (e_Q G res.2 (some (.int (e_b res.1)))) args s 0 0 (e_A G)) (F0 m 304 ls [.int t0, .null]) := by
  obtain ⟨hx, hb, hr, hml, hown, hts, hlocks, hES, hbs⟩ := id E
  unfold fX9_takesE_b304 at hM
  refine lv_iconst (v := nI 0) hx hb dX9_takesE_304 (by decide) ?_
  exact mX9_takesE_b305 E K28 l0 l1 l2 l4 (nI 0) t0 h hM J (lv_sub hl [0, 1, 2, 3] rfl)
set_option maxRecDepth 100000 in
set_option maxHeartbeats 4000000 in
theorem mX9_takesE_b305x1 {p : Program} {l : Launch} {e : Env} {s : State} {m : MethodId} {args : Array Value} {below : List Frame} {meth : Method} {c : Code} {G : e_G} {res : (Bool × e_H)} {k28 : Nat → Int32 → Int32 → Int32 → e_H → Option (Bool × e_H)} (E : e_M G p s args m meth c cX9_takesE 5 (some FieldType.boolean) RX9) (K28 : ∀ (l0 : Nat) (l1 : Int32) (l2 : Int32) (l3 : Int32) (h : e_H), k28 l0 l1 l2 l3 h = some res → ∀ (H : Heap) (locs : List Loc), e_J G s h H locs → ∀ (ls : Array Slot), lv_has ls 5 [(0, .ref (e_ad G l0)), (1, .int l1), (2, .int l2), (3, .int l3)] → W p l e (e_rm 3 63) s m args below meth c H locs 0 0 (MQ below (e_Q G res.2 (some (.int (e_b res.1)))) args s 0 0 (e_A G)) (F0 m 28 ls [])) (l0 : Nat) (l1 : Int32) (l2 : Int32) (l4 : Int32) (t0 : Int32) (t1 : Int32) (t2 : Nat) (h : e_H) (hM : fX9_takesE_b305x1 k28 l0 l1 l2 l4 t0 t1 t2 h = some res) {H : Heap} {locs : List Loc} (J : e_J G s h H locs) {ls : Array Slot} (hl : lv_has ls 5 [(0, .ref (e_ad G l0)), (1, .int l1), (2, .int l2), (4, .int l4)]) : W p l e (e_rm 3 63) s m args below meth c H locs 0 0 (MQ below (e_Q G res.2 (some (.int (e_b res.1)))) args s 0 0 (e_A G)) (F0 m 305 ls [.int t0, .int t1, .ref (e_ad G t2)]) := by
  obtain ⟨hx, hb, hr, hml, hown, hts, hlocks, hES, hbs⟩ := id E
  unfold fX9_takesE_b305x1 at hM
  obtain ⟨h1, hv, hM⟩ := e_bs hM
  refine e_zast E J hv dX9_takesE_305 (fun H locs J => ?_)
  refine lv_aload_n hx hb dX9_takesE_306 rfl (lv_at hl 0 rfl) ?_
  refine lv_iload hx hb dX9_takesE_307 (lv_at hl 3 rfl) ?_
  obtain ⟨v2, hv, hM⟩ := e_bs hM
  refine e_callS (As := [.int l4]) (rest := [.ref (e_ad G l0)]) (n := 1) E J (mX9_rank (l := l) (G := G) l4 h1 _ hv) q_6_162 q_6_163 q_1_9 q_6_164 (by decide +kernel) rfl ⟨Nat.le_of_ble_eq_true rfl, Nat.le_of_ble_eq_true rfl⟩ (st0 := [.int l4, .ref (e_ad G l0)]) (st1 := [.int v2, .ref (e_ad G l0)]) rfl rfl hl.1 (Nat.le_of_ble_eq_true rfl) dX9_takesE_309 ⟨Nat.le_refl _, Nat.le_refl _⟩ (fun H locs J => ?_)
  obtain ⟨h3, hv, hM⟩ := e_bs hM
  obtain ⟨fs_, hk, -⟩ := e_bs hv
  refine e_callV (ci := 9) (As := [.int v2]) (rest := []) (n := 1) E J hk rfl (mX9_settle (l := l) (G := G) l0 v2 h1 _ hv) q_6_158 q_6_160 q_p_44 q_1_9 q_6_161 (by decide +kernel) rfl ⟨Nat.le_of_ble_eq_true rfl, Nat.le_of_ble_eq_true rfl⟩ (st0 := [.int v2, .ref (e_ad G l0)]) (st1 := []) rfl rfl hl.1 (Nat.le_of_ble_eq_true rfl) dX9_takesE_312 ⟨Nat.le_refl _, Nat.le_refl _⟩ (fun H locs J => ?_)
  refine lv_aload_n hx hb dX9_takesE_315 rfl (lv_at hl 0 rfl) ?_
  obtain ⟨v4, hv, hM⟩ := e_bs hM
  refine e_getR (C := RX9) (T := TX9) (N := 40) E J hv rfl inX9 (by decide) q_5_35 dX9_takesE_316 ?_
  rcases v4 with _ | a5
  · have hM := e_on0 hM
    refine W.eq (g2 := F0 m 319 ls [.null]) rfl ?_
    refine lv_aload_n hx hb dX9_takesE_319 rfl (lv_at hl 0 rfl) ?_
    obtain ⟨v6, hv, hM⟩ := e_bs hM
    refine e_getI (C := RX9) (T := TX9) (N := 40) E J hv rfl inX9 (by decide) q_5_36 dX9_takesE_320 ?_
    refine lv_iload hx hb dX9_takesE_323 (lv_at hl 3 rfl) ?_
    exact e_no hM
  · have hM := e_on1 hM
    refine W.eq (g2 := F0 m 319 ls [.ref (e_ad G a5)]) rfl ?_
    refine lv_aload_n hx hb dX9_takesE_319 rfl (lv_at hl 0 rfl) ?_
    obtain ⟨v8, hv, hM⟩ := e_bs hM
    refine e_getI (C := RX9) (T := TX9) (N := 40) E J hv rfl inX9 (by decide) q_5_36 dX9_takesE_320 ?_
    refine lv_iload hx hb dX9_takesE_323 (lv_at hl 3 rfl) ?_
    obtain ⟨h9, hv, hM⟩ := e_bs hM
    refine e_iast E J hv dX9_takesE_325 (fun H locs J => ?_)
    refine lv_aload_n hx hb dX9_takesE_326 rfl (lv_at hl 0 rfl) ?_
    refine lv_dup hx hb dX9_takesE_327 rfl ?_
    obtain ⟨v10, hv, hM⟩ := e_bs hM
    refine e_getI (C := RX9) (T := TX9) (N := 40) E J hv rfl inX9 (by decide) q_5_36 dX9_takesE_328 ?_
    refine lv_iconst (v := nI 1) hx hb dX9_takesE_331 (by decide) ?_
    refine lv_iadd hx hb dX9_takesE_332 ?_
    obtain ⟨h11, hv, hM⟩ := e_bs hM
    refine e_putv (C := RX9) (T := TX9) (N := 40) E J hv rfl rfl inX9 tyX9 tyX9_ok nmX9 (by decide) q_5_36 rfl rfl rfl rfl dX9_takesE_333 (fun H locs J => ?_)
    refine lv_iconst (v := nI 1) hx hb dX9_takesE_336 (by decide) ?_
    refine lv_istore_n (lv' := [(3, .int (nI 1)), (0, .ref (e_ad G l0)), (1, .int l1), (2, .int l2), (4, .int l4)]) hx hb dX9_takesE_337 rfl hl (by decide) rfl (fun ls hl => ?_)
    refine lv_aload_n hx hb dX9_takesE_338 rfl (lv_at hl 1 rfl) ?_
    obtain ⟨h12, hv, hM⟩ := e_bs hM
    obtain ⟨fs_, hk, -⟩ := e_bs hv
    refine e_callV (ci := 9) (As := []) (rest := []) (n := 0) E J hk rfl (mX9_go (l := l) (G := G) l0 h11 _ hv) q_6_130 q_6_132 q_p_37 q_1_9 q_6_133 (by decide +kernel) rfl ⟨Nat.le_of_ble_eq_true rfl, Nat.le_of_ble_eq_true rfl⟩ (st0 := [.ref (e_ad G l0)]) (st1 := []) rfl rfl hl.1 (Nat.le_of_ble_eq_true rfl) dX9_takesE_339 ⟨Nat.le_refl _, Nat.le_refl _⟩ (fun H locs J => ?_)
    refine lv_goto (tgt := 28) hx hb dX9_takesE_342 (by decide) ?_
    exact K28 l0 l1 l2 (nI 1) h12 hM _ _ J _ (lv_sub hl [1, 2, 3, 0] rfl)
set_option maxRecDepth 100000 in
set_option maxHeartbeats 4000000 in
theorem mX9_takesE_b300x1 {p : Program} {l : Launch} {e : Env} {s : State} {m : MethodId} {args : Array Value} {below : List Frame} {meth : Method} {c : Code} {G : e_G} {res : (Bool × e_H)} {k28 : Nat → Int32 → Int32 → Int32 → e_H → Option (Bool × e_H)} (E : e_M G p s args m meth c cX9_takesE 5 (some FieldType.boolean) RX9) (K28 : ∀ (l0 : Nat) (l1 : Int32) (l2 : Int32) (l3 : Int32) (h : e_H), k28 l0 l1 l2 l3 h = some res → ∀ (H : Heap) (locs : List Loc), e_J G s h H locs → ∀ (ls : Array Slot), lv_has ls 5 [(0, .ref (e_ad G l0)), (1, .int l1), (2, .int l2), (3, .int l3)] → W p l e (e_rm 3 63) s m args below meth c H locs 0 0 (MQ below (e_Q G res.2 (some (.int (e_b res.1)))) args s 0 0 (e_A G)) (F0 m 28 ls [])) (l0 : Nat) (l1 : Int32) (l2 : Int32) (l4 : Int32) (t0 : Int32) (t1 : Nat) (h : e_H) (hM : fX9_takesE_b300x1 k28 l0 l1 l2 l4 t0 t1 h = some res) {H : Heap} {locs : List Loc} (J : e_J G s h H locs) {ls : Array Slot} (hl : lv_has ls 5 [(0, .ref (e_ad G l0)), (1, .int l1), (2, .int l2), (4, .int l4)]) : W p l e (e_rm 3 63) s m args below meth c H locs 0 0 (MQ below (e_Q G res.2 (some (.int (e_b res.1)))) args s 0 0 (e_A G)) (F0 m 300 ls [.int t0, .ref (e_ad G t1)]) := by
  obtain ⟨hx, hb, hr, hml, hown, hts, hlocks, hES, hbs⟩ := id E
  unfold fX9_takesE_b300x1 at hM
  refine lv_iconst (v := nI 1) hx hb dX9_takesE_300 (by decide) ?_
  refine lv_goto (tgt := 305) hx hb dX9_takesE_301 (by decide) ?_
  exact mX9_takesE_b305x1 E K28 l0 l1 l2 l4 (nI 1) t0 t1 h hM J (lv_sub hl [0, 1, 2, 3] rfl)
set_option maxRecDepth 100000 in
set_option maxHeartbeats 4000000 in
theorem mX9_takesE_b304x1 {p : Program} {l : Launch} {e : Env} {s : State} {m : MethodId} {args : Array Value} {below : List Frame} {meth : Method} {c : Code} {G : e_G} {res : (Bool × e_H)} {k28 : Nat → Int32 → Int32 → Int32 → e_H → Option (Bool × e_H)} (E : e_M G p s args m meth c cX9_takesE 5 (some FieldType.boolean) RX9) (K28 : ∀ (l0 : Nat) (l1 : Int32) (l2 : Int32) (l3 : Int32) (h : e_H), k28 l0 l1 l2 l3 h = some res → ∀ (H : Heap) (locs : List Loc), e_J G s h H locs → ∀ (ls : Array Slot), lv_has ls 5 [(0, .ref (e_ad G l0)), (1, .int l1), (2, .int l2), (3, .int l3)] → W p l e (e_rm 3 63) s m args below meth c H locs 0 0 (MQ below (e_Q G res.2 (some (.int (e_b res.1)))) args s 0 0 (e_A G)) (F0 m 28 ls [])) (l0 : Nat) (l1 : Int32) (l2 : Int32) (l4 : Int32) (t0 : Int32) (t1 : Nat) (h : e_H) (hM : fX9_takesE_b304x1 k28 l0 l1 l2 l4 t0 t1 h = some res) {H : Heap} {locs : List Loc} (J : e_J G s h H locs) {ls : Array Slot} (hl : lv_has ls 5 [(0, .ref (e_ad G l0)), (1, .int l1), (2, .int l2), (4, .int l4)]) : W p l e (e_rm 3 63) s m args below meth c H locs 0 0 (MQ below (e_Q G res.2 (some (.int (e_b res.1)))) args s 0 0 (e_A G)) (F0 m 304 ls [.int t0, .ref (e_ad G t1)]) := by
  obtain ⟨hx, hb, hr, hml, hown, hts, hlocks, hES, hbs⟩ := id E
  unfold fX9_takesE_b304x1 at hM
  refine lv_iconst (v := nI 0) hx hb dX9_takesE_304 (by decide) ?_
  exact mX9_takesE_b305x1 E K28 l0 l1 l2 l4 (nI 0) t0 t1 h hM J (lv_sub hl [0, 1, 2, 3] rfl)
set_option maxRecDepth 100000 in
set_option maxHeartbeats 4000000 in
theorem mX9_takesE_b268 {p : Program} {l : Launch} {e : Env} {s : State} {m : MethodId} {args : Array Value} {below : List Frame} {meth : Method} {c : Code} {G : e_G} {res : (Bool × e_H)} {k28 : Nat → Int32 → Int32 → Int32 → e_H → Option (Bool × e_H)} (E : e_M G p s args m meth c cX9_takesE 5 (some FieldType.boolean) RX9) (K28 : ∀ (l0 : Nat) (l1 : Int32) (l2 : Int32) (l3 : Int32) (h : e_H), k28 l0 l1 l2 l3 h = some res → ∀ (H : Heap) (locs : List Loc), e_J G s h H locs → ∀ (ls : Array Slot), lv_has ls 5 [(0, .ref (e_ad G l0)), (1, .int l1), (2, .int l2), (3, .int l3)] → W p l e (e_rm 3 63) s m args below meth c H locs 0 0 (MQ below (e_Q G res.2 (some (.int (e_b res.1)))) args s 0 0 (e_A G)) (F0 m 28 ls [])) (l0 : Nat) (l1 : Int32) (l2 : Int32) (l4 : Int32) (h : e_H) (hM : fX9_takesE_b268 k28 l0 l1 l2 l4 h = some res) {H : Heap} {locs : List Loc} (J : e_J G s h H locs) {ls : Array Slot} (hl : lv_has ls 5 [(0, .ref (e_ad G l0)), (1, .int l1), (2, .int l2), (4, .int l4)]) : W p l e (e_rm 3 63) s m args below meth c H locs 0 0 (MQ below (e_Q G res.2 (some (.int (e_b res.1)))) args s 0 0 (e_A G)) (F0 m 268 ls []) := by
  obtain ⟨hx, hb, hr, hml, hown, hts, hlocks, hES, hbs⟩ := id E
  unfold fX9_takesE_b268 at hM
  refine lv_aload_n hx hb dX9_takesE_268 rfl (lv_at hl 0 rfl) ?_
  obtain ⟨v1, hv, hM⟩ := e_bs hM
  refine e_getR (C := RX9) (T := TX9) (N := 40) E J hv rfl inX9 (by decide) q_5_37 dX9_takesE_269 ?_
  rcases v1 with _ | a2
  · have hM := e_on0 hM
    refine W.eq (g2 := F0 m 272 ls [.null]) rfl ?_
    refine lv_iload_n hx hb dX9_takesE_272 rfl (lv_at hl 1 rfl) ?_
    refine lv_iload hx hb dX9_takesE_273 (lv_at hl 3 rfl) ?_
    obtain ⟨v3, hv, hM⟩ := e_bs hM
    refine e_callS (As := [.int l4]) (rest := [.int l1, .null]) (n := 1) E J (mX9_rank (l := l) (G := G) l4 h _ hv) q_6_162 q_6_163 q_1_9 q_6_164 (by decide +kernel) rfl ⟨Nat.le_of_ble_eq_true rfl, Nat.le_of_ble_eq_true rfl⟩ (st0 := [.int l4, .int l1, .null]) (st1 := [.int v3, .int l1, .null]) rfl rfl hl.1 (Nat.le_of_ble_eq_true rfl) dX9_takesE_275 ⟨Nat.le_refl _, Nat.le_refl _⟩ (fun H locs J => ?_)
    refine lv_iconst (v := nI 3) hx hb dX9_takesE_278 (by decide) ?_
    refine lv_icmp_eq (tgt := 300) hx hb dX9_takesE_279 (by decide) (fun hc => ?_) (fun hc => ?_)
    · have hM := e_ip hc hM
      exact mX9_takesE_b300 E K28 l0 l1 l2 l4 l1 h hM J (lv_sub hl [0, 1, 2, 3] rfl)
    · have hM := e_in hc hM
      refine lv_iload hx hb dX9_takesE_282 (lv_at hl 3 rfl) ?_
      obtain ⟨v4, hv, hM⟩ := e_bs hM
      refine e_callS (As := [.int l4]) (rest := [.int l1, .null]) (n := 1) E J (mX9_rank (l := l) (G := G) l4 h _ hv) q_6_162 q_6_163 q_1_9 q_6_164 (by decide +kernel) rfl ⟨Nat.le_of_ble_eq_true rfl, Nat.le_of_ble_eq_true rfl⟩ (st0 := [.int l4, .int l1, .null]) (st1 := [.int v4, .int l1, .null]) rfl rfl hl.1 (Nat.le_of_ble_eq_true rfl) dX9_takesE_284 ⟨Nat.le_refl _, Nat.le_refl _⟩ (fun H locs J => ?_)
      refine lv_iconst (v := nI 3) hx hb dX9_takesE_287 (by decide) ?_
      refine lv_icmp_le (tgt := 304) hx hb dX9_takesE_288 (by decide) (fun hc => ?_) (fun hc => ?_)
      · have hM := e_ip hc hM
        exact mX9_takesE_b304 E K28 l0 l1 l2 l4 l1 h hM J (lv_sub hl [0, 1, 2, 3] rfl)
      · have hM := e_in hc hM
        refine lv_aload_n hx hb dX9_takesE_291 rfl (lv_at hl 0 rfl) ?_
        obtain ⟨v5, hv, hM⟩ := e_bs hM
        refine e_getR (C := RX9) (T := TX9) (N := 40) E J hv rfl inX9 (by decide) q_5_37 dX9_takesE_292 ?_
        rcases v5 with _ | a6
        · have hM := e_on0 hM
          refine W.eq (g2 := F0 m 295 ls [.null, .int l1, .null]) rfl ?_
          refine lv_iload_n hx hb dX9_takesE_295 rfl (lv_at hl 1 rfl) ?_
          exact e_no hM
        · have hM := e_on1 hM
          refine W.eq (g2 := F0 m 295 ls [.ref (e_ad G a6), .int l1, .null]) rfl ?_
          refine lv_iload_n hx hb dX9_takesE_295 rfl (lv_at hl 1 rfl) ?_
          obtain ⟨v7, hv, hM⟩ := e_bs hM
          refine e_zald E J hv dX9_takesE_296 ?_
          refine lv_if_eq (tgt := 304) hx hb dX9_takesE_297 (by decide) (fun hc => ?_) (fun hc => ?_)
          · have hM := e_ip hc hM
            exact mX9_takesE_b304 E K28 l0 l1 l2 l4 l1 h hM J (lv_sub hl [0, 1, 2, 3] rfl)
          · have hM := e_in hc hM
            exact mX9_takesE_b300 E K28 l0 l1 l2 l4 l1 h hM J (lv_sub hl [0, 1, 2, 3] rfl)
  · have hM := e_on1 hM
    refine W.eq (g2 := F0 m 272 ls [.ref (e_ad G a2)]) rfl ?_
    refine lv_iload_n hx hb dX9_takesE_272 rfl (lv_at hl 1 rfl) ?_
    refine lv_iload hx hb dX9_takesE_273 (lv_at hl 3 rfl) ?_
    obtain ⟨v8, hv, hM⟩ := e_bs hM
    refine e_callS (As := [.int l4]) (rest := [.int l1, .ref (e_ad G a2)]) (n := 1) E J (mX9_rank (l := l) (G := G) l4 h _ hv) q_6_162 q_6_163 q_1_9 q_6_164 (by decide +kernel) rfl ⟨Nat.le_of_ble_eq_true rfl, Nat.le_of_ble_eq_true rfl⟩ (st0 := [.int l4, .int l1, .ref (e_ad G a2)]) (st1 := [.int v8, .int l1, .ref (e_ad G a2)]) rfl rfl hl.1 (Nat.le_of_ble_eq_true rfl) dX9_takesE_275 ⟨Nat.le_refl _, Nat.le_refl _⟩ (fun H locs J => ?_)
    refine lv_iconst (v := nI 3) hx hb dX9_takesE_278 (by decide) ?_
    refine lv_icmp_eq (tgt := 300) hx hb dX9_takesE_279 (by decide) (fun hc => ?_) (fun hc => ?_)
    · have hM := e_ip hc hM
      exact mX9_takesE_b300x1 E K28 l0 l1 l2 l4 l1 a2 h hM J (lv_sub hl [0, 1, 2, 3] rfl)
    · have hM := e_in hc hM
      refine lv_iload hx hb dX9_takesE_282 (lv_at hl 3 rfl) ?_
      obtain ⟨v9, hv, hM⟩ := e_bs hM
      refine e_callS (As := [.int l4]) (rest := [.int l1, .ref (e_ad G a2)]) (n := 1) E J (mX9_rank (l := l) (G := G) l4 h _ hv) q_6_162 q_6_163 q_1_9 q_6_164 (by decide +kernel) rfl ⟨Nat.le_of_ble_eq_true rfl, Nat.le_of_ble_eq_true rfl⟩ (st0 := [.int l4, .int l1, .ref (e_ad G a2)]) (st1 := [.int v9, .int l1, .ref (e_ad G a2)]) rfl rfl hl.1 (Nat.le_of_ble_eq_true rfl) dX9_takesE_284 ⟨Nat.le_refl _, Nat.le_refl _⟩ (fun H locs J => ?_)
      refine lv_iconst (v := nI 3) hx hb dX9_takesE_287 (by decide) ?_
      refine lv_icmp_le (tgt := 304) hx hb dX9_takesE_288 (by decide) (fun hc => ?_) (fun hc => ?_)
      · have hM := e_ip hc hM
        exact mX9_takesE_b304x1 E K28 l0 l1 l2 l4 l1 a2 h hM J (lv_sub hl [0, 1, 2, 3] rfl)
      · have hM := e_in hc hM
        refine lv_aload_n hx hb dX9_takesE_291 rfl (lv_at hl 0 rfl) ?_
        obtain ⟨v10, hv, hM⟩ := e_bs hM
        refine e_getR (C := RX9) (T := TX9) (N := 40) E J hv rfl inX9 (by decide) q_5_37 dX9_takesE_292 ?_
        rcases v10 with _ | a11
        · have hM := e_on0 hM
          refine W.eq (g2 := F0 m 295 ls [.null, .int l1, .ref (e_ad G a2)]) rfl ?_
          refine lv_iload_n hx hb dX9_takesE_295 rfl (lv_at hl 1 rfl) ?_
          exact e_no hM
        · have hM := e_on1 hM
          refine W.eq (g2 := F0 m 295 ls [.ref (e_ad G a11), .int l1, .ref (e_ad G a2)]) rfl ?_
          refine lv_iload_n hx hb dX9_takesE_295 rfl (lv_at hl 1 rfl) ?_
          obtain ⟨v12, hv, hM⟩ := e_bs hM
          refine e_zald E J hv dX9_takesE_296 ?_
          refine lv_if_eq (tgt := 304) hx hb dX9_takesE_297 (by decide) (fun hc => ?_) (fun hc => ?_)
          · have hM := e_ip hc hM
            exact mX9_takesE_b304x1 E K28 l0 l1 l2 l4 l1 a2 h hM J (lv_sub hl [0, 1, 2, 3] rfl)
          · have hM := e_in hc hM
            exact mX9_takesE_b300x1 E K28 l0 l1 l2 l4 l1 a2 h hM J (lv_sub hl [0, 1, 2, 3] rfl)
set_option maxRecDepth 100000 in
set_option maxHeartbeats 4000000 in
theorem mX9_takesE_b237 {p : Program} {l : Launch} {e : Env} {s : State} {m : MethodId} {args : Array Value} {below : List Frame} {meth : Method} {c : Code} {G : e_G} {res : (Bool × e_H)} {k28 : Nat → Int32 → Int32 → Int32 → e_H → Option (Bool × e_H)} (E : e_M G p s args m meth c cX9_takesE 5 (some FieldType.boolean) RX9) (K28 : ∀ (l0 : Nat) (l1 : Int32) (l2 : Int32) (l3 : Int32) (h : e_H), k28 l0 l1 l2 l3 h = some res → ∀ (H : Heap) (locs : List Loc), e_J G s h H locs → ∀ (ls : Array Slot), lv_has ls 5 [(0, .ref (e_ad G l0)), (1, .int l1), (2, .int l2), (3, .int l3)] → W p l e (e_rm 3 63) s m args below meth c H locs 0 0 (MQ below (e_Q G res.2 (some (.int (e_b res.1)))) args s 0 0 (e_A G)) (F0 m 28 ls [])) (l0 : Nat) (l1 : Int32) (l2 : Int32) (h : e_H) (hM : fX9_takesE_b237 k28 l0 l1 l2 h = some res) {H : Heap} {locs : List Loc} (J : e_J G s h H locs) {ls : Array Slot} (hl : lv_has ls 5 [(0, .ref (e_ad G l0)), (1, .int l1), (2, .int l2)]) : W p l e (e_rm 3 63) s m args below meth c H locs 0 0 (MQ below (e_Q G res.2 (some (.int (e_b res.1)))) args s 0 0 (e_A G)) (F0 m 237 ls []) := by
  obtain ⟨hx, hb, hr, hml, hown, hts, hlocks, hES, hbs⟩ := id E
  unfold fX9_takesE_b237 at hM
  refine lv_aload_n hx hb dX9_takesE_237 rfl (lv_at hl 0 rfl) ?_
  obtain ⟨v1, hv, hM⟩ := e_bs hM
  obtain ⟨fs_, hk, -⟩ := e_bs hv
  refine e_callV (ci := 9) (As := []) (rest := []) (n := 0) E J hk rfl (mX9_signHere (l := l) (G := G) l0 h _ hv) q_6_169 q_6_171 q_p_46 q_1_9 q_6_172 (by decide +kernel) rfl ⟨Nat.le_of_ble_eq_true rfl, Nat.le_of_ble_eq_true rfl⟩ (st0 := [.ref (e_ad G l0)]) (st1 := [.int v1]) rfl rfl hl.1 (Nat.le_of_ble_eq_true rfl) dX9_takesE_238 ⟨Nat.le_refl _, Nat.le_refl _⟩ (fun H locs J => ?_)
  refine lv_istore (lv' := [(4, .int v1), (0, .ref (e_ad G l0)), (1, .int l1), (2, .int l2)]) hx hb dX9_takesE_241 hl (by decide) rfl (fun ls hl => ?_)
  refine lv_iload hx hb dX9_takesE_243 (lv_at hl 0 rfl) ?_
  refine lv_if_eq (tgt := 266) hx hb dX9_takesE_245 (by decide) (fun hc => ?_) (fun hc => ?_)
  · have hM := e_ip hc hM
    refine lv_iconst (v := nI 0) hx hb dX9_takesE_266 (by decide) ?_
    obtain rfl := e_so hM
    exact e_zret E J (false) rfl dX9_takesE_267
  · have hM := e_in hc hM
    refine lv_iload hx hb dX9_takesE_248 (lv_at hl 0 rfl) ?_
    obtain ⟨v2, hv, hM⟩ := e_bs hM
    refine e_callS (As := [.int v1]) (rest := []) (n := 1) E J (mX9_rank (l := l) (G := G) v1 h _ hv) q_6_162 q_6_163 q_1_9 q_6_164 (by decide +kernel) rfl ⟨Nat.le_of_ble_eq_true rfl, Nat.le_of_ble_eq_true rfl⟩ (st0 := [.int v1]) (st1 := [.int v2]) rfl rfl hl.1 (Nat.le_of_ble_eq_true rfl) dX9_takesE_250 ⟨Nat.le_refl _, Nat.le_refl _⟩ (fun H locs J => ?_)
    refine lv_iconst (v := nI 3) hx hb dX9_takesE_253 (by decide) ?_
    refine lv_icmp_ne (tgt := 268) hx hb dX9_takesE_254 (by decide) (fun hc => ?_) (fun hc => ?_)
    · have hM := e_in hc hM
      exact mX9_takesE_b268 E K28 l0 l1 l2 v1 h hM J (lv_sub hl [1, 2, 3, 0] rfl)
    · have hM := e_ip hc hM
      refine lv_aload_n hx hb dX9_takesE_257 rfl (lv_at hl 1 rfl) ?_
      obtain ⟨v3, hv, hM⟩ := e_bs hM
      refine e_getR (C := RX9) (T := TX9) (N := 40) E J hv rfl inX9 (by decide) q_5_37 dX9_takesE_258 ?_
      rcases v3 with _ | a4
      · have hM := e_on0 hM
        refine W.eq (g2 := F0 m 261 ls [.null]) rfl ?_
        refine lv_iload_n hx hb dX9_takesE_261 rfl (lv_at hl 2 rfl) ?_
        exact e_no hM
      · have hM := e_on1 hM
        refine W.eq (g2 := F0 m 261 ls [.ref (e_ad G a4)]) rfl ?_
        refine lv_iload_n hx hb dX9_takesE_261 rfl (lv_at hl 2 rfl) ?_
        obtain ⟨v5, hv, hM⟩ := e_bs hM
        refine e_zald E J hv dX9_takesE_262 ?_
        refine lv_if_eq (tgt := 268) hx hb dX9_takesE_263 (by decide) (fun hc => ?_) (fun hc => ?_)
        · have hM := e_ip hc hM
          exact mX9_takesE_b268 E K28 l0 l1 l2 v1 h hM J (lv_sub hl [1, 2, 3, 0] rfl)
        · have hM := e_in hc hM
          refine lv_iconst (v := nI 0) hx hb dX9_takesE_266 (by decide) ?_
          obtain rfl := e_so hM
          exact e_zret E J (false) rfl dX9_takesE_267
set_option maxRecDepth 100000 in
set_option maxHeartbeats 4000000 in
theorem mX9_takesE_b172 {p : Program} {l : Launch} {e : Env} {s : State} {m : MethodId} {args : Array Value} {below : List Frame} {meth : Method} {c : Code} {G : e_G} {res : (Bool × e_H)} {k28 : Nat → Int32 → Int32 → Int32 → e_H → Option (Bool × e_H)} (E : e_M G p s args m meth c cX9_takesE 5 (some FieldType.boolean) RX9) (K28 : ∀ (l0 : Nat) (l1 : Int32) (l2 : Int32) (l3 : Int32) (h : e_H), k28 l0 l1 l2 l3 h = some res → ∀ (H : Heap) (locs : List Loc), e_J G s h H locs → ∀ (ls : Array Slot), lv_has ls 5 [(0, .ref (e_ad G l0)), (1, .int l1), (2, .int l2), (3, .int l3)] → W p l e (e_rm 3 63) s m args below meth c H locs 0 0 (MQ below (e_Q G res.2 (some (.int (e_b res.1)))) args s 0 0 (e_A G)) (F0 m 28 ls [])) (l0 : Nat) (l1 : Int32) (l3 : Int32) (h : e_H) (hM : fX9_takesE_b172 k28 l0 l1 l3 h = some res) {H : Heap} {locs : List Loc} (J : e_J G s h H locs) {ls : Array Slot} (hl : lv_has ls 5 [(0, .ref (e_ad G l0)), (1, .int l1), (3, .int l3)]) : W p l e (e_rm 3 63) s m args below meth c H locs 0 0 (MQ below (e_Q G res.2 (some (.int (e_b res.1)))) args s 0 0 (e_A G)) (F0 m 172 ls []) := by
  obtain ⟨hx, hb, hr, hml, hown, hts, hlocks, hES, hbs⟩ := id E
  unfold fX9_takesE_b172 at hM
  refine lv_aload_n hx hb dX9_takesE_172 rfl (lv_at hl 0 rfl) ?_
  obtain ⟨v1, hv, hM⟩ := e_bs hM
  obtain ⟨fs_, hk, -⟩ := e_bs hv
  refine e_callV (ci := 9) (As := []) (rest := []) (n := 0) E J hk rfl (mX9_notsOpen (l := l) (G := G) l0 h _ hv) q_6_165 q_6_167 q_p_45 q_1_9 q_6_168 (by decide +kernel) rfl ⟨Nat.le_of_ble_eq_true rfl, Nat.le_of_ble_eq_true rfl⟩ (st0 := [.ref (e_ad G l0)]) (st1 := [.int v1]) rfl rfl hl.1 (Nat.le_of_ble_eq_true rfl) dX9_takesE_173 ⟨Nat.le_refl _, Nat.le_refl _⟩ (fun H locs J => ?_)
  refine lv_istore_n (lv' := [(2, .int v1), (0, .ref (e_ad G l0)), (1, .int l1), (3, .int l3)]) hx hb dX9_takesE_176 rfl hl (by decide) rfl (fun ls hl => ?_)
  refine lv_goto (tgt := 28) hx hb dX9_takesE_177 (by decide) ?_
  exact K28 l0 l1 v1 l3 h hM _ _ J _ (lv_sub hl [1, 2, 0, 3] rfl)
set_option maxRecDepth 100000 in
set_option maxHeartbeats 4000000 in
theorem mX9_takesE_b158 {p : Program} {l : Launch} {e : Env} {s : State} {m : MethodId} {args : Array Value} {below : List Frame} {meth : Method} {c : Code} {G : e_G} {res : (Bool × e_H)} {k28 : Nat → Int32 → Int32 → Int32 → e_H → Option (Bool × e_H)} (E : e_M G p s args m meth c cX9_takesE 5 (some FieldType.boolean) RX9) (K28 : ∀ (l0 : Nat) (l1 : Int32) (l2 : Int32) (l3 : Int32) (h : e_H), k28 l0 l1 l2 l3 h = some res → ∀ (H : Heap) (locs : List Loc), e_J G s h H locs → ∀ (ls : Array Slot), lv_has ls 5 [(0, .ref (e_ad G l0)), (1, .int l1), (2, .int l2), (3, .int l3)] → W p l e (e_rm 3 63) s m args below meth c H locs 0 0 (MQ below (e_Q G res.2 (some (.int (e_b res.1)))) args s 0 0 (e_A G)) (F0 m 28 ls [])) (l0 : Nat) (l1 : Int32) (h : e_H) (hM : fX9_takesE_b158 k28 l0 l1 h = some res) {H : Heap} {locs : List Loc} (J : e_J G s h H locs) {ls : Array Slot} (hl : lv_has ls 5 [(0, .ref (e_ad G l0)), (1, .int l1)]) : W p l e (e_rm 3 63) s m args below meth c H locs 0 0 (MQ below (e_Q G res.2 (some (.int (e_b res.1)))) args s 0 0 (e_A G)) (F0 m 158 ls []) := by
  obtain ⟨hx, hb, hr, hml, hown, hts, hlocks, hES, hbs⟩ := id E
  unfold fX9_takesE_b158 at hM
  refine lv_aload_n hx hb dX9_takesE_158 rfl (lv_at hl 0 rfl) ?_
  obtain ⟨p1, hv, hM⟩ := e_bs hM
  obtain ⟨fs_, hk, -⟩ := e_bs hv
  refine e_callV (ci := 9) (As := []) (rest := []) (n := 0) E J hk rfl (mX9_takesPart (l := l) (G := G) l0 h _ hv) q_6_150 q_6_152 q_p_42 q_1_9 q_6_153 (by decide +kernel) rfl ⟨Nat.le_of_ble_eq_true rfl, Nat.le_of_ble_eq_true rfl⟩ (st0 := [.ref (e_ad G l0)]) (st1 := [.int (e_b p1.1)]) rfl rfl hl.1 (Nat.le_of_ble_eq_true rfl) dX9_takesE_159 ⟨Nat.le_refl _, Nat.le_refl _⟩ (fun H locs J => ?_)
  refine lv_if_eq (tgt := 170) hx hb dX9_takesE_162 (by decide) (fun hc => ?_) (fun hc => ?_)
  · have hM := e_ip hc hM
    refine lv_iconst (v := nI 0) hx hb dX9_takesE_170 (by decide) ?_
    obtain rfl := e_so hM
    exact e_zret E J (false) rfl dX9_takesE_171
  · have hM := e_in hc hM
    refine lv_iconst (v := nI 0) hx hb dX9_takesE_165 (by decide) ?_
    refine lv_istore_n (lv' := [(3, .int (nI 0)), (0, .ref (e_ad G l0)), (1, .int l1)]) hx hb dX9_takesE_166 rfl hl (by decide) rfl (fun ls hl => ?_)
    refine lv_goto (tgt := 172) hx hb dX9_takesE_167 (by decide) ?_
    exact mX9_takesE_b172 E K28 l0 l1 (nI 0) p1.2 hM J (lv_sub hl [1, 2, 0] rfl)
set_option maxRecDepth 100000 in
set_option maxHeartbeats 4000000 in
theorem mX9_takesE_b97 {p : Program} {l : Launch} {e : Env} {s : State} {m : MethodId} {args : Array Value} {below : List Frame} {meth : Method} {c : Code} {G : e_G} {res : (Bool × e_H)} {k28 : Nat → Int32 → Int32 → Int32 → e_H → Option (Bool × e_H)} (E : e_M G p s args m meth c cX9_takesE 5 (some FieldType.boolean) RX9) (K28 : ∀ (l0 : Nat) (l1 : Int32) (l2 : Int32) (l3 : Int32) (h : e_H), k28 l0 l1 l2 l3 h = some res → ∀ (H : Heap) (locs : List Loc), e_J G s h H locs → ∀ (ls : Array Slot), lv_has ls 5 [(0, .ref (e_ad G l0)), (1, .int l1), (2, .int l2), (3, .int l3)] → W p l e (e_rm 3 63) s m args below meth c H locs 0 0 (MQ below (e_Q G res.2 (some (.int (e_b res.1)))) args s 0 0 (e_A G)) (F0 m 28 ls [])) (l0 : Nat) (l1 : Int32) (l3 : Int32) (h : e_H) (hM : fX9_takesE_b97 k28 l0 l1 l3 h = some res) {H : Heap} {locs : List Loc} (J : e_J G s h H locs) {ls : Array Slot} (hl : lv_has ls 5 [(0, .ref (e_ad G l0)), (1, .int l1), (3, .int l3)]) : W p l e (e_rm 3 63) s m args below meth c H locs 0 0 (MQ below (e_Q G res.2 (some (.int (e_b res.1)))) args s 0 0 (e_A G)) (F0 m 97 ls []) := by
  obtain ⟨hx, hb, hr, hml, hown, hts, hlocks, hES, hbs⟩ := id E
  unfold fX9_takesE_b97 at hM
  refine lv_aload_n hx hb dX9_takesE_97 rfl (lv_at hl 0 rfl) ?_
  obtain ⟨v1, hv, hM⟩ := e_bs hM
  refine e_getI (C := RX9) (T := TX9) (N := 40) E J hv rfl inX9 (by decide) q_5_26 dX9_takesE_98 ?_
  refine lv_iconst (v := nI 3) hx hb dX9_takesE_101 (by decide) ?_
  refine lv_icmp_ne (tgt := 158) hx hb dX9_takesE_102 (by decide) (fun hc => ?_) (fun hc => ?_)
  · have hM := e_in hc hM
    exact mX9_takesE_b158 E K28 l0 l1 h hM J (lv_sub hl [0, 1] rfl)
  · have hM := e_ip hc hM
    refine lv_aload_n hx hb dX9_takesE_105 rfl (lv_at hl 0 rfl) ?_
    obtain ⟨v2, hv, hM⟩ := e_bs hM
    refine e_getI (C := RX9) (T := TX9) (N := 40) E J hv rfl inX9 (by decide) q_5_27 dX9_takesE_106 ?_
    refine lv_bipush (v := nI 40) hx hb dX9_takesE_109 (by decide) ?_
    refine lv_icmp_ne (tgt := 158) hx hb dX9_takesE_111 (by decide) (fun hc => ?_) (fun hc => ?_)
    · have hM := e_in hc hM
      exact mX9_takesE_b158 E K28 l0 l1 h hM J (lv_sub hl [0, 1] rfl)
    · have hM := e_ip hc hM
      refine lv_iload_n hx hb dX9_takesE_114 rfl (lv_at hl 1 rfl) ?_
      refine lv_bipush (v := nI 8) hx hb dX9_takesE_115 (by decide) ?_
      refine lv_icmp_ge (tgt := 158) hx hb dX9_takesE_117 (by decide) (fun hc => ?_) (fun hc => ?_)
      · have hM := e_ip hc hM
        exact mX9_takesE_b158 E K28 l0 l1 h hM J (lv_sub hl [0, 1] rfl)
      · have hM := e_in hc hM
        refine lv_aload_n hx hb dX9_takesE_120 rfl (lv_at hl 0 rfl) ?_
        obtain ⟨v3, hv, hM⟩ := e_bs hM
        refine e_getR (C := RX9) (T := TX9) (N := 40) E J hv rfl inX9 (by decide) q_5_35 dX9_takesE_121 ?_
        rcases v3 with _ | a4
        · have hM := e_on0 hM
          refine W.eq (g2 := F0 m 124 ls [.null]) rfl ?_
          refine lv_aload_n hx hb dX9_takesE_124 rfl (lv_at hl 0 rfl) ?_
          obtain ⟨v5, hv, hM⟩ := e_bs hM
          refine e_getI (C := RX9) (T := TX9) (N := 40) E J hv rfl inX9 (by decide) q_5_36 dX9_takesE_125 ?_
          refine lv_bipush (v := -11) hx hb dX9_takesE_128 (by decide) ?_
          exact e_no hM
        · have hM := e_on1 hM
          refine W.eq (g2 := F0 m 124 ls [.ref (e_ad G a4)]) rfl ?_
          refine lv_aload_n hx hb dX9_takesE_124 rfl (lv_at hl 0 rfl) ?_
          obtain ⟨v7, hv, hM⟩ := e_bs hM
          refine e_getI (C := RX9) (T := TX9) (N := 40) E J hv rfl inX9 (by decide) q_5_36 dX9_takesE_125 ?_
          refine lv_bipush (v := -11) hx hb dX9_takesE_128 (by decide) ?_
          obtain ⟨h8, hv, hM⟩ := e_bs hM
          refine e_iast E J hv dX9_takesE_130 (fun H locs J => ?_)
          refine lv_aload_n hx hb dX9_takesE_131 rfl (lv_at hl 0 rfl) ?_
          refine lv_dup hx hb dX9_takesE_132 rfl ?_
          obtain ⟨v9, hv, hM⟩ := e_bs hM
          refine e_getI (C := RX9) (T := TX9) (N := 40) E J hv rfl inX9 (by decide) q_5_36 dX9_takesE_133 ?_
          refine lv_iconst (v := nI 1) hx hb dX9_takesE_136 (by decide) ?_
          refine lv_iadd hx hb dX9_takesE_137 ?_
          obtain ⟨h10, hv, hM⟩ := e_bs hM
          refine e_putv (C := RX9) (T := TX9) (N := 40) E J hv rfl rfl inX9 tyX9 tyX9_ok nmX9 (by decide) q_5_36 rfl rfl rfl rfl dX9_takesE_138 (fun H locs J => ?_)
          refine lv_iinc (v := (l1 + (nI 1))) (lv' := [(1, .int (l1 + (nI 1))), (0, .ref (e_ad G l0)), (3, .int l3)]) hx hb dX9_takesE_141 hl (k := 1) rfl rfl (by decide) rfl (fun ls hl => ?_)
          refine lv_aload_n hx hb dX9_takesE_144 rfl (lv_at hl 1 rfl) ?_
          obtain ⟨v11, hv, hM⟩ := e_bs hM
          refine e_getR (C := RX9) (T := TX9) (N := 40) E J hv rfl inX9 (by decide) q_5_37 dX9_takesE_145 ?_
          rcases v11 with _ | a12
          · have hM := e_on0 hM
            refine W.eq (g2 := F0 m 148 ls [.null]) rfl ?_
            refine lv_iload_n hx hb dX9_takesE_148 rfl (lv_at hl 0 rfl) ?_
            refine lv_iconst (v := nI 0) hx hb dX9_takesE_149 (by decide) ?_
            exact e_no hM
          · have hM := e_on1 hM
            refine W.eq (g2 := F0 m 148 ls [.ref (e_ad G a12)]) rfl ?_
            refine lv_iload_n hx hb dX9_takesE_148 rfl (lv_at hl 0 rfl) ?_
            refine lv_iconst (v := nI 0) hx hb dX9_takesE_149 (by decide) ?_
            obtain ⟨h14, hv, hM⟩ := e_bs hM
            refine e_zast E J hv dX9_takesE_150 (fun H locs J => ?_)
            refine lv_aload_n hx hb dX9_takesE_151 rfl (lv_at hl 1 rfl) ?_
            obtain ⟨h15, hv, hM⟩ := e_bs hM
            obtain ⟨fs_, hk, -⟩ := e_bs hv
            refine e_callV (ci := 9) (As := []) (rest := []) (n := 0) E J hk rfl (mX9_go (l := l) (G := G) l0 h14 _ hv) q_6_130 q_6_132 q_p_37 q_1_9 q_6_133 (by decide +kernel) rfl ⟨Nat.le_of_ble_eq_true rfl, Nat.le_of_ble_eq_true rfl⟩ (st0 := [.ref (e_ad G l0)]) (st1 := []) rfl rfl hl.1 (Nat.le_of_ble_eq_true rfl) dX9_takesE_152 ⟨Nat.le_refl _, Nat.le_refl _⟩ (fun H locs J => ?_)
            refine lv_goto (tgt := 172) hx hb dX9_takesE_155 (by decide) ?_
            exact mX9_takesE_b172 E K28 l0 (l1 + (nI 1)) l3 h15 hM J (lv_sub hl [1, 0, 2] rfl)
set_option maxRecDepth 100000 in
set_option maxHeartbeats 4000000 in
theorem mX9_takesE_b39 {p : Program} {l : Launch} {e : Env} {s : State} {m : MethodId} {args : Array Value} {below : List Frame} {meth : Method} {c : Code} {G : e_G} {res : (Bool × e_H)} {k28 : Nat → Int32 → Int32 → Int32 → e_H → Option (Bool × e_H)} (E : e_M G p s args m meth c cX9_takesE 5 (some FieldType.boolean) RX9) (K28 : ∀ (l0 : Nat) (l1 : Int32) (l2 : Int32) (l3 : Int32) (h : e_H), k28 l0 l1 l2 l3 h = some res → ∀ (H : Heap) (locs : List Loc), e_J G s h H locs → ∀ (ls : Array Slot), lv_has ls 5 [(0, .ref (e_ad G l0)), (1, .int l1), (2, .int l2), (3, .int l3)] → W p l e (e_rm 3 63) s m args below meth c H locs 0 0 (MQ below (e_Q G res.2 (some (.int (e_b res.1)))) args s 0 0 (e_A G)) (F0 m 28 ls [])) (l0 : Nat) (l1 : Int32) (l2 : Int32) (l3 : Int32) (h : e_H) (hM : fX9_takesE_b39 k28 l0 l1 l2 l3 h = some res) {H : Heap} {locs : List Loc} (J : e_J G s h H locs) {ls : Array Slot} (hl : lv_has ls 5 [(0, .ref (e_ad G l0)), (1, .int l1), (2, .int l2), (3, .int l3)]) : W p l e (e_rm 3 63) s m args below meth c H locs 0 0 (MQ below (e_Q G res.2 (some (.int (e_b res.1)))) args s 0 0 (e_A G)) (F0 m 39 ls []) := by
  obtain ⟨hx, hb, hr, hml, hown, hts, hlocks, hES, hbs⟩ := id E
  unfold fX9_takesE_b39 at hM
  refine lv_iload_n hx hb dX9_takesE_39 rfl (lv_at hl 3 rfl) ?_
  refine lv_if_eq (tgt := 180) hx hb dX9_takesE_40 (by decide) (fun hc => ?_) (fun hc => ?_)
  · have hM := e_ip hc hM
    refine lv_aload_n hx hb dX9_takesE_180 rfl (lv_at hl 0 rfl) ?_
    obtain ⟨v1, hv, hM⟩ := e_bs hM
    refine e_getI (C := RX9) (T := TX9) (N := 40) E J hv rfl inX9 (by decide) q_5_26 dX9_takesE_181 ?_
    refine lv_iconst (v := nI 3) hx hb dX9_takesE_184 (by decide) ?_
    refine lv_icmp_ne (tgt := 237) hx hb dX9_takesE_185 (by decide) (fun hc => ?_) (fun hc => ?_)
    · have hM := e_in hc hM
      exact mX9_takesE_b237 E K28 l0 l1 l2 h hM J (lv_sub hl [0, 1, 2] rfl)
    · have hM := e_ip hc hM
      refine lv_aload_n hx hb dX9_takesE_188 rfl (lv_at hl 0 rfl) ?_
      obtain ⟨v2, hv, hM⟩ := e_bs hM
      refine e_getI (C := RX9) (T := TX9) (N := 40) E J hv rfl inX9 (by decide) q_5_27 dX9_takesE_189 ?_
      refine lv_bipush (v := nI 41) hx hb dX9_takesE_192 (by decide) ?_
      refine lv_icmp_ne (tgt := 237) hx hb dX9_takesE_194 (by decide) (fun hc => ?_) (fun hc => ?_)
      · have hM := e_in hc hM
        exact mX9_takesE_b237 E K28 l0 l1 l2 h hM J (lv_sub hl [0, 1, 2] rfl)
      · have hM := e_ip hc hM
        refine lv_iload_n hx hb dX9_takesE_197 rfl (lv_at hl 1 rfl) ?_
        refine lv_if_le (tgt := 237) hx hb dX9_takesE_198 (by decide) (fun hc => ?_) (fun hc => ?_)
        · have hM := e_ip hc hM
          exact mX9_takesE_b237 E K28 l0 l1 l2 h hM J (lv_sub hl [0, 1, 2] rfl)
        · have hM := e_in hc hM
          refine lv_aload_n hx hb dX9_takesE_201 rfl (lv_at hl 0 rfl) ?_
          refine lv_iconst (v := nI 0) hx hb dX9_takesE_202 (by decide) ?_
          obtain ⟨h3, hv, hM⟩ := e_bs hM
          obtain ⟨fs_, hk, -⟩ := e_bs hv
          refine e_callV (ci := 9) (As := [.int (nI 0)]) (rest := []) (n := 1) E J hk rfl (mX9_settle (l := l) (G := G) l0 (nI 0) h _ hv) q_6_158 q_6_160 q_p_44 q_1_9 q_6_161 (by decide +kernel) rfl ⟨Nat.le_of_ble_eq_true rfl, Nat.le_of_ble_eq_true rfl⟩ (st0 := [.int (nI 0), .ref (e_ad G l0)]) (st1 := []) rfl rfl hl.1 (Nat.le_of_ble_eq_true rfl) dX9_takesE_203 ⟨Nat.le_refl _, Nat.le_refl _⟩ (fun H locs J => ?_)
          refine lv_aload_n hx hb dX9_takesE_206 rfl (lv_at hl 0 rfl) ?_
          refine lv_dup hx hb dX9_takesE_207 rfl ?_
          obtain ⟨v4, hv, hM⟩ := e_bs hM
          refine e_getI (C := RX9) (T := TX9) (N := 40) E J hv rfl inX9 (by decide) q_5_36 dX9_takesE_208 ?_
          refine lv_iconst (v := nI 1) hx hb dX9_takesE_211 (by decide) ?_
          refine lv_isub hx hb dX9_takesE_212 ?_
          obtain ⟨h5, hv, hM⟩ := e_bs hM
          refine e_putv (C := RX9) (T := TX9) (N := 40) E J hv rfl rfl inX9 tyX9 tyX9_ok nmX9 (by decide) q_5_36 rfl rfl rfl rfl dX9_takesE_213 (fun H locs J => ?_)
          refine lv_iinc (v := (l1 + (-1 : Int32))) (lv' := [(1, .int (l1 + (-1 : Int32))), (0, .ref (e_ad G l0)), (2, .int l2), (3, .int l3)]) hx hb dX9_takesE_216 hl (k := 1) rfl rfl (by decide) rfl (fun ls hl => ?_)
          refine lv_aload_n hx hb dX9_takesE_219 rfl (lv_at hl 1 rfl) ?_
          refine lv_bipush (v := nI 6) hx hb dX9_takesE_220 (by decide) ?_
          obtain ⟨h6, hv, hM⟩ := e_bs hM
          obtain ⟨fs_, hk, -⟩ := e_bs hv
          refine e_callV (ci := 9) (As := [.int (nI 6)]) (rest := []) (n := 1) E J hk rfl (mX9_settle (l := l) (G := G) l0 (nI 6) h5 _ hv) q_6_158 q_6_160 q_p_44 q_1_9 q_6_161 (by decide +kernel) rfl ⟨Nat.le_of_ble_eq_true rfl, Nat.le_of_ble_eq_true rfl⟩ (st0 := [.int (nI 6), .ref (e_ad G l0)]) (st1 := []) rfl rfl hl.1 (Nat.le_of_ble_eq_true rfl) dX9_takesE_222 ⟨Nat.le_refl _, Nat.le_refl _⟩ (fun H locs J => ?_)
          refine lv_aload_n hx hb dX9_takesE_225 rfl (lv_at hl 1 rfl) ?_
          obtain ⟨v7, hv, hM⟩ := e_bs hM
          obtain ⟨fs_, hk, -⟩ := e_bs hv
          refine e_callV (ci := 9) (As := []) (rest := []) (n := 0) E J hk rfl (mX9_notsOpen (l := l) (G := G) l0 h6 _ hv) q_6_165 q_6_167 q_p_45 q_1_9 q_6_168 (by decide +kernel) rfl ⟨Nat.le_of_ble_eq_true rfl, Nat.le_of_ble_eq_true rfl⟩ (st0 := [.ref (e_ad G l0)]) (st1 := [.int v7]) rfl rfl hl.1 (Nat.le_of_ble_eq_true rfl) dX9_takesE_226 ⟨Nat.le_refl _, Nat.le_refl _⟩ (fun H locs J => ?_)
          refine lv_istore_n (lv' := [(2, .int v7), (1, .int (l1 + (-1 : Int32))), (0, .ref (e_ad G l0)), (3, .int l3)]) hx hb dX9_takesE_229 rfl hl (by decide) rfl (fun ls hl => ?_)
          refine lv_aload_n hx hb dX9_takesE_230 rfl (lv_at hl 2 rfl) ?_
          obtain ⟨h8, hv, hM⟩ := e_bs hM
          obtain ⟨fs_, hk, -⟩ := e_bs hv
          refine e_callV (ci := 9) (As := []) (rest := []) (n := 0) E J hk rfl (mX9_go (l := l) (G := G) l0 h6 _ hv) q_6_130 q_6_132 q_p_37 q_1_9 q_6_133 (by decide +kernel) rfl ⟨Nat.le_of_ble_eq_true rfl, Nat.le_of_ble_eq_true rfl⟩ (st0 := [.ref (e_ad G l0)]) (st1 := []) rfl rfl hl.1 (Nat.le_of_ble_eq_true rfl) dX9_takesE_231 ⟨Nat.le_refl _, Nat.le_refl _⟩ (fun H locs J => ?_)
          refine lv_goto (tgt := 28) hx hb dX9_takesE_234 (by decide) ?_
          exact K28 l0 (l1 + (-1 : Int32)) v7 l3 h8 hM _ _ J _ (lv_sub hl [2, 1, 0, 3] rfl)
  · have hM := e_in hc hM
    refine lv_aload_n hx hb dX9_takesE_43 rfl (lv_at hl 0 rfl) ?_
    obtain ⟨v9, hv, hM⟩ := e_bs hM
    refine e_getI (C := RX9) (T := TX9) (N := 40) E J hv rfl inX9 (by decide) q_5_26 dX9_takesE_44 ?_
    refine lv_iconst (v := nI 3) hx hb dX9_takesE_47 (by decide) ?_
    refine lv_icmp_ne (tgt := 97) hx hb dX9_takesE_48 (by decide) (fun hc => ?_) (fun hc => ?_)
    · have hM := e_in hc hM
      exact mX9_takesE_b97 E K28 l0 l1 l3 h hM J (lv_sub hl [0, 1, 3] rfl)
    · have hM := e_ip hc hM
      refine lv_aload_n hx hb dX9_takesE_51 rfl (lv_at hl 0 rfl) ?_
      obtain ⟨v10, hv, hM⟩ := e_bs hM
      refine e_getI (C := RX9) (T := TX9) (N := 40) E J hv rfl inX9 (by decide) q_5_27 dX9_takesE_52 ?_
      refine lv_bipush (v := nI 33) hx hb dX9_takesE_55 (by decide) ?_
      refine lv_icmp_ne (tgt := 97) hx hb dX9_takesE_57 (by decide) (fun hc => ?_) (fun hc => ?_)
      · have hM := e_in hc hM
        exact mX9_takesE_b97 E K28 l0 l1 l3 h hM J (lv_sub hl [0, 1, 3] rfl)
      · have hM := e_ip hc hM
        refine lv_iload_n hx hb dX9_takesE_60 rfl (lv_at hl 2 rfl) ?_
        refine lv_bipush (v := nI 8) hx hb dX9_takesE_61 (by decide) ?_
        refine lv_icmp_ge (tgt := 97) hx hb dX9_takesE_63 (by decide) (fun hc => ?_) (fun hc => ?_)
        · have hM := e_ip hc hM
          exact mX9_takesE_b97 E K28 l0 l1 l3 h hM J (lv_sub hl [0, 1, 3] rfl)
        · have hM := e_in hc hM
          refine lv_aload_n hx hb dX9_takesE_66 rfl (lv_at hl 0 rfl) ?_
          obtain ⟨v11, hv, hM⟩ := e_bs hM
          refine e_getR (C := RX9) (T := TX9) (N := 40) E J hv rfl inX9 (by decide) q_5_35 dX9_takesE_67 ?_
          rcases v11 with _ | a12
          · have hM := e_on0 hM
            refine W.eq (g2 := F0 m 70 ls [.null]) rfl ?_
            refine lv_aload_n hx hb dX9_takesE_70 rfl (lv_at hl 0 rfl) ?_
            obtain ⟨v13, hv, hM⟩ := e_bs hM
            refine e_getI (C := RX9) (T := TX9) (N := 40) E J hv rfl inX9 (by decide) q_5_36 dX9_takesE_71 ?_
            refine lv_bipush (v := -10) hx hb dX9_takesE_74 (by decide) ?_
            exact e_no hM
          · have hM := e_on1 hM
            refine W.eq (g2 := F0 m 70 ls [.ref (e_ad G a12)]) rfl ?_
            refine lv_aload_n hx hb dX9_takesE_70 rfl (lv_at hl 0 rfl) ?_
            obtain ⟨v15, hv, hM⟩ := e_bs hM
            refine e_getI (C := RX9) (T := TX9) (N := 40) E J hv rfl inX9 (by decide) q_5_36 dX9_takesE_71 ?_
            refine lv_bipush (v := -10) hx hb dX9_takesE_74 (by decide) ?_
            obtain ⟨h16, hv, hM⟩ := e_bs hM
            refine e_iast E J hv dX9_takesE_76 (fun H locs J => ?_)
            refine lv_aload_n hx hb dX9_takesE_77 rfl (lv_at hl 0 rfl) ?_
            refine lv_dup hx hb dX9_takesE_78 rfl ?_
            obtain ⟨v17, hv, hM⟩ := e_bs hM
            refine e_getI (C := RX9) (T := TX9) (N := 40) E J hv rfl inX9 (by decide) q_5_36 dX9_takesE_79 ?_
            refine lv_iconst (v := nI 1) hx hb dX9_takesE_82 (by decide) ?_
            refine lv_iadd hx hb dX9_takesE_83 ?_
            obtain ⟨h18, hv, hM⟩ := e_bs hM
            refine e_putv (C := RX9) (T := TX9) (N := 40) E J hv rfl rfl inX9 tyX9 tyX9_ok nmX9 (by decide) q_5_36 rfl rfl rfl rfl dX9_takesE_84 (fun H locs J => ?_)
            refine lv_iinc (v := (l2 + (nI 1))) (lv' := [(2, .int (l2 + (nI 1))), (0, .ref (e_ad G l0)), (1, .int l1), (3, .int l3)]) hx hb dX9_takesE_87 hl (k := 2) rfl rfl (by decide) rfl (fun ls hl => ?_)
            refine lv_aload_n hx hb dX9_takesE_90 rfl (lv_at hl 1 rfl) ?_
            obtain ⟨h19, hv, hM⟩ := e_bs hM
            obtain ⟨fs_, hk, -⟩ := e_bs hv
            refine e_callV (ci := 9) (As := []) (rest := []) (n := 0) E J hk rfl (mX9_go (l := l) (G := G) l0 h18 _ hv) q_6_130 q_6_132 q_p_37 q_1_9 q_6_133 (by decide +kernel) rfl ⟨Nat.le_of_ble_eq_true rfl, Nat.le_of_ble_eq_true rfl⟩ (st0 := [.ref (e_ad G l0)]) (st1 := []) rfl rfl hl.1 (Nat.le_of_ble_eq_true rfl) dX9_takesE_91 ⟨Nat.le_refl _, Nat.le_refl _⟩ (fun H locs J => ?_)
            refine lv_goto (tgt := 172) hx hb dX9_takesE_94 (by decide) ?_
            exact mX9_takesE_b172 E K28 l0 l1 l3 h19 hM J (lv_sub hl [1, 2, 3] rfl)
set_option maxRecDepth 100000 in
set_option maxHeartbeats 4000000 in
theorem mX9_takesE_b28 {p : Program} {l : Launch} {e : Env} {s : State} {m : MethodId} {args : Array Value} {below : List Frame} {meth : Method} {c : Code} {G : e_G} {res : (Bool × e_H)} {k28 : Nat → Int32 → Int32 → Int32 → e_H → Option (Bool × e_H)} (E : e_M G p s args m meth c cX9_takesE 5 (some FieldType.boolean) RX9) (K28 : ∀ (l0 : Nat) (l1 : Int32) (l2 : Int32) (l3 : Int32) (h : e_H), k28 l0 l1 l2 l3 h = some res → ∀ (H : Heap) (locs : List Loc), e_J G s h H locs → ∀ (ls : Array Slot), lv_has ls 5 [(0, .ref (e_ad G l0)), (1, .int l1), (2, .int l2), (3, .int l3)] → W p l e (e_rm 3 63) s m args below meth c H locs 0 0 (MQ below (e_Q G res.2 (some (.int (e_b res.1)))) args s 0 0 (e_A G)) (F0 m 28 ls [])) (l0 : Nat) (l1 : Int32) (l2 : Int32) (l3 : Int32) (h : e_H) (hM : fX9_takesE_b28 k28 l0 l1 l2 l3 h = some res) {H : Heap} {locs : List Loc} (J : e_J G s h H locs) {ls : Array Slot} (hl : lv_has ls 5 [(0, .ref (e_ad G l0)), (1, .int l1), (2, .int l2), (3, .int l3)]) : W p l e (e_rm 3 63) s m args below meth c H locs 0 0 (MQ below (e_Q G res.2 (some (.int (e_b res.1)))) args s 0 0 (e_A G)) (F0 m 28 ls []) := by
  obtain ⟨hx, hb, hr, hml, hown, hts, hlocks, hES, hbs⟩ := id E
  unfold fX9_takesE_b28 at hM
  refine lv_iload_n hx hb dX9_takesE_28 rfl (lv_at hl 3 rfl) ?_
  refine lv_if_ne (tgt := 39) hx hb dX9_takesE_29 (by decide) (fun hc => ?_) (fun hc => ?_)
  · have hM := e_in hc hM
    exact mX9_takesE_b39 E K28 l0 l1 l2 l3 h hM J (lv_sub hl [0, 1, 2, 3] rfl)
  · have hM := e_ip hc hM
    refine lv_aload_n hx hb dX9_takesE_32 rfl (lv_at hl 0 rfl) ?_
    obtain ⟨v1, hv, hM⟩ := e_bs hM
    refine e_getI (C := RX9) (T := TX9) (N := 40) E J hv rfl inX9 (by decide) q_5_26 dX9_takesE_33 ?_
    refine lv_if_eq (tgt := 345) hx hb dX9_takesE_36 (by decide) (fun hc => ?_) (fun hc => ?_)
    · have hM := e_ip hc hM
      refine lv_aload_n hx hb dX9_takesE_345 rfl (lv_at hl 0 rfl) ?_
      refine lv_iconst (v := nI 0) hx hb dX9_takesE_346 (by decide) ?_
      obtain ⟨h2, hv, hM⟩ := e_bs hM
      obtain ⟨fs_, hk, -⟩ := e_bs hv
      refine e_callV (ci := 9) (As := [.int (nI 0)]) (rest := []) (n := 1) E J hk rfl (mX9_settle (l := l) (G := G) l0 (nI 0) h _ hv) q_6_158 q_6_160 q_p_44 q_1_9 q_6_161 (by decide +kernel) rfl ⟨Nat.le_of_ble_eq_true rfl, Nat.le_of_ble_eq_true rfl⟩ (st0 := [.int (nI 0), .ref (e_ad G l0)]) (st1 := []) rfl rfl hl.1 (Nat.le_of_ble_eq_true rfl) dX9_takesE_347 ⟨Nat.le_refl _, Nat.le_refl _⟩ (fun H locs J => ?_)
      refine lv_iload_n hx hb dX9_takesE_350 rfl (lv_at hl 1 rfl) ?_
      refine lv_if_ne (tgt := 358) hx hb dX9_takesE_351 (by decide) (fun hc => ?_) (fun hc => ?_)
      · have hM := e_in hc hM
        refine lv_iconst (v := nI 0) hx hb dX9_takesE_358 (by decide) ?_
        obtain rfl := e_so hM
        exact e_zret E J (false) rfl dX9_takesE_359
      · have hM := e_ip hc hM
        refine lv_iconst (v := nI 1) hx hb dX9_takesE_354 (by decide) ?_
        refine lv_goto (tgt := 359) hx hb dX9_takesE_355 (by decide) ?_
        obtain rfl := e_so hM
        exact e_zret E J (true) rfl dX9_takesE_359
    · have hM := e_in hc hM
      exact mX9_takesE_b39 E K28 l0 l1 l2 l3 h hM J (lv_sub hl [0, 1, 2, 3] rfl)
set_option maxRecDepth 100000 in
set_option maxHeartbeats 4000000 in
theorem mX9_takesE_L28 {p : Program} {l : Launch} {e : Env} {s : State} {m : MethodId} {args : Array Value} {below : List Frame} {meth : Method} {c : Code} {G : e_G} {res : (Bool × e_H)} (E : e_M G p s args m meth c cX9_takesE 5 (some FieldType.boolean) RX9) (n : Nat) (l0 : Nat) (l1 : Int32) (l2 : Int32) (l3 : Int32) (h : e_H) (hM : fX9_takesE_L28 n l0 l1 l2 l3 h = some res) {H : Heap} {locs : List Loc} (J : e_J G s h H locs) {ls : Array Slot} (hl : lv_has ls 5 [(0, .ref (e_ad G l0)), (1, .int l1), (2, .int l2), (3, .int l3)]) : W p l e (e_rm 3 63) s m args below meth c H locs 0 0 (MQ below (e_Q G res.2 (some (.int (e_b res.1)))) args s 0 0 (e_A G)) (F0 m 28 ls []) := by
  induction n generalizing l0 l1 l2 l3 h H locs ls with
  | zero => exact e_no hM
  | succ n ih => exact mX9_takesE_b28 (k28 := (fX9_takesE_L28 n)) E   (fun l0 l1 l2 l3 h hM H locs J ls hl => ih l0 l1 l2 l3 h hM J hl) l0 l1 l2 l3 h hM J hl
set_option maxRecDepth 100000 in
set_option maxHeartbeats 4000000 in
theorem mX9_takesE {l : Launch} {G : e_G} (l0 : Nat) (h : e_H) (res : (Bool × e_H)) (hM : fX9_takesE l0 h = some res) : Met l yX9_takesE (e_W yX9_takesE cX9_takesE 5 (some FieldType.boolean)) (e_rm 3 63) (e_Pc G h [.ref (e_ad G l0)]) (e_Q G res.2 (some (.int (e_b res.1)))) 0 0 (e_A G) := by
  refine Met.ofW (cc := cX9_takesE) (maxL := 5) (ret := (some FieldType.boolean)) (by decide) rfl ?_
  intro p e s m args below meth c s₁ B hml hv
  obtain ⟨rfl, hS, hP⟩ := hv
  have E := e_enter (own := RX9) (ret := (some FieldType.boolean)) B hml rfl hS hP
  have J : e_J G s h s.heap [] := ⟨hP, va_S.rf⟩
  have hl := lv_entry ([.ref (e_ad G l0)]) (n := 5) (Nat.le_of_ble_eq_true rfl)
  rw [lg_entry_eq]
  generalize (lg_sl ([.ref (e_ad G l0)]) ++ List.replicate (5 - (lg_sl ([.ref (e_ad G l0)])).length) Slot.unset).toArray = ls at hl ⊢
  have hl : lv_has ls 5 [(0, .ref (e_ad G l0))] := hl
  obtain ⟨hx, hb, hr, hml, hown, hts, hlocks, hES, hbs⟩ := id E
  unfold fX9_takesE at hM
  obtain ⟨fs_, hk_, hM⟩ := e_bs hM
  refine lv_iconst (v := nI 0) hx hb dX9_takesE_0 (by decide) ?_
  refine lv_istore_n (lv' := [(1, .int (nI 0)), (0, .ref (e_ad G l0))]) hx hb dX9_takesE_1 rfl hl (by decide) rfl (fun ls hl => ?_)
  refine lv_iconst (v := nI 0) hx hb dX9_takesE_2 (by decide) ?_
  refine lv_istore_n (lv' := [(2, .int (nI 0)), (1, .int (nI 0)), (0, .ref (e_ad G l0))]) hx hb dX9_takesE_3 rfl hl (by decide) rfl (fun ls hl => ?_)
  refine lv_iconst (v := nI 1) hx hb dX9_takesE_4 (by decide) ?_
  refine lv_istore_n (lv' := [(3, .int (nI 1)), (2, .int (nI 0)), (1, .int (nI 0)), (0, .ref (e_ad G l0))]) hx hb dX9_takesE_5 rfl hl (by decide) rfl (fun ls hl => ?_)
  refine lv_aload_n hx hb dX9_takesE_6 rfl (lv_at hl 3 rfl) ?_
  refine lv_iconst (v := nI 0) hx hb dX9_takesE_7 (by decide) ?_
  obtain ⟨h1, hv, hM⟩ := e_bs hM
  refine e_putv (C := RX9) (T := TX9) (N := 40) E J hv rfl rfl inX9 tyX9 tyX9_ok nmX9 (by decide) q_5_33 rfl rfl rfl rfl dX9_takesE_8 (fun H locs J => ?_)
  refine lv_aload_n hx hb dX9_takesE_11 rfl (lv_at hl 3 rfl) ?_
  refine lv_iconst (v := nI 0) hx hb dX9_takesE_12 (by decide) ?_
  obtain ⟨h2, hv, hM⟩ := e_bs hM
  refine e_putv (C := RX9) (T := TX9) (N := 40) E J hv rfl rfl inX9 tyX9 tyX9_ok nmX9 (by decide) q_5_34 rfl rfl rfl rfl dX9_takesE_13 (fun H locs J => ?_)
  refine lv_aload_n hx hb dX9_takesE_16 rfl (lv_at hl 3 rfl) ?_
  refine lv_iconst (v := nI 0) hx hb dX9_takesE_17 (by decide) ?_
  obtain ⟨h3, hv, hM⟩ := e_bs hM
  refine e_putv (C := RX9) (T := TX9) (N := 40) E J hv rfl rfl inX9 tyX9 tyX9_ok nmX9 (by decide) q_5_36 rfl rfl rfl rfl dX9_takesE_18 (fun H locs J => ?_)
  refine lv_aload_n hx hb dX9_takesE_21 rfl (lv_at hl 3 rfl) ?_
  obtain ⟨v4, hv, hM⟩ := e_bs hM
  refine e_getR (C := RX9) (T := TX9) (N := 40) E J hv rfl inX9 (by decide) q_5_37 dX9_takesE_22 ?_
  rcases v4 with _ | a5
  · have hM := e_on0 hM
    refine W.eq (g2 := F0 m 25 ls [.null]) rfl ?_
    refine lv_iconst (v := nI 0) hx hb dX9_takesE_25 (by decide) ?_
    refine lv_iconst (v := nI 0) hx hb dX9_takesE_26 (by decide) ?_
    exact e_no hM
  · have hM := e_on1 hM
    refine W.eq (g2 := F0 m 25 ls [.ref (e_ad G a5)]) rfl ?_
    refine lv_iconst (v := nI 0) hx hb dX9_takesE_25 (by decide) ?_
    refine lv_iconst (v := nI 0) hx hb dX9_takesE_26 (by decide) ?_
    obtain ⟨h7, hv, hM⟩ := e_bs hM
    refine e_zast E J hv dX9_takesE_27 (fun H locs J => ?_)
    exact mX9_takesE_L28 E 200 l0 (nI 0) (nI 0) (nI 1) h7 hM J (lv_sub hl [3, 2, 1, 0] rfl)
set_option maxRecDepth 100000 in
set_option maxHeartbeats 4000000 in
theorem mX9_text_b115 {p : Program} {l : Launch} {e : Env} {s : State} {m : MethodId} {args : Array Value} {below : List Frame} {meth : Method} {c : Code} {G : e_G} {res : (Int32 × e_H)} {k115 : Nat → Int32 → Int32 → e_H → Option (Int32 × e_H)} (E : e_M G p s args m meth c cX9_text 4 (some FieldType.int) RX9) (K115 : ∀ (l0 : Nat) (l2 : Int32) (l3 : Int32) (h : e_H), k115 l0 l2 l3 h = some res → ∀ (H : Heap) (locs : List Loc), e_J G s h H locs → ∀ (ls : Array Slot), lv_has ls 4 [(0, .ref (e_ad G l0)), (2, .int l2), (3, .int l3)] → W p l e (e_rm 4 87) s m args below meth c H locs 0 0 (MQ below (e_Q G res.2 (some (.int res.1))) args s 0 0 (e_A G)) (F0 m 115 ls [])) (l0 : Nat) (l2 : Int32) (l3 : Int32) (h : e_H) (hM : fX9_text_b115 k115 l0 l2 l3 h = some res) {H : Heap} {locs : List Loc} (J : e_J G s h H locs) {ls : Array Slot} (hl : lv_has ls 4 [(0, .ref (e_ad G l0)), (2, .int l2), (3, .int l3)]) : W p l e (e_rm 4 87) s m args below meth c H locs 0 0 (MQ below (e_Q G res.2 (some (.int res.1))) args s 0 0 (e_A G)) (F0 m 115 ls []) := by
  obtain ⟨hx, hb, hr, hml, hown, hts, hlocks, hES, hbs⟩ := id E
  unfold fX9_text_b115 at hM
  refine lv_iload_n hx hb dX9_text_115 rfl (lv_at hl 2 rfl) ?_
  refine lv_aload_n hx hb dX9_text_116 rfl (lv_at hl 0 rfl) ?_
  obtain ⟨v1, hv, hM⟩ := e_bs hM
  refine e_getI (C := RX9) (T := TX9) (N := 40) E J hv rfl inX9 (by decide) q_5_33 dX9_text_117 ?_
  refine lv_icmp_ge (tgt := 149) hx hb dX9_text_120 (by decide) (fun hc => ?_) (fun hc => ?_)
  · have hM := e_ip hc hM
    refine lv_aload_n hx hb dX9_text_149 rfl (lv_at hl 0 rfl) ?_
    obtain ⟨v2, hv, hM⟩ := e_bs hM
    refine e_getR (C := RX9) (T := TX9) (N := 40) E J hv rfl inX9 (by decide) q_5_10 dX9_text_150 ?_
    rcases v2 with _ | a3
    · have hM := e_on0 hM
      refine W.eq (g2 := F0 m 153 ls [.null]) rfl ?_
      refine lv_iconst (v := nI 2) hx hb dX9_text_153 (by decide) ?_
      refine lv_dup2_11 hx hb dX9_text_154 rfl rfl ?_
      exact e_no hM
    · have hM := e_on1 hM
      refine W.eq (g2 := F0 m 153 ls [.ref (e_ad G a3)]) rfl ?_
      refine lv_iconst (v := nI 2) hx hb dX9_text_153 (by decide) ?_
      refine lv_dup2_11 hx hb dX9_text_154 rfl rfl ?_
      obtain ⟨v4, hv, hM⟩ := e_bs hM
      refine e_iald E J hv dX9_text_155 ?_
      refine lv_iconst (v := nI 1) hx hb dX9_text_156 (by decide) ?_
      refine lv_iadd hx hb dX9_text_157 ?_
      obtain ⟨h5, hv, hM⟩ := e_bs hM
      refine e_iast E J hv dX9_text_158 (fun H locs J => ?_)
      refine lv_iload_n hx hb dX9_text_159 rfl (lv_at hl 1 rfl) ?_
      obtain rfl := e_so hM
      exact e_iret E J dX9_text_160
  · have hM := e_in hc hM
    refine lv_aload_n hx hb dX9_text_123 rfl (lv_at hl 0 rfl) ?_
    obtain ⟨v6, hv, hM⟩ := e_bs hM
    refine e_getR (C := RX9) (T := TX9) (N := 40) E J hv rfl inX9 (by decide) q_5_10 dX9_text_124 ?_
    rcases v6 with _ | a7
    · have hM := e_on0 hM
      refine W.eq (g2 := F0 m 127 ls [.null]) rfl ?_
      refine lv_bipush (v := nI 127) hx hb dX9_text_127 (by decide) ?_
      refine lv_bipush (v := nI 96) hx hb dX9_text_129 (by decide) ?_
      refine lv_iload_n hx hb dX9_text_131 rfl (lv_at hl 1 rfl) ?_
      refine lv_imul hx hb dX9_text_132 ?_
      refine lv_iadd hx hb dX9_text_133 ?_
      refine lv_iload_n hx hb dX9_text_134 rfl (lv_at hl 2 rfl) ?_
      refine lv_iadd hx hb dX9_text_135 ?_
      refine lv_aload_n hx hb dX9_text_136 rfl (lv_at hl 0 rfl) ?_
      obtain ⟨v8, hv, hM⟩ := e_bs hM
      refine e_getR (C := RX9) (T := TX9) (N := 40) E J hv rfl inX9 (by decide) q_5_32 dX9_text_137 ?_
      rcases v8 with _ | a9
      · have hM := e_on0 hM
        refine W.eq (g2 := F0 m 140 ls [.null, .int (((nI 127) + ((nI 96) * l2)) + l3), .null]) rfl ?_
        refine lv_iload_n hx hb dX9_text_140 rfl (lv_at hl 2 rfl) ?_
        exact e_no hM
      · have hM := e_on1 hM
        refine W.eq (g2 := F0 m 140 ls [.ref (e_ad G a9), .int (((nI 127) + ((nI 96) * l2)) + l3), .null]) rfl ?_
        refine lv_iload_n hx hb dX9_text_140 rfl (lv_at hl 2 rfl) ?_
        obtain ⟨v10, hv, hM⟩ := e_bs hM
        refine e_iald E J hv dX9_text_141 ?_
        exact e_no hM
    · have hM := e_on1 hM
      refine W.eq (g2 := F0 m 127 ls [.ref (e_ad G a7)]) rfl ?_
      refine lv_bipush (v := nI 127) hx hb dX9_text_127 (by decide) ?_
      refine lv_bipush (v := nI 96) hx hb dX9_text_129 (by decide) ?_
      refine lv_iload_n hx hb dX9_text_131 rfl (lv_at hl 1 rfl) ?_
      refine lv_imul hx hb dX9_text_132 ?_
      refine lv_iadd hx hb dX9_text_133 ?_
      refine lv_iload_n hx hb dX9_text_134 rfl (lv_at hl 2 rfl) ?_
      refine lv_iadd hx hb dX9_text_135 ?_
      refine lv_aload_n hx hb dX9_text_136 rfl (lv_at hl 0 rfl) ?_
      obtain ⟨v12, hv, hM⟩ := e_bs hM
      refine e_getR (C := RX9) (T := TX9) (N := 40) E J hv rfl inX9 (by decide) q_5_32 dX9_text_137 ?_
      rcases v12 with _ | a13
      · have hM := e_on0 hM
        refine W.eq (g2 := F0 m 140 ls [.null, .int (((nI 127) + ((nI 96) * l2)) + l3), .ref (e_ad G a7)]) rfl ?_
        refine lv_iload_n hx hb dX9_text_140 rfl (lv_at hl 2 rfl) ?_
        exact e_no hM
      · have hM := e_on1 hM
        refine W.eq (g2 := F0 m 140 ls [.ref (e_ad G a13), .int (((nI 127) + ((nI 96) * l2)) + l3), .ref (e_ad G a7)]) rfl ?_
        refine lv_iload_n hx hb dX9_text_140 rfl (lv_at hl 2 rfl) ?_
        obtain ⟨v14, hv, hM⟩ := e_bs hM
        refine e_iald E J hv dX9_text_141 ?_
        obtain ⟨h15, hv, hM⟩ := e_bs hM
        refine e_iast E J hv dX9_text_142 (fun H locs J => ?_)
        refine lv_iinc (v := (l3 + (nI 1))) (lv' := [(3, .int (l3 + (nI 1))), (0, .ref (e_ad G l0)), (2, .int l2)]) hx hb dX9_text_143 hl (k := 2) rfl rfl (by decide) rfl (fun ls hl => ?_)
        refine lv_goto (tgt := 115) hx hb dX9_text_146 (by decide) ?_
        exact K115 l0 l2 (l3 + (nI 1)) h15 hM _ _ J _ (lv_sub hl [1, 2, 0] rfl)
set_option maxRecDepth 100000 in
set_option maxHeartbeats 4000000 in
theorem mX9_text_L115 {p : Program} {l : Launch} {e : Env} {s : State} {m : MethodId} {args : Array Value} {below : List Frame} {meth : Method} {c : Code} {G : e_G} {res : (Int32 × e_H)} (E : e_M G p s args m meth c cX9_text 4 (some FieldType.int) RX9) (n : Nat) (l0 : Nat) (l2 : Int32) (l3 : Int32) (h : e_H) (hM : fX9_text_L115 n l0 l2 l3 h = some res) {H : Heap} {locs : List Loc} (J : e_J G s h H locs) {ls : Array Slot} (hl : lv_has ls 4 [(0, .ref (e_ad G l0)), (2, .int l2), (3, .int l3)]) : W p l e (e_rm 4 87) s m args below meth c H locs 0 0 (MQ below (e_Q G res.2 (some (.int res.1))) args s 0 0 (e_A G)) (F0 m 115 ls []) := by
  induction n generalizing l0 l2 l3 h H locs ls with
  | zero => exact e_no hM
  | succ n ih => exact mX9_text_b115 (k115 := (fX9_text_L115 n)) E   (fun l0 l2 l3 h hM H locs J ls hl => ih l0 l2 l3 h hM J hl) l0 l2 l3 h hM J hl
set_option maxRecDepth 100000 in
set_option maxHeartbeats 4000000 in
theorem mX9_text_b33 {p : Program} {l : Launch} {e : Env} {s : State} {m : MethodId} {args : Array Value} {below : List Frame} {meth : Method} {c : Code} {G : e_G} {res : (Int32 × e_H)} (E : e_M G p s args m meth c cX9_text 4 (some FieldType.int) RX9) (l0 : Nat) (t0 : Int32) (h : e_H) (hM : fX9_text_b33 l0 t0 h = some res) {H : Heap} {locs : List Loc} (J : e_J G s h H locs) {ls : Array Slot} (hl : lv_has ls 4 [(0, .ref (e_ad G l0))]) : W p l e (e_rm 4 87) s m args below meth c H locs 0 0 (MQ below (e_Q G res.2 (some (.int res.1))) args s 0 0 (e_A G)) (F0 m 33 ls [.int t0]) := by
  obtain ⟨hx, hb, hr, hml, hown, hts, hlocks, hES, hbs⟩ := id E
  unfold fX9_text_b33 at hM
  refine lv_istore_n (lv' := [(1, .int t0), (0, .ref (e_ad G l0))]) hx hb dX9_text_33 rfl hl (by decide) rfl (fun ls hl => ?_)
  refine lv_aload_n hx hb dX9_text_34 rfl (lv_at hl 1 rfl) ?_
  refine lv_iconst (v := nI 0) hx hb dX9_text_35 (by decide) ?_
  obtain ⟨h1, hv, hM⟩ := e_bs hM
  refine e_putv (C := RX9) (T := TX9) (N := 40) E J hv rfl rfl inX9 tyX9 tyX9_ok nmX9 (by decide) q_5_23 rfl rfl rfl rfl dX9_text_36 (fun H locs J => ?_)
  refine lv_iload_n hx hb dX9_text_39 rfl (lv_at hl 0 rfl) ?_
  refine lv_if_ne (tgt := 51) hx hb dX9_text_40 (by decide) (fun hc => ?_) (fun hc => ?_)
  · have hM := e_in hc hM
    refine lv_aload_n hx hb dX9_text_51 rfl (lv_at hl 1 rfl) ?_
    obtain ⟨v3, hv, hM⟩ := e_bs hM
    refine e_getR (C := RX9) (T := TX9) (N := 40) E J hv rfl inX9 (by decide) q_5_10 dX9_text_52 ?_
    rcases v3 with _ | a4
    · have hM := e_on0 hM
      refine W.eq (g2 := F0 m 55 ls [.null]) rfl ?_
      refine lv_iconst (v := nI 2) hx hb dX9_text_55 (by decide) ?_
      exact e_no hM
    · have hM := e_on1 hM
      refine W.eq (g2 := F0 m 55 ls [.ref (e_ad G a4)]) rfl ?_
      refine lv_iconst (v := nI 2) hx hb dX9_text_55 (by decide) ?_
      obtain ⟨v5, hv, hM⟩ := e_bs hM
      refine e_iald E J hv dX9_text_56 ?_
      refine lv_bipush (v := nI 14) hx hb dX9_text_57 (by decide) ?_
      refine lv_icmp_ne (tgt := 65) hx hb dX9_text_59 (by decide) (fun hc => ?_) (fun hc => ?_)
      · have hM := e_in hc hM
        refine lv_aload_n hx hb dX9_text_65 rfl (lv_at hl 1 rfl) ?_
        obtain ⟨v6, hv, hM⟩ := e_bs hM
        refine e_getR (C := RX9) (T := TX9) (N := 40) E J hv rfl inX9 (by decide) q_5_10 dX9_text_66 ?_
        rcases v6 with _ | a7
        · have hM := e_on0 hM
          refine W.eq (g2 := F0 m 69 ls [.null]) rfl ?_
          refine lv_iconst (v := nI 2) hx hb dX9_text_69 (by decide) ?_
          exact e_no hM
        · have hM := e_on1 hM
          refine W.eq (g2 := F0 m 69 ls [.ref (e_ad G a7)]) rfl ?_
          refine lv_iconst (v := nI 2) hx hb dX9_text_69 (by decide) ?_
          obtain ⟨v8, hv, hM⟩ := e_bs hM
          refine e_iald E J hv dX9_text_70 ?_
          refine lv_istore_n (lv' := [(2, .int v8), (1, .int t0), (0, .ref (e_ad G l0))]) hx hb dX9_text_71 rfl hl (by decide) rfl (fun ls hl => ?_)
          refine lv_aload_n hx hb dX9_text_72 rfl (lv_at hl 2 rfl) ?_
          obtain ⟨v9, hv, hM⟩ := e_bs hM
          refine e_getR (C := RX9) (T := TX9) (N := 40) E J hv rfl inX9 (by decide) q_5_10 dX9_text_73 ?_
          rcases v9 with _ | a10
          · have hM := e_on0 hM
            refine W.eq (g2 := F0 m 76 ls [.null]) rfl ?_
            refine lv_bipush (v := nI 99) hx hb dX9_text_76 (by decide) ?_
            refine lv_iconst (v := nI 2) hx hb dX9_text_78 (by decide) ?_
            refine lv_iload_n hx hb dX9_text_79 rfl (lv_at hl 0 rfl) ?_
            refine lv_imul hx hb dX9_text_80 ?_
            refine lv_iadd hx hb dX9_text_81 ?_
            refine lv_sipush (v := nI 1000) hx hb dX9_text_82 (by decide) ?_
            refine lv_aload_n hx hb dX9_text_85 rfl (lv_at hl 2 rfl) ?_
            obtain ⟨v11, hv, hM⟩ := e_bs hM
            refine e_getI (C := RX9) (T := TX9) (N := 40) E J hv rfl inX9 (by decide) q_5_29 dX9_text_86 ?_
            refine lv_imul hx hb dX9_text_89 ?_
            refine lv_aload_n hx hb dX9_text_90 rfl (lv_at hl 2 rfl) ?_
            obtain ⟨v12, hv, hM⟩ := e_bs hM
            refine e_getI (C := RX9) (T := TX9) (N := 40) E J hv rfl inX9 (by decide) q_5_33 dX9_text_91 ?_
            refine lv_iadd hx hb dX9_text_94 ?_
            exact e_no hM
          · have hM := e_on1 hM
            refine W.eq (g2 := F0 m 76 ls [.ref (e_ad G a10)]) rfl ?_
            refine lv_bipush (v := nI 99) hx hb dX9_text_76 (by decide) ?_
            refine lv_iconst (v := nI 2) hx hb dX9_text_78 (by decide) ?_
            refine lv_iload_n hx hb dX9_text_79 rfl (lv_at hl 0 rfl) ?_
            refine lv_imul hx hb dX9_text_80 ?_
            refine lv_iadd hx hb dX9_text_81 ?_
            refine lv_sipush (v := nI 1000) hx hb dX9_text_82 (by decide) ?_
            refine lv_aload_n hx hb dX9_text_85 rfl (lv_at hl 2 rfl) ?_
            obtain ⟨v14, hv, hM⟩ := e_bs hM
            refine e_getI (C := RX9) (T := TX9) (N := 40) E J hv rfl inX9 (by decide) q_5_29 dX9_text_86 ?_
            refine lv_imul hx hb dX9_text_89 ?_
            refine lv_aload_n hx hb dX9_text_90 rfl (lv_at hl 2 rfl) ?_
            obtain ⟨v15, hv, hM⟩ := e_bs hM
            refine e_getI (C := RX9) (T := TX9) (N := 40) E J hv rfl inX9 (by decide) q_5_33 dX9_text_91 ?_
            refine lv_iadd hx hb dX9_text_94 ?_
            obtain ⟨h16, hv, hM⟩ := e_bs hM
            refine e_iast E J hv dX9_text_95 (fun H locs J => ?_)
            refine lv_aload_n hx hb dX9_text_96 rfl (lv_at hl 2 rfl) ?_
            obtain ⟨v17, hv, hM⟩ := e_bs hM
            refine e_getR (C := RX9) (T := TX9) (N := 40) E J hv rfl inX9 (by decide) q_5_10 dX9_text_97 ?_
            rcases v17 with _ | a18
            · have hM := e_on0 hM
              refine W.eq (g2 := F0 m 100 ls [.null]) rfl ?_
              refine lv_bipush (v := nI 99) hx hb dX9_text_100 (by decide) ?_
              refine lv_iconst (v := nI 2) hx hb dX9_text_102 (by decide) ?_
              refine lv_iload_n hx hb dX9_text_103 rfl (lv_at hl 0 rfl) ?_
              refine lv_imul hx hb dX9_text_104 ?_
              refine lv_iadd hx hb dX9_text_105 ?_
              refine lv_iconst (v := nI 1) hx hb dX9_text_106 (by decide) ?_
              refine lv_iadd hx hb dX9_text_107 ?_
              refine lv_aload_n hx hb dX9_text_108 rfl (lv_at hl 2 rfl) ?_
              obtain ⟨v19, hv, hM⟩ := e_bs hM
              refine e_getI (C := RX9) (T := TX9) (N := 40) E J hv rfl inX9 (by decide) q_5_34 dX9_text_109 ?_
              exact e_no hM
            · have hM := e_on1 hM
              refine W.eq (g2 := F0 m 100 ls [.ref (e_ad G a18)]) rfl ?_
              refine lv_bipush (v := nI 99) hx hb dX9_text_100 (by decide) ?_
              refine lv_iconst (v := nI 2) hx hb dX9_text_102 (by decide) ?_
              refine lv_iload_n hx hb dX9_text_103 rfl (lv_at hl 0 rfl) ?_
              refine lv_imul hx hb dX9_text_104 ?_
              refine lv_iadd hx hb dX9_text_105 ?_
              refine lv_iconst (v := nI 1) hx hb dX9_text_106 (by decide) ?_
              refine lv_iadd hx hb dX9_text_107 ?_
              refine lv_aload_n hx hb dX9_text_108 rfl (lv_at hl 2 rfl) ?_
              obtain ⟨v21, hv, hM⟩ := e_bs hM
              refine e_getI (C := RX9) (T := TX9) (N := 40) E J hv rfl inX9 (by decide) q_5_34 dX9_text_109 ?_
              obtain ⟨h22, hv, hM⟩ := e_bs hM
              refine e_iast E J hv dX9_text_112 (fun H locs J => ?_)
              refine lv_iconst (v := nI 0) hx hb dX9_text_113 (by decide) ?_
              refine lv_istore_n (lv' := [(3, .int (nI 0)), (2, .int v8), (1, .int t0), (0, .ref (e_ad G l0))]) hx hb dX9_text_114 rfl hl (by decide) rfl (fun ls hl => ?_)
              exact mX9_text_L115 E 200 l0 v8 (nI 0) h22 hM J (lv_sub hl [3, 1, 0] rfl)
      · have hM := e_ip hc hM
        refine lv_ldc (v := -1000000003) hx hb hown (hts _ q_5_141) dX9_text_62 ?_
        obtain rfl := e_so hM
        exact e_iret E J dX9_text_64
  · have hM := e_ip hc hM
    refine lv_bipush (v := -100) hx hb dX9_text_43 (by decide) ?_
    refine lv_aload_n hx hb dX9_text_45 rfl (lv_at hl 1 rfl) ?_
    obtain ⟨v2, hv, hM⟩ := e_bs hM
    refine e_getI (C := RX9) (T := TX9) (N := 40) E J hv rfl inX9 (by decide) q_5_25 dX9_text_46 ?_
    refine lv_isub hx hb dX9_text_49 ?_
    obtain rfl := e_so hM
    exact e_iret E J dX9_text_50
set_option maxRecDepth 100000 in
set_option maxHeartbeats 4000000 in
theorem mX9_text_b32 {p : Program} {l : Launch} {e : Env} {s : State} {m : MethodId} {args : Array Value} {below : List Frame} {meth : Method} {c : Code} {G : e_G} {res : (Int32 × e_H)} (E : e_M G p s args m meth c cX9_text 4 (some FieldType.int) RX9) (l0 : Nat) (h : e_H) (hM : fX9_text_b32 l0 h = some res) {H : Heap} {locs : List Loc} (J : e_J G s h H locs) {ls : Array Slot} (hl : lv_has ls 4 [(0, .ref (e_ad G l0))]) : W p l e (e_rm 4 87) s m args below meth c H locs 0 0 (MQ below (e_Q G res.2 (some (.int res.1))) args s 0 0 (e_A G)) (F0 m 32 ls []) := by
  obtain ⟨hx, hb, hr, hml, hown, hts, hlocks, hES, hbs⟩ := id E
  unfold fX9_text_b32 at hM
  refine lv_iconst (v := nI 0) hx hb dX9_text_32 (by decide) ?_
  exact mX9_text_b33 E l0 (nI 0) h hM J (lv_sub hl [0] rfl)
set_option maxRecDepth 100000 in
set_option maxHeartbeats 4000000 in
theorem mX9_text {l : Launch} {G : e_G} (l0 : Nat) (h : e_H) (res : (Int32 × e_H)) (hM : fX9_text l0 h = some res) : Met l yX9_text (e_W yX9_text cX9_text 4 (some FieldType.int)) (e_rm 4 87) (e_Pc G h [.ref (e_ad G l0)]) (e_Q G res.2 (some (.int res.1))) 0 0 (e_A G) := by
  refine Met.ofW (cc := cX9_text) (maxL := 4) (ret := (some FieldType.int)) (by decide) rfl ?_
  intro p e s m args below meth c s₁ B hml hv
  obtain ⟨rfl, hS, hP⟩ := hv
  have E := e_enter (own := RX9) (ret := (some FieldType.int)) B hml rfl hS hP
  have J : e_J G s h s.heap [] := ⟨hP, va_S.rf⟩
  have hl := lv_entry ([.ref (e_ad G l0)]) (n := 4) (Nat.le_of_ble_eq_true rfl)
  rw [lg_entry_eq]
  generalize (lg_sl ([.ref (e_ad G l0)]) ++ List.replicate (4 - (lg_sl ([.ref (e_ad G l0)])).length) Slot.unset).toArray = ls at hl ⊢
  have hl : lv_has ls 4 [(0, .ref (e_ad G l0))] := hl
  obtain ⟨hx, hb, hr, hml, hown, hts, hlocks, hES, hbs⟩ := id E
  unfold fX9_text at hM
  obtain ⟨fs_, hk_, hM⟩ := e_bs hM
  refine lv_aload_n hx hb dX9_text_0 rfl (lv_at hl 0 rfl) ?_
  refine lv_iconst (v := nI 0) hx hb dX9_text_1 (by decide) ?_
  obtain ⟨h1, hv, hM⟩ := e_bs hM
  refine e_putv (C := RX9) (T := TX9) (N := 40) E J hv rfl rfl inX9 tyX9 tyX9_ok nmX9 (by decide) q_5_24 rfl rfl rfl rfl dX9_text_2 (fun H locs J => ?_)
  refine lv_aload_n hx hb dX9_text_5 rfl (lv_at hl 0 rfl) ?_
  refine lv_iconst (v := -1) hx hb dX9_text_6 (by decide) ?_
  obtain ⟨h2, hv, hM⟩ := e_bs hM
  refine e_putv (C := RX9) (T := TX9) (N := 40) E J hv rfl rfl inX9 tyX9 tyX9_ok nmX9 (by decide) q_5_28 rfl rfl rfl rfl dX9_text_7 (fun H locs J => ?_)
  refine lv_aload_n hx hb dX9_text_10 rfl (lv_at hl 0 rfl) ?_
  obtain ⟨h3, hv, hM⟩ := e_bs hM
  obtain ⟨fs_, hk, -⟩ := e_bs hv
  refine e_callV (ci := 9) (As := []) (rest := []) (n := 0) E J hk rfl (mX9_go (l := l) (G := G) l0 h2 _ hv) q_6_130 q_6_132 q_p_37 q_1_9 q_6_133 (by decide +kernel) rfl ⟨Nat.le_of_ble_eq_true rfl, Nat.le_of_ble_eq_true rfl⟩ (st0 := [.ref (e_ad G l0)]) (st1 := []) rfl rfl hl.1 (Nat.le_of_ble_eq_true rfl) dX9_text_11 ⟨Nat.le_refl _, Nat.le_refl _⟩ (fun H locs J => ?_)
  refine lv_aload_n hx hb dX9_text_14 rfl (lv_at hl 0 rfl) ?_
  obtain ⟨p4, hv, hM⟩ := e_bs hM
  obtain ⟨fs_, hk, -⟩ := e_bs hv
  refine e_callV (ci := 9) (As := []) (rest := []) (n := 0) E J hk rfl (mX9_takesKey (l := l) (G := G) l0 h3 _ hv) q_6_142 q_6_144 q_p_40 q_1_9 q_6_145 (by decide +kernel) rfl ⟨Nat.le_of_ble_eq_true rfl, Nat.le_of_ble_eq_true rfl⟩ (st0 := [.ref (e_ad G l0)]) (st1 := [.int (e_b p4.1)]) rfl rfl hl.1 (Nat.le_of_ble_eq_true rfl) dX9_text_15 ⟨Nat.le_refl _, Nat.le_refl _⟩ (fun H locs J => ?_)
  refine lv_if_eq (tgt := 32) hx hb dX9_text_18 (by decide) (fun hc => ?_) (fun hc => ?_)
  · have hM := e_ip hc hM
    exact mX9_text_b32 E l0 p4.2 hM J (lv_sub hl [0] rfl)
  · have hM := e_in hc hM
    refine lv_aload_n hx hb dX9_text_21 rfl (lv_at hl 0 rfl) ?_
    obtain ⟨p5, hv, hM⟩ := e_bs hM
    obtain ⟨fs_, hk, -⟩ := e_bs hv
    refine e_callV (ci := 9) (As := []) (rest := []) (n := 0) E J hk rfl (mX9_takesE (l := l) (G := G) l0 p4.2 _ hv) q_6_146 q_6_148 q_p_41 q_1_9 q_6_149 (by decide +kernel) rfl ⟨Nat.le_of_ble_eq_true rfl, Nat.le_of_ble_eq_true rfl⟩ (st0 := [.ref (e_ad G l0)]) (st1 := [.int (e_b p5.1)]) rfl rfl hl.1 (Nat.le_of_ble_eq_true rfl) dX9_text_22 ⟨Nat.le_refl _, Nat.le_refl _⟩ (fun H locs J => ?_)
    refine lv_if_eq (tgt := 32) hx hb dX9_text_25 (by decide) (fun hc => ?_) (fun hc => ?_)
    · have hM := e_ip hc hM
      exact mX9_text_b32 E l0 p5.2 hM J (lv_sub hl [0] rfl)
    · have hM := e_in hc hM
      refine lv_iconst (v := nI 1) hx hb dX9_text_28 (by decide) ?_
      refine lv_goto (tgt := 33) hx hb dX9_text_29 (by decide) ?_
      exact mX9_text_b33 E l0 (nI 1) p5.2 hM J (lv_sub hl [0] rfl)
set_option maxRecDepth 100000 in
set_option maxHeartbeats 4000000 in
theorem mX9_textTold {l : Launch} {G : e_G} (l0 : Nat) (l1 : Int32) (l2 : Int32) (h : e_H) (res : Int32) (hM : fX9_textTold l0 l1 l2 h = some res) : Met l yX9_textTold (e_W yX9_textTold cX9_textTold 3 (some FieldType.int)) (e_rm 1 22) (e_Pc G h [.ref (e_ad G l0), .int l1, .int l2]) (e_Q G h (some (.int res))) 0 0 (e_A G) := by
  refine Met.ofW (cc := cX9_textTold) (maxL := 3) (ret := (some FieldType.int)) (by decide) rfl ?_
  intro p e s m args below meth c s₁ B hml hv
  obtain ⟨rfl, hS, hP⟩ := hv
  have E := e_enter (own := RX9) (ret := (some FieldType.int)) B hml rfl hS hP
  have J : e_J G s h s.heap [] := ⟨hP, va_S.rf⟩
  have hl := lv_entry ([.ref (e_ad G l0), .int l1, .int l2]) (n := 3) (Nat.le_of_ble_eq_true rfl)
  rw [lg_entry_eq]
  generalize (lg_sl ([.ref (e_ad G l0), .int l1, .int l2]) ++ List.replicate (3 - (lg_sl ([.ref (e_ad G l0), .int l1, .int l2])).length) Slot.unset).toArray = ls at hl ⊢
  have hl : lv_has ls 3 [(0, .ref (e_ad G l0)), (1, .int l1), (2, .int l2)] := hl
  obtain ⟨hx, hb, hr, hml, hown, hts, hlocks, hES, hbs⟩ := id E
  unfold fX9_textTold at hM
  obtain ⟨fs_, hk_, hM⟩ := e_bs hM
  refine lv_iload_n hx hb dX9_textTold_0 rfl (lv_at hl 1 rfl) ?_
  refine lv_iconst (v := nI 0) hx hb dX9_textTold_1 (by decide) ?_
  refine lv_aload_n hx hb dX9_textTold_2 rfl (lv_at hl 0 rfl) ?_
  obtain ⟨v1, hv, hM⟩ := e_bs hM
  refine e_getR (C := RX9) (T := TX9) (N := 40) E J hv rfl inX9 (by decide) q_5_10 dX9_textTold_3 ?_
  rcases v1 with _ | a2
  · have hM := e_on0 hM
    refine W.eq (g2 := F0 m 6 ls [.null, .int (nI 0), .int l1]) rfl ?_
    refine lv_iconst (v := nI 2) hx hb dX9_textTold_6 (by decide) ?_
    exact e_no hM
  · have hM := e_on1 hM
    refine W.eq (g2 := F0 m 6 ls [.ref (e_ad G a2), .int (nI 0), .int l1]) rfl ?_
    refine lv_iconst (v := nI 2) hx hb dX9_textTold_6 (by decide) ?_
    obtain ⟨v3, hv, hM⟩ := e_bs hM
    refine e_iald E J hv dX9_textTold_7 ?_
    refine lv_iconst (v := nI 1) hx hb dX9_textTold_8 (by decide) ?_
    refine lv_isub hx hb dX9_textTold_9 ?_
    obtain ⟨v4, hv, hM⟩ := e_bs hM
    refine e_callS (As := [.int l1, .int (nI 0), .int (v3 - (nI 1))]) (rest := []) (n := 3) E J (mX9_in (l := l) (G := G) l1 (nI 0) (v3 - (nI 1)) h _ hv) q_5_137 q_5_138 q_1_9 q_5_139 (by decide +kernel) rfl ⟨Nat.le_of_ble_eq_true rfl, Nat.le_of_ble_eq_true rfl⟩ (st0 := [.int (v3 - (nI 1)), .int (nI 0), .int l1]) (st1 := [.int (e_b v4)]) rfl rfl hl.1 (Nat.le_of_ble_eq_true rfl) dX9_textTold_10 ⟨Nat.le_refl _, Nat.le_refl _⟩ (fun H locs J => ?_)
    refine lv_if_eq (tgt := 25) hx hb dX9_textTold_13 (by decide) (fun hc => ?_) (fun hc => ?_)
    · have hM := e_ip hc hM
      refine lv_ldc (v := -1000000001) hx hb hown (hts _ q_5_140) dX9_textTold_25 ?_
      obtain rfl := e_so hM
      exact e_iret E J dX9_textTold_27
    · have hM := e_in hc hM
      refine lv_iload_n hx hb dX9_textTold_16 rfl (lv_at hl 2 rfl) ?_
      refine lv_iconst (v := nI 0) hx hb dX9_textTold_17 (by decide) ?_
      refine lv_iconst (v := nI 1) hx hb dX9_textTold_18 (by decide) ?_
      obtain ⟨v5, hv, hM⟩ := e_bs hM
      refine e_callS (As := [.int l2, .int (nI 0), .int (nI 1)]) (rest := []) (n := 3) E J (mX9_in (l := l) (G := G) l2 (nI 0) (nI 1) h _ hv) q_5_137 q_5_138 q_1_9 q_5_139 (by decide +kernel) rfl ⟨Nat.le_of_ble_eq_true rfl, Nat.le_of_ble_eq_true rfl⟩ (st0 := [.int (nI 1), .int (nI 0), .int l2]) (st1 := [.int (e_b v5)]) rfl rfl hl.1 (Nat.le_of_ble_eq_true rfl) dX9_textTold_19 ⟨Nat.le_refl _, Nat.le_refl _⟩ (fun H locs J => ?_)
      refine lv_if_ne (tgt := 28) hx hb dX9_textTold_22 (by decide) (fun hc => ?_) (fun hc => ?_)
      · have hM := e_in hc hM
        refine lv_iload_n hx hb dX9_textTold_28 rfl (lv_at hl 2 rfl) ?_
        refine lv_if_ne (tgt := 50) hx hb dX9_textTold_29 (by decide) (fun hc => ?_) (fun hc => ?_)
        · have hM := e_in hc hM
          refine lv_aload_n hx hb dX9_textTold_50 rfl (lv_at hl 0 rfl) ?_
          obtain ⟨v9, hv, hM⟩ := e_bs hM
          refine e_getR (C := RX9) (T := TX9) (N := 40) E J hv rfl inX9 (by decide) q_5_10 dX9_textTold_51 ?_
          rcases v9 with _ | a10
          · have hM := e_on0 hM
            refine W.eq (g2 := F0 m 54 ls [.null]) rfl ?_
            refine lv_bipush (v := nI 99) hx hb dX9_textTold_54 (by decide) ?_
            refine lv_iconst (v := nI 2) hx hb dX9_textTold_56 (by decide) ?_
            refine lv_iload_n hx hb dX9_textTold_57 rfl (lv_at hl 1 rfl) ?_
            refine lv_imul hx hb dX9_textTold_58 ?_
            refine lv_iadd hx hb dX9_textTold_59 ?_
            refine lv_iconst (v := nI 1) hx hb dX9_textTold_60 (by decide) ?_
            refine lv_iadd hx hb dX9_textTold_61 ?_
            exact e_no hM
          · have hM := e_on1 hM
            refine W.eq (g2 := F0 m 54 ls [.ref (e_ad G a10)]) rfl ?_
            refine lv_bipush (v := nI 99) hx hb dX9_textTold_54 (by decide) ?_
            refine lv_iconst (v := nI 2) hx hb dX9_textTold_56 (by decide) ?_
            refine lv_iload_n hx hb dX9_textTold_57 rfl (lv_at hl 1 rfl) ?_
            refine lv_imul hx hb dX9_textTold_58 ?_
            refine lv_iadd hx hb dX9_textTold_59 ?_
            refine lv_iconst (v := nI 1) hx hb dX9_textTold_60 (by decide) ?_
            refine lv_iadd hx hb dX9_textTold_61 ?_
            obtain ⟨v11, hv, hM⟩ := e_bs hM
            refine e_iald E J hv dX9_textTold_62 ?_
            obtain rfl := e_so hM
            exact e_iret E J dX9_textTold_63
        · have hM := e_ip hc hM
          refine lv_aload_n hx hb dX9_textTold_32 rfl (lv_at hl 0 rfl) ?_
          obtain ⟨v6, hv, hM⟩ := e_bs hM
          refine e_getR (C := RX9) (T := TX9) (N := 40) E J hv rfl inX9 (by decide) q_5_10 dX9_textTold_33 ?_
          rcases v6 with _ | a7
          · have hM := e_on0 hM
            refine W.eq (g2 := F0 m 36 ls [.null]) rfl ?_
            refine lv_bipush (v := nI 99) hx hb dX9_textTold_36 (by decide) ?_
            refine lv_iconst (v := nI 2) hx hb dX9_textTold_38 (by decide) ?_
            refine lv_iload_n hx hb dX9_textTold_39 rfl (lv_at hl 1 rfl) ?_
            refine lv_imul hx hb dX9_textTold_40 ?_
            refine lv_iadd hx hb dX9_textTold_41 ?_
            exact e_no hM
          · have hM := e_on1 hM
            refine W.eq (g2 := F0 m 36 ls [.ref (e_ad G a7)]) rfl ?_
            refine lv_bipush (v := nI 99) hx hb dX9_textTold_36 (by decide) ?_
            refine lv_iconst (v := nI 2) hx hb dX9_textTold_38 (by decide) ?_
            refine lv_iload_n hx hb dX9_textTold_39 rfl (lv_at hl 1 rfl) ?_
            refine lv_imul hx hb dX9_textTold_40 ?_
            refine lv_iadd hx hb dX9_textTold_41 ?_
            obtain ⟨v8, hv, hM⟩ := e_bs hM
            refine e_iald E J hv dX9_textTold_42 ?_
            refine lv_sipush (v := nI 1000) hx hb dX9_textTold_43 (by decide) ?_
            refine lv_idiv hx hb dX9_textTold_46 (by decide) ?_
            refine lv_goto (tgt := 63) hx hb dX9_textTold_47 (by decide) ?_
            obtain rfl := e_so hM
            exact e_iret E J dX9_textTold_63
      · have hM := e_ip hc hM
        refine lv_ldc (v := -1000000001) hx hb hown (hts _ q_5_140) dX9_textTold_25 ?_
        obtain rfl := e_so hM
        exact e_iret E J dX9_textTold_27
set_option maxRecDepth 100000 in
set_option maxHeartbeats 4000000 in
theorem mX9_why {l : Launch} {G : e_G} (l0 : Nat) (l1 : Int32) (h : e_H) (res : Int32) (hM : fX9_why l0 l1 h = some res) : Met l yX9_why (e_W yX9_why cX9_why 3 (some FieldType.int)) (e_rm 1 22) (e_Pc G h [.ref (e_ad G l0), .int l1]) (e_Q G h (some (.int res))) 0 0 (e_A G) := by
  refine Met.ofW (cc := cX9_why) (maxL := 3) (ret := (some FieldType.int)) (by decide) rfl ?_
  intro p e s m args below meth c s₁ B hml hv
  obtain ⟨rfl, hS, hP⟩ := hv
  have E := e_enter (own := RX9) (ret := (some FieldType.int)) B hml rfl hS hP
  have J : e_J G s h s.heap [] := ⟨hP, va_S.rf⟩
  have hl := lv_entry ([.ref (e_ad G l0), .int l1]) (n := 3) (Nat.le_of_ble_eq_true rfl)
  rw [lg_entry_eq]
  generalize (lg_sl ([.ref (e_ad G l0), .int l1]) ++ List.replicate (3 - (lg_sl ([.ref (e_ad G l0), .int l1])).length) Slot.unset).toArray = ls at hl ⊢
  have hl : lv_has ls 3 [(0, .ref (e_ad G l0)), (1, .int l1)] := hl
  obtain ⟨hx, hb, hr, hml, hown, hts, hlocks, hES, hbs⟩ := id E
  unfold fX9_why at hM
  obtain ⟨fs_, hk_, hM⟩ := e_bs hM
  refine lv_iload_n hx hb dX9_why_0 rfl (lv_at hl 1 rfl) ?_
  refine lv_iconst (v := nI 0) hx hb dX9_why_1 (by decide) ?_
  refine lv_iconst (v := nI 2) hx hb dX9_why_2 (by decide) ?_
  obtain ⟨v1, hv, hM⟩ := e_bs hM
  refine e_callS (As := [.int l1, .int (nI 0), .int (nI 2)]) (rest := []) (n := 3) E J (mX9_in (l := l) (G := G) l1 (nI 0) (nI 2) h _ hv) q_5_137 q_5_138 q_1_9 q_5_139 (by decide +kernel) rfl ⟨Nat.le_of_ble_eq_true rfl, Nat.le_of_ble_eq_true rfl⟩ (st0 := [.int (nI 2), .int (nI 0), .int l1]) (st1 := [.int (e_b v1)]) rfl rfl hl.1 (Nat.le_of_ble_eq_true rfl) dX9_why_3 ⟨Nat.le_refl _, Nat.le_refl _⟩ (fun H locs J => ?_)
  refine lv_if_ne (tgt := 12) hx hb dX9_why_6 (by decide) (fun hc => ?_) (fun hc => ?_)
  · have hM := e_in hc hM
    refine lv_aload_n hx hb dX9_why_12 rfl (lv_at hl 0 rfl) ?_
    refine lv_iload_n hx hb dX9_why_13 rfl (lv_at hl 1 rfl) ?_
    obtain ⟨v2, hv, hM⟩ := e_bs hM
    obtain ⟨fs_, hk, -⟩ := e_bs hv
    refine e_callV (ci := 9) (As := [.int l1]) (rest := []) (n := 1) E J hk rfl (mX9_counts (l := l) (G := G) l0 l1 h _ hv) q_5_176 q_5_178 q_p_20 q_1_9 q_5_179 (by decide +kernel) rfl ⟨Nat.le_of_ble_eq_true rfl, Nat.le_of_ble_eq_true rfl⟩ (st0 := [.int l1, .ref (e_ad G l0)]) (st1 := [.int v2]) rfl rfl hl.1 (Nat.le_of_ble_eq_true rfl) dX9_why_14 ⟨Nat.le_refl _, Nat.le_refl _⟩ (fun H locs J => ?_)
    refine lv_istore_n (lv' := [(2, .int v2), (0, .ref (e_ad G l0)), (1, .int l1)]) hx hb dX9_why_17 rfl hl (by decide) rfl (fun ls hl => ?_)
    refine lv_iload_n hx hb dX9_why_18 rfl (lv_at hl 0 rfl) ?_
    refine lv_if_ge (tgt := 27) hx hb dX9_why_19 (by decide) (fun hc => ?_) (fun hc => ?_)
    · have hM := e_ip hc hM
      refine lv_iload_n hx hb dX9_why_27 rfl (lv_at hl 0 rfl) ?_
      obtain rfl := e_so hM
      exact e_iret E J dX9_why_28
    · have hM := e_in hc hM
      refine lv_ldc (v := -1000000005) hx hb hown (hts _ q_6_90) dX9_why_22 ?_
      refine lv_goto (tgt := 28) hx hb dX9_why_24 (by decide) ?_
      obtain rfl := e_so hM
      exact e_iret E J dX9_why_28
  · have hM := e_ip hc hM
    refine lv_ldc (v := -1000000001) hx hb hown (hts _ q_5_140) dX9_why_9 ?_
    obtain rfl := e_so hM
    exact e_iret E J dX9_why_11
set_option maxRecDepth 100000 in
set_option maxHeartbeats 4000000 in
theorem mX9_isSheet {l : Launch} {G : e_G} (l0 : Int32) (h : e_H) (res : Bool) (hM : fX9_isSheet l0 = some res) : Met l yX9_isSheet (e_W yX9_isSheet cX9_isSheet 1 (some FieldType.boolean)) (e_rm 1 22) (e_Pc G h [.int l0]) (e_Q G h (some (.int (e_b res)))) 0 0 (e_A G) := by
  refine Met.ofW (cc := cX9_isSheet) (maxL := 1) (ret := (some FieldType.boolean)) (by decide) rfl ?_
  intro p e s m args below meth c s₁ B hml hv
  obtain ⟨rfl, hS, hP⟩ := hv
  have E := e_enter (own := RX9) (ret := (some FieldType.boolean)) B hml rfl hS hP
  have J : e_J G s h s.heap [] := ⟨hP, va_S.rf⟩
  have hl := lv_entry ([.int l0]) (n := 1) (Nat.le_of_ble_eq_true rfl)
  rw [lg_entry_eq]
  generalize (lg_sl ([.int l0]) ++ List.replicate (1 - (lg_sl ([.int l0])).length) Slot.unset).toArray = ls at hl ⊢
  have hl : lv_has ls 1 [(0, .int l0)] := hl
  obtain ⟨hx, hb, hr, hml, hown, hts, hlocks, hES, hbs⟩ := id E
  unfold fX9_isSheet at hM
  refine lv_iload_n hx hb dX9_isSheet_0 rfl (lv_at hl 0 rfl) ?_
  refine lv_iconst (v := nI 0) hx hb dX9_isSheet_1 (by decide) ?_
  refine lv_iconst (v := nI 3) hx hb dX9_isSheet_2 (by decide) ?_
  obtain ⟨v1, hv, hM⟩ := e_bs hM
  refine e_callS (As := [.int l0, .int (nI 0), .int (nI 3)]) (rest := []) (n := 3) E J (mX9_in (l := l) (G := G) l0 (nI 0) (nI 3) h _ hv) q_5_137 q_5_138 q_1_9 q_5_139 (by decide +kernel) rfl ⟨Nat.le_of_ble_eq_true rfl, Nat.le_of_ble_eq_true rfl⟩ (st0 := [.int (nI 3), .int (nI 0), .int l0]) (st1 := [.int (e_b v1)]) rfl rfl hl.1 (Nat.le_of_ble_eq_true rfl) dX9_isSheet_3 ⟨Nat.le_refl _, Nat.le_refl _⟩ (fun H locs J => ?_)
  obtain rfl := e_so hM
  exact e_zret E J (v1) rfl dX9_isSheet_6
set_option maxRecDepth 100000 in
set_option maxHeartbeats 4000000 in
theorem mX9_sheet_b62 {p : Program} {l : Launch} {e : Env} {s : State} {m : MethodId} {args : Array Value} {below : List Frame} {meth : Method} {c : Code} {G : e_G} {res : (Int32 × e_H)} (E : e_M G p s args m meth c cX9_sheet 5 (some FieldType.int) RX9) (l0 : Nat) (l1 : Int32) (t0 : Int32) (t1 : Int32) (h : e_H) (hM : fX9_sheet_b62 l0 l1 t0 t1 h = some res) {H : Heap} {locs : List Loc} (J : e_J G s h H locs) {ls : Array Slot} (hl : lv_has ls 5 [(0, .ref (e_ad G l0)), (1, .int l1)]) : W p l e (e_rm 2 42) s m args below meth c H locs 0 0 (MQ below (e_Q G res.2 (some (.int res.1))) args s 0 0 (e_A G)) (F0 m 62 ls [.int t0, .int t1, .null]) := by
  obtain ⟨hx, hb, hr, hml, hown, hts, hlocks, hES, hbs⟩ := id E
  unfold fX9_sheet_b62 at hM
  exact e_no hM
set_option maxRecDepth 100000 in
set_option maxHeartbeats 4000000 in
theorem mX9_sheet_b66 {p : Program} {l : Launch} {e : Env} {s : State} {m : MethodId} {args : Array Value} {below : List Frame} {meth : Method} {c : Code} {G : e_G} {res : (Int32 × e_H)} {k66 : Nat → Int32 → Int32 → e_H → Option (Int32 × e_H)} (E : e_M G p s args m meth c cX9_sheet 5 (some FieldType.int) RX9) (K66 : ∀ (l0 : Nat) (l1 : Int32) (l4 : Int32) (h : e_H), k66 l0 l1 l4 h = some res → ∀ (H : Heap) (locs : List Loc), e_J G s h H locs → ∀ (ls : Array Slot), lv_has ls 5 [(0, .ref (e_ad G l0)), (1, .int l1), (4, .int l4)] → W p l e (e_rm 2 42) s m args below meth c H locs 0 0 (MQ below (e_Q G res.2 (some (.int res.1))) args s 0 0 (e_A G)) (F0 m 66 ls [])) (l0 : Nat) (l1 : Int32) (l4 : Int32) (h : e_H) (hM : fX9_sheet_b66 k66 l0 l1 l4 h = some res) {H : Heap} {locs : List Loc} (J : e_J G s h H locs) {ls : Array Slot} (hl : lv_has ls 5 [(0, .ref (e_ad G l0)), (1, .int l1), (4, .int l4)]) : W p l e (e_rm 2 42) s m args below meth c H locs 0 0 (MQ below (e_Q G res.2 (some (.int res.1))) args s 0 0 (e_A G)) (F0 m 66 ls []) := by
  obtain ⟨hx, hb, hr, hml, hown, hts, hlocks, hES, hbs⟩ := id E
  unfold fX9_sheet_b66 at hM
  refine lv_iload hx hb dX9_sheet_66 (lv_at hl 2 rfl) ?_
  refine lv_bipush (v := nI 24) hx hb dX9_sheet_68 (by decide) ?_
  refine lv_icmp_ge (tgt := 92) hx hb dX9_sheet_70 (by decide) (fun hc => ?_) (fun hc => ?_)
  · have hM := e_ip hc hM
    refine lv_aload_n hx hb dX9_sheet_92 rfl (lv_at hl 0 rfl) ?_
    obtain ⟨v1, hv, hM⟩ := e_bs hM
    refine e_getR (C := RX9) (T := TX9) (N := 40) E J hv rfl inX9 (by decide) q_5_41 dX9_sheet_93 ?_
    rcases v1 with _ | a2
    · have hM := e_on0 hM
      refine W.eq (g2 := F0 m 96 ls [.null]) rfl ?_
      refine lv_iload_n hx hb dX9_sheet_96 rfl (lv_at hl 1 rfl) ?_
      exact e_no hM
    · have hM := e_on1 hM
      refine W.eq (g2 := F0 m 96 ls [.ref (e_ad G a2)]) rfl ?_
      refine lv_iload_n hx hb dX9_sheet_96 rfl (lv_at hl 1 rfl) ?_
      obtain ⟨v3, hv, hM⟩ := e_bs hM
      refine e_iald E J hv dX9_sheet_97 ?_
      obtain rfl := e_so hM
      exact e_iret E J dX9_sheet_98
  · have hM := e_in hc hM
    refine lv_aload_n hx hb dX9_sheet_73 rfl (lv_at hl 0 rfl) ?_
    obtain ⟨v4, hv, hM⟩ := e_bs hM
    refine e_getR (C := RX9) (T := TX9) (N := 40) E J hv rfl inX9 (by decide) q_5_42 dX9_sheet_74 ?_
    rcases v4 with _ | a5
    · have hM := e_on0 hM
      refine W.eq (g2 := F0 m 77 ls [.null]) rfl ?_
      refine lv_bipush (v := nI 24) hx hb dX9_sheet_77 (by decide) ?_
      refine lv_iload_n hx hb dX9_sheet_79 rfl (lv_at hl 1 rfl) ?_
      refine lv_imul hx hb dX9_sheet_80 ?_
      refine lv_iload hx hb dX9_sheet_81 (lv_at hl 2 rfl) ?_
      refine lv_iadd hx hb dX9_sheet_83 ?_
      refine lv_iconst (v := nI 0) hx hb dX9_sheet_84 (by decide) ?_
      exact e_no hM
    · have hM := e_on1 hM
      refine W.eq (g2 := F0 m 77 ls [.ref (e_ad G a5)]) rfl ?_
      refine lv_bipush (v := nI 24) hx hb dX9_sheet_77 (by decide) ?_
      refine lv_iload_n hx hb dX9_sheet_79 rfl (lv_at hl 1 rfl) ?_
      refine lv_imul hx hb dX9_sheet_80 ?_
      refine lv_iload hx hb dX9_sheet_81 (lv_at hl 2 rfl) ?_
      refine lv_iadd hx hb dX9_sheet_83 ?_
      refine lv_iconst (v := nI 0) hx hb dX9_sheet_84 (by decide) ?_
      obtain ⟨h7, hv, hM⟩ := e_bs hM
      refine e_iast E J hv dX9_sheet_85 (fun H locs J => ?_)
      refine lv_iinc (v := (l4 + (nI 1))) (lv' := [(4, .int (l4 + (nI 1))), (0, .ref (e_ad G l0)), (1, .int l1)]) hx hb dX9_sheet_86 hl (k := 2) rfl rfl (by decide) rfl (fun ls hl => ?_)
      refine lv_goto (tgt := 66) hx hb dX9_sheet_89 (by decide) ?_
      exact K66 l0 l1 (l4 + (nI 1)) h7 hM _ _ J _ (lv_sub hl [1, 2, 0] rfl)
set_option maxRecDepth 100000 in
set_option maxHeartbeats 4000000 in
theorem mX9_sheet_L66 {p : Program} {l : Launch} {e : Env} {s : State} {m : MethodId} {args : Array Value} {below : List Frame} {meth : Method} {c : Code} {G : e_G} {res : (Int32 × e_H)} (E : e_M G p s args m meth c cX9_sheet 5 (some FieldType.int) RX9) (n : Nat) (l0 : Nat) (l1 : Int32) (l4 : Int32) (h : e_H) (hM : fX9_sheet_L66 n l0 l1 l4 h = some res) {H : Heap} {locs : List Loc} (J : e_J G s h H locs) {ls : Array Slot} (hl : lv_has ls 5 [(0, .ref (e_ad G l0)), (1, .int l1), (4, .int l4)]) : W p l e (e_rm 2 42) s m args below meth c H locs 0 0 (MQ below (e_Q G res.2 (some (.int res.1))) args s 0 0 (e_A G)) (F0 m 66 ls []) := by
  induction n generalizing l0 l1 l4 h H locs ls with
  | zero => exact e_no hM
  | succ n ih => exact mX9_sheet_b66 (k66 := (fX9_sheet_L66 n)) E   (fun l0 l1 l4 h hM H locs J ls hl => ih l0 l1 l4 h hM J hl) l0 l1 l4 h hM J hl
set_option maxRecDepth 100000 in
set_option maxHeartbeats 4000000 in
theorem mX9_sheet_b62x1 {p : Program} {l : Launch} {e : Env} {s : State} {m : MethodId} {args : Array Value} {below : List Frame} {meth : Method} {c : Code} {G : e_G} {res : (Int32 × e_H)} (E : e_M G p s args m meth c cX9_sheet 5 (some FieldType.int) RX9) (l0 : Nat) (l1 : Int32) (t0 : Int32) (t1 : Int32) (t2 : Nat) (h : e_H) (hM : fX9_sheet_b62x1 l0 l1 t0 t1 t2 h = some res) {H : Heap} {locs : List Loc} (J : e_J G s h H locs) {ls : Array Slot} (hl : lv_has ls 5 [(0, .ref (e_ad G l0)), (1, .int l1)]) : W p l e (e_rm 2 42) s m args below meth c H locs 0 0 (MQ below (e_Q G res.2 (some (.int res.1))) args s 0 0 (e_A G)) (F0 m 62 ls [.int t0, .int t1, .ref (e_ad G t2)]) := by
  obtain ⟨hx, hb, hr, hml, hown, hts, hlocks, hES, hbs⟩ := id E
  unfold fX9_sheet_b62x1 at hM
  obtain ⟨h1, hv, hM⟩ := e_bs hM
  refine e_iast E J hv dX9_sheet_62 (fun H locs J => ?_)
  refine lv_iconst (v := nI 0) hx hb dX9_sheet_63 (by decide) ?_
  refine lv_istore (lv' := [(4, .int (nI 0)), (0, .ref (e_ad G l0)), (1, .int l1)]) hx hb dX9_sheet_64 hl (by decide) rfl (fun ls hl => ?_)
  exact mX9_sheet_L66 E 200 l0 l1 (nI 0) h1 hM J (lv_sub hl [1, 2, 0] rfl)
set_option maxRecDepth 100000 in
set_option maxHeartbeats 4000000 in
theorem mX9_sheet_b41 {p : Program} {l : Launch} {e : Env} {s : State} {m : MethodId} {args : Array Value} {below : List Frame} {meth : Method} {c : Code} {G : e_G} {res : (Int32 × e_H)} (E : e_M G p s args m meth c cX9_sheet 5 (some FieldType.int) RX9) (l0 : Nat) (l1 : Int32) (l2 : Int32) (l3 : Int32) (h : e_H) (hM : fX9_sheet_b41 l0 l1 l2 l3 h = some res) {H : Heap} {locs : List Loc} (J : e_J G s h H locs) {ls : Array Slot} (hl : lv_has ls 5 [(0, .ref (e_ad G l0)), (1, .int l1), (2, .int l2), (3, .int l3)]) : W p l e (e_rm 2 42) s m args below meth c H locs 0 0 (MQ below (e_Q G res.2 (some (.int res.1))) args s 0 0 (e_A G)) (F0 m 41 ls []) := by
  obtain ⟨hx, hb, hr, hml, hown, hts, hlocks, hES, hbs⟩ := id E
  unfold fX9_sheet_b41 at hM
  refine lv_aload_n hx hb dX9_sheet_41 rfl (lv_at hl 0 rfl) ?_
  obtain ⟨v1, hv, hM⟩ := e_bs hM
  refine e_getR (C := RX9) (T := TX9) (N := 40) E J hv rfl inX9 (by decide) q_5_40 dX9_sheet_42 ?_
  rcases v1 with _ | a2
  · have hM := e_on0 hM
    refine W.eq (g2 := F0 m 45 ls [.null]) rfl ?_
    refine lv_iload_n hx hb dX9_sheet_45 rfl (lv_at hl 1 rfl) ?_
    refine lv_iload_n hx hb dX9_sheet_46 rfl (lv_at hl 2 rfl) ?_
    exact e_no hM
  · have hM := e_on1 hM
    refine W.eq (g2 := F0 m 45 ls [.ref (e_ad G a2)]) rfl ?_
    refine lv_iload_n hx hb dX9_sheet_45 rfl (lv_at hl 1 rfl) ?_
    refine lv_iload_n hx hb dX9_sheet_46 rfl (lv_at hl 2 rfl) ?_
    obtain ⟨h4, hv, hM⟩ := e_bs hM
    refine e_iast E J hv dX9_sheet_47 (fun H locs J => ?_)
    refine lv_aload_n hx hb dX9_sheet_48 rfl (lv_at hl 0 rfl) ?_
    obtain ⟨v5, hv, hM⟩ := e_bs hM
    refine e_getR (C := RX9) (T := TX9) (N := 40) E J hv rfl inX9 (by decide) q_5_41 dX9_sheet_49 ?_
    rcases v5 with _ | a6
    · have hM := e_on0 hM
      refine W.eq (g2 := F0 m 52 ls [.null]) rfl ?_
      refine lv_iload_n hx hb dX9_sheet_52 rfl (lv_at hl 1 rfl) ?_
      refine lv_iload_n hx hb dX9_sheet_53 rfl (lv_at hl 2 rfl) ?_
      refine lv_if_ge (tgt := 61) hx hb dX9_sheet_54 (by decide) (fun hc => ?_) (fun hc => ?_)
      · have hM := e_ip hc hM
        refine lv_iload_n hx hb dX9_sheet_61 rfl (lv_at hl 3 rfl) ?_
        exact mX9_sheet_b62 E l0 l1 l3 l1 h4 hM J (lv_sub hl [0, 1] rfl)
      · have hM := e_in hc hM
        refine lv_iconst (v := nI 0) hx hb dX9_sheet_57 (by decide) ?_
        refine lv_goto (tgt := 62) hx hb dX9_sheet_58 (by decide) ?_
        exact mX9_sheet_b62 E l0 l1 (nI 0) l1 h4 hM J (lv_sub hl [0, 1] rfl)
    · have hM := e_on1 hM
      refine W.eq (g2 := F0 m 52 ls [.ref (e_ad G a6)]) rfl ?_
      refine lv_iload_n hx hb dX9_sheet_52 rfl (lv_at hl 1 rfl) ?_
      refine lv_iload_n hx hb dX9_sheet_53 rfl (lv_at hl 2 rfl) ?_
      refine lv_if_ge (tgt := 61) hx hb dX9_sheet_54 (by decide) (fun hc => ?_) (fun hc => ?_)
      · have hM := e_ip hc hM
        refine lv_iload_n hx hb dX9_sheet_61 rfl (lv_at hl 3 rfl) ?_
        exact mX9_sheet_b62x1 E l0 l1 l3 l1 a6 h4 hM J (lv_sub hl [0, 1] rfl)
      · have hM := e_in hc hM
        refine lv_iconst (v := nI 0) hx hb dX9_sheet_57 (by decide) ?_
        refine lv_goto (tgt := 62) hx hb dX9_sheet_58 (by decide) ?_
        exact mX9_sheet_b62x1 E l0 l1 (nI 0) l1 a6 h4 hM J (lv_sub hl [0, 1] rfl)
set_option maxRecDepth 100000 in
set_option maxHeartbeats 4000000 in
theorem mX9_sheet_b29 {p : Program} {l : Launch} {e : Env} {s : State} {m : MethodId} {args : Array Value} {below : List Frame} {meth : Method} {c : Code} {G : e_G} {res : (Int32 × e_H)} (E : e_M G p s args m meth c cX9_sheet 5 (some FieldType.int) RX9) (l0 : Nat) (l1 : Int32) (l2 : Int32) (l3 : Int32) (h : e_H) (hM : fX9_sheet_b29 l0 l1 l2 l3 h = some res) {H : Heap} {locs : List Loc} (J : e_J G s h H locs) {ls : Array Slot} (hl : lv_has ls 5 [(0, .ref (e_ad G l0)), (1, .int l1), (2, .int l2), (3, .int l3)]) : W p l e (e_rm 2 42) s m args below meth c H locs 0 0 (MQ below (e_Q G res.2 (some (.int res.1))) args s 0 0 (e_A G)) (F0 m 29 ls []) := by
  obtain ⟨hx, hb, hr, hml, hown, hts, hlocks, hES, hbs⟩ := id E
  unfold fX9_sheet_b29 at hM
  refine lv_iload_n hx hb dX9_sheet_29 rfl (lv_at hl 2 rfl) ?_
  refine lv_if_lt (tgt := 41) hx hb dX9_sheet_30 (by decide) (fun hc => ?_) (fun hc => ?_)
  · have hM := e_ip hc hM
    exact mX9_sheet_b41 E l0 l1 l2 l3 h hM J (lv_sub hl [0, 1, 2, 3] rfl)
  · have hM := e_in hc hM
    refine lv_iload_n hx hb dX9_sheet_33 rfl (lv_at hl 3 rfl) ?_
    refine lv_if_ge (tgt := 41) hx hb dX9_sheet_34 (by decide) (fun hc => ?_) (fun hc => ?_)
    · have hM := e_ip hc hM
      exact mX9_sheet_b41 E l0 l1 l2 l3 h hM J (lv_sub hl [0, 1, 2, 3] rfl)
    · have hM := e_in hc hM
      refine lv_ldcw (v := -1000000014) hx hb hown (hts _ q_6_188) dX9_sheet_37 ?_
      obtain rfl := e_so hM
      exact e_iret E J dX9_sheet_40
set_option maxRecDepth 100000 in
set_option maxHeartbeats 4000000 in
theorem mX9_sheet {l : Launch} {G : e_G} (l0 : Nat) (l1 : Int32) (l2 : Int32) (l3 : Int32) (h : e_H) (res : (Int32 × e_H)) (hM : fX9_sheet l0 l1 l2 l3 h = some res) : Met l yX9_sheet (e_W yX9_sheet cX9_sheet 5 (some FieldType.int)) (e_rm 2 42) (e_Pc G h [.ref (e_ad G l0), .int l1, .int l2, .int l3]) (e_Q G res.2 (some (.int res.1))) 0 0 (e_A G) := by
  refine Met.ofW (cc := cX9_sheet) (maxL := 5) (ret := (some FieldType.int)) (by decide) rfl ?_
  intro p e s m args below meth c s₁ B hml hv
  obtain ⟨rfl, hS, hP⟩ := hv
  have E := e_enter (own := RX9) (ret := (some FieldType.int)) B hml rfl hS hP
  have J : e_J G s h s.heap [] := ⟨hP, va_S.rf⟩
  have hl := lv_entry ([.ref (e_ad G l0), .int l1, .int l2, .int l3]) (n := 5) (Nat.le_of_ble_eq_true rfl)
  rw [lg_entry_eq]
  generalize (lg_sl ([.ref (e_ad G l0), .int l1, .int l2, .int l3]) ++ List.replicate (5 - (lg_sl ([.ref (e_ad G l0), .int l1, .int l2, .int l3])).length) Slot.unset).toArray = ls at hl ⊢
  have hl : lv_has ls 5 [(0, .ref (e_ad G l0)), (1, .int l1), (2, .int l2), (3, .int l3)] := hl
  obtain ⟨hx, hb, hr, hml, hown, hts, hlocks, hES, hbs⟩ := id E
  unfold fX9_sheet at hM
  obtain ⟨fs_, hk_, hM⟩ := e_bs hM
  refine lv_iload_n hx hb dX9_sheet_0 rfl (lv_at hl 1 rfl) ?_
  obtain ⟨v1, hv, hM⟩ := e_bs hM
  refine e_callS (As := [.int l1]) (rest := []) (n := 1) E J (mX9_isSheet (l := l) (G := G) l1 h _ hv) q_6_185 q_6_186 q_1_9 q_6_187 (by decide +kernel) rfl ⟨Nat.le_of_ble_eq_true rfl, Nat.le_of_ble_eq_true rfl⟩ (st0 := [.int l1]) (st1 := [.int (e_b v1)]) rfl rfl hl.1 (Nat.le_of_ble_eq_true rfl) dX9_sheet_1 ⟨Nat.le_refl _, Nat.le_refl _⟩ (fun H locs J => ?_)
  refine lv_if_eq (tgt := 26) hx hb dX9_sheet_4 (by decide) (fun hc => ?_) (fun hc => ?_)
  · have hM := e_ip hc hM
    refine lv_ldc (v := -1000000001) hx hb hown (hts _ q_5_140) dX9_sheet_26 ?_
    obtain rfl := e_so hM
    exact e_iret E J dX9_sheet_28
  · have hM := e_in hc hM
    refine lv_iload_n hx hb dX9_sheet_7 rfl (lv_at hl 2 rfl) ?_
    refine lv_iconst (v := -1) hx hb dX9_sheet_8 (by decide) ?_
    refine lv_iconst (v := nI 1) hx hb dX9_sheet_9 (by decide) ?_
    obtain ⟨v2, hv, hM⟩ := e_bs hM
    refine e_callS (As := [.int l2, .int (-1 : Int32), .int (nI 1)]) (rest := []) (n := 3) E J (mX9_in (l := l) (G := G) l2 (-1 : Int32) (nI 1) h _ hv) q_5_137 q_5_138 q_1_9 q_5_139 (by decide +kernel) rfl ⟨Nat.le_of_ble_eq_true rfl, Nat.le_of_ble_eq_true rfl⟩ (st0 := [.int (nI 1), .int (-1 : Int32), .int l2]) (st1 := [.int (e_b v2)]) rfl rfl hl.1 (Nat.le_of_ble_eq_true rfl) dX9_sheet_10 ⟨Nat.le_refl _, Nat.le_refl _⟩ (fun H locs J => ?_)
    refine lv_if_eq (tgt := 26) hx hb dX9_sheet_13 (by decide) (fun hc => ?_) (fun hc => ?_)
    · have hM := e_ip hc hM
      refine lv_ldc (v := -1000000001) hx hb hown (hts _ q_5_140) dX9_sheet_26 ?_
      obtain rfl := e_so hM
      exact e_iret E J dX9_sheet_28
    · have hM := e_in hc hM
      refine lv_iload_n hx hb dX9_sheet_16 rfl (lv_at hl 2 rfl) ?_
      refine lv_if_lt (tgt := 29) hx hb dX9_sheet_17 (by decide) (fun hc => ?_) (fun hc => ?_)
      · have hM := e_ip hc hM
        exact mX9_sheet_b29 E l0 l1 l2 l3 h hM J (lv_sub hl [0, 1, 2, 3] rfl)
      · have hM := e_in hc hM
        refine lv_iload_n hx hb dX9_sheet_20 rfl (lv_at hl 3 rfl) ?_
        refine lv_bipush (v := nI 24) hx hb dX9_sheet_21 (by decide) ?_
        refine lv_icmp_le (tgt := 29) hx hb dX9_sheet_23 (by decide) (fun hc => ?_) (fun hc => ?_)
        · have hM := e_ip hc hM
          exact mX9_sheet_b29 E l0 l1 l2 l3 h hM J (lv_sub hl [0, 1, 2, 3] rfl)
        · have hM := e_in hc hM
          refine lv_ldc (v := -1000000001) hx hb hown (hts _ q_5_140) dX9_sheet_26 ?_
          obtain rfl := e_so hM
          exact e_iret E J dX9_sheet_28
set_option maxRecDepth 100000 in
set_option maxHeartbeats 4000000 in
theorem mX9_mark_b118 {p : Program} {l : Launch} {e : Env} {s : State} {m : MethodId} {args : Array Value} {below : List Frame} {meth : Method} {c : Code} {G : e_G} {res : (Int32 × e_H)} (E : e_M G p s args m meth c cX9_mark 4 (some FieldType.int) RX9) (t0 : Int32) (t1 : Int32) (h : e_H) (hM : fX9_mark_b118 t0 t1 h = some res) {H : Heap} {locs : List Loc} (J : e_J G s h H locs) {ls : Array Slot} (hl : lv_has ls 4 []) : W p l e (e_rm 2 42) s m args below meth c H locs 0 0 (MQ below (e_Q G res.2 (some (.int res.1))) args s 0 0 (e_A G)) (F0 m 118 ls [.int t0, .int t1, .null]) := by
  obtain ⟨hx, hb, hr, hml, hown, hts, hlocks, hES, hbs⟩ := id E
  unfold fX9_mark_b118 at hM
  exact e_no hM
set_option maxRecDepth 100000 in
set_option maxHeartbeats 4000000 in
theorem mX9_mark_b118x1 {p : Program} {l : Launch} {e : Env} {s : State} {m : MethodId} {args : Array Value} {below : List Frame} {meth : Method} {c : Code} {G : e_G} {res : (Int32 × e_H)} (E : e_M G p s args m meth c cX9_mark 4 (some FieldType.int) RX9) (t0 : Int32) (t1 : Int32) (t2 : Nat) (h : e_H) (hM : fX9_mark_b118x1 t0 t1 t2 h = some res) {H : Heap} {locs : List Loc} (J : e_J G s h H locs) {ls : Array Slot} (hl : lv_has ls 4 []) : W p l e (e_rm 2 42) s m args below meth c H locs 0 0 (MQ below (e_Q G res.2 (some (.int res.1))) args s 0 0 (e_A G)) (F0 m 118 ls [.int t0, .int t1, .ref (e_ad G t2)]) := by
  obtain ⟨hx, hb, hr, hml, hown, hts, hlocks, hES, hbs⟩ := id E
  unfold fX9_mark_b118x1 at hM
  obtain ⟨h1, hv, hM⟩ := e_bs hM
  refine e_iast E J hv dX9_mark_118 (fun H locs J => ?_)
  refine lv_iconst (v := nI 1) hx hb dX9_mark_119 (by decide) ?_
  obtain rfl := e_so hM
  exact e_iret E J dX9_mark_120
set_option maxRecDepth 100000 in
set_option maxHeartbeats 4000000 in
theorem mX9_mark_b93 {p : Program} {l : Launch} {e : Env} {s : State} {m : MethodId} {args : Array Value} {below : List Frame} {meth : Method} {c : Code} {G : e_G} {res : (Int32 × e_H)} (E : e_M G p s args m meth c cX9_mark 4 (some FieldType.int) RX9) (l0 : Nat) (l1 : Int32) (l2 : Int32) (l3 : Int32) (h : e_H) (hM : fX9_mark_b93 l0 l1 l2 l3 h = some res) {H : Heap} {locs : List Loc} (J : e_J G s h H locs) {ls : Array Slot} (hl : lv_has ls 4 [(0, .ref (e_ad G l0)), (1, .int l1), (2, .int l2), (3, .int l3)]) : W p l e (e_rm 2 42) s m args below meth c H locs 0 0 (MQ below (e_Q G res.2 (some (.int res.1))) args s 0 0 (e_A G)) (F0 m 93 ls []) := by
  obtain ⟨hx, hb, hr, hml, hown, hts, hlocks, hES, hbs⟩ := id E
  unfold fX9_mark_b93 at hM
  refine lv_aload_n hx hb dX9_mark_93 rfl (lv_at hl 0 rfl) ?_
  obtain ⟨v1, hv, hM⟩ := e_bs hM
  refine e_getR (C := RX9) (T := TX9) (N := 40) E J hv rfl inX9 (by decide) q_5_42 dX9_mark_94 ?_
  rcases v1 with _ | a2
  · have hM := e_on0 hM
    refine W.eq (g2 := F0 m 97 ls [.null]) rfl ?_
    refine lv_bipush (v := nI 24) hx hb dX9_mark_97 (by decide) ?_
    refine lv_iload_n hx hb dX9_mark_99 rfl (lv_at hl 1 rfl) ?_
    refine lv_imul hx hb dX9_mark_100 ?_
    refine lv_iload_n hx hb dX9_mark_101 rfl (lv_at hl 2 rfl) ?_
    refine lv_iadd hx hb dX9_mark_102 ?_
    refine lv_aload_n hx hb dX9_mark_103 rfl (lv_at hl 0 rfl) ?_
    obtain ⟨v3, hv, hM⟩ := e_bs hM
    refine e_getR (C := RX9) (T := TX9) (N := 40) E J hv rfl inX9 (by decide) q_5_40 dX9_mark_104 ?_
    rcases v3 with _ | a4
    · have hM := e_on0 hM
      refine W.eq (g2 := F0 m 107 ls [.null, .int (((nI 24) * l1) + l2), .null]) rfl ?_
      refine lv_iload_n hx hb dX9_mark_107 rfl (lv_at hl 1 rfl) ?_
      exact e_no hM
    · have hM := e_on1 hM
      refine W.eq (g2 := F0 m 107 ls [.ref (e_ad G a4), .int (((nI 24) * l1) + l2), .null]) rfl ?_
      refine lv_iload_n hx hb dX9_mark_107 rfl (lv_at hl 1 rfl) ?_
      obtain ⟨v5, hv, hM⟩ := e_bs hM
      refine e_iald E J hv dX9_mark_108 ?_
      refine lv_if_ne (tgt := 117) hx hb dX9_mark_109 (by decide) (fun hc => ?_) (fun hc => ?_)
      · have hM := e_in hc hM
        refine lv_iload_n hx hb dX9_mark_117 rfl (lv_at hl 3 rfl) ?_
        exact mX9_mark_b118 E l3 (((nI 24) * l1) + l2) h hM J (lv_sub hl [] rfl)
      · have hM := e_ip hc hM
        refine lv_iload_n hx hb dX9_mark_112 rfl (lv_at hl 3 rfl) ?_
        refine lv_i2s hx hb dX9_mark_113 rfl ?_
        refine lv_goto (tgt := 118) hx hb dX9_mark_114 (by decide) ?_
        exact mX9_mark_b118 E (l3).toInt16.toInt32 (((nI 24) * l1) + l2) h hM J (lv_sub hl [] rfl)
  · have hM := e_on1 hM
    refine W.eq (g2 := F0 m 97 ls [.ref (e_ad G a2)]) rfl ?_
    refine lv_bipush (v := nI 24) hx hb dX9_mark_97 (by decide) ?_
    refine lv_iload_n hx hb dX9_mark_99 rfl (lv_at hl 1 rfl) ?_
    refine lv_imul hx hb dX9_mark_100 ?_
    refine lv_iload_n hx hb dX9_mark_101 rfl (lv_at hl 2 rfl) ?_
    refine lv_iadd hx hb dX9_mark_102 ?_
    refine lv_aload_n hx hb dX9_mark_103 rfl (lv_at hl 0 rfl) ?_
    obtain ⟨v6, hv, hM⟩ := e_bs hM
    refine e_getR (C := RX9) (T := TX9) (N := 40) E J hv rfl inX9 (by decide) q_5_40 dX9_mark_104 ?_
    rcases v6 with _ | a7
    · have hM := e_on0 hM
      refine W.eq (g2 := F0 m 107 ls [.null, .int (((nI 24) * l1) + l2), .ref (e_ad G a2)]) rfl ?_
      refine lv_iload_n hx hb dX9_mark_107 rfl (lv_at hl 1 rfl) ?_
      exact e_no hM
    · have hM := e_on1 hM
      refine W.eq (g2 := F0 m 107 ls [.ref (e_ad G a7), .int (((nI 24) * l1) + l2), .ref (e_ad G a2)]) rfl ?_
      refine lv_iload_n hx hb dX9_mark_107 rfl (lv_at hl 1 rfl) ?_
      obtain ⟨v8, hv, hM⟩ := e_bs hM
      refine e_iald E J hv dX9_mark_108 ?_
      refine lv_if_ne (tgt := 117) hx hb dX9_mark_109 (by decide) (fun hc => ?_) (fun hc => ?_)
      · have hM := e_in hc hM
        refine lv_iload_n hx hb dX9_mark_117 rfl (lv_at hl 3 rfl) ?_
        exact mX9_mark_b118x1 E l3 (((nI 24) * l1) + l2) a2 h hM J (lv_sub hl [] rfl)
      · have hM := e_ip hc hM
        refine lv_iload_n hx hb dX9_mark_112 rfl (lv_at hl 3 rfl) ?_
        refine lv_i2s hx hb dX9_mark_113 rfl ?_
        refine lv_goto (tgt := 118) hx hb dX9_mark_114 (by decide) ?_
        exact mX9_mark_b118x1 E (l3).toInt16.toInt32 (((nI 24) * l1) + l2) a2 h hM J (lv_sub hl [] rfl)
set_option maxRecDepth 100000 in
set_option maxHeartbeats 4000000 in
theorem mX9_mark_b61 {p : Program} {l : Launch} {e : Env} {s : State} {m : MethodId} {args : Array Value} {below : List Frame} {meth : Method} {c : Code} {G : e_G} {res : (Int32 × e_H)} (E : e_M G p s args m meth c cX9_mark 4 (some FieldType.int) RX9) (l0 : Nat) (l1 : Int32) (l2 : Int32) (l3 : Int32) (h : e_H) (hM : fX9_mark_b61 l0 l1 l2 l3 h = some res) {H : Heap} {locs : List Loc} (J : e_J G s h H locs) {ls : Array Slot} (hl : lv_has ls 4 [(0, .ref (e_ad G l0)), (1, .int l1), (2, .int l2), (3, .int l3)]) : W p l e (e_rm 2 42) s m args below meth c H locs 0 0 (MQ below (e_Q G res.2 (some (.int res.1))) args s 0 0 (e_A G)) (F0 m 61 ls []) := by
  obtain ⟨hx, hb, hr, hml, hown, hts, hlocks, hES, hbs⟩ := id E
  unfold fX9_mark_b61 at hM
  refine lv_aload_n hx hb dX9_mark_61 rfl (lv_at hl 0 rfl) ?_
  obtain ⟨v1, hv, hM⟩ := e_bs hM
  refine e_getR (C := RX9) (T := TX9) (N := 40) E J hv rfl inX9 (by decide) q_5_40 dX9_mark_62 ?_
  rcases v1 with _ | a2
  · have hM := e_on0 hM
    refine W.eq (g2 := F0 m 65 ls [.null]) rfl ?_
    refine lv_iload_n hx hb dX9_mark_65 rfl (lv_at hl 1 rfl) ?_
    exact e_no hM
  · have hM := e_on1 hM
    refine W.eq (g2 := F0 m 65 ls [.ref (e_ad G a2)]) rfl ?_
    refine lv_iload_n hx hb dX9_mark_65 rfl (lv_at hl 1 rfl) ?_
    obtain ⟨v3, hv, hM⟩ := e_bs hM
    refine e_iald E J hv dX9_mark_66 ?_
    refine lv_iconst (v := nI 1) hx hb dX9_mark_67 (by decide) ?_
    refine lv_icmp_ne (tgt := 93) hx hb dX9_mark_68 (by decide) (fun hc => ?_) (fun hc => ?_)
    · have hM := e_in hc hM
      exact mX9_mark_b93 E l0 l1 l2 l3 h hM J (lv_sub hl [0, 1, 2, 3] rfl)
    · have hM := e_ip hc hM
      refine lv_iload_n hx hb dX9_mark_71 rfl (lv_at hl 3 rfl) ?_
      refine lv_ldc (v := -1000000005) hx hb hown (hts _ q_6_90) dX9_mark_72 ?_
      refine lv_icmp_eq (tgt := 93) hx hb dX9_mark_74 (by decide) (fun hc => ?_) (fun hc => ?_)
      · have hM := e_ip hc hM
        exact mX9_mark_b93 E l0 l1 l2 l3 h hM J (lv_sub hl [0, 1, 2, 3] rfl)
      · have hM := e_in hc hM
        refine lv_iload_n hx hb dX9_mark_77 rfl (lv_at hl 3 rfl) ?_
        refine lv_ldcw (v := -99999) hx hb hown (hts _ q_6_195) dX9_mark_78 ?_
        refine lv_ldcw (v := 99999) hx hb hown (hts _ q_6_196) dX9_mark_81 ?_
        obtain ⟨v4, hv, hM⟩ := e_bs hM
        refine e_callS (As := [.int l3, .int (-99999 : Int32), .int (99999 : Int32)]) (rest := []) (n := 3) E J (mX9_in (l := l) (G := G) l3 (-99999 : Int32) (99999 : Int32) h _ hv) q_5_137 q_5_138 q_1_9 q_5_139 (by decide +kernel) rfl ⟨Nat.le_of_ble_eq_true rfl, Nat.le_of_ble_eq_true rfl⟩ (st0 := [.int (99999 : Int32), .int (-99999 : Int32), .int l3]) (st1 := [.int (e_b v4)]) rfl rfl hl.1 (Nat.le_of_ble_eq_true rfl) dX9_mark_84 ⟨Nat.le_refl _, Nat.le_refl _⟩ (fun H locs J => ?_)
        refine lv_if_ne (tgt := 93) hx hb dX9_mark_87 (by decide) (fun hc => ?_) (fun hc => ?_)
        · have hM := e_in hc hM
          exact mX9_mark_b93 E l0 l1 l2 l3 h hM J (lv_sub hl [0, 1, 2, 3] rfl)
        · have hM := e_ip hc hM
          refine lv_ldc (v := -1000000001) hx hb hown (hts _ q_5_140) dX9_mark_90 ?_
          obtain rfl := e_so hM
          exact e_iret E J dX9_mark_92
set_option maxRecDepth 100000 in
set_option maxHeartbeats 4000000 in
theorem mX9_mark {l : Launch} {G : e_G} (l0 : Nat) (l1 : Int32) (l2 : Int32) (l3 : Int32) (h : e_H) (res : (Int32 × e_H)) (hM : fX9_mark l0 l1 l2 l3 h = some res) : Met l yX9_mark (e_W yX9_mark cX9_mark 4 (some FieldType.int)) (e_rm 2 42) (e_Pc G h [.ref (e_ad G l0), .int l1, .int l2, .int l3]) (e_Q G res.2 (some (.int res.1))) 0 0 (e_A G) := by
  refine Met.ofW (cc := cX9_mark) (maxL := 4) (ret := (some FieldType.int)) (by decide) rfl ?_
  intro p e s m args below meth c s₁ B hml hv
  obtain ⟨rfl, hS, hP⟩ := hv
  have E := e_enter (own := RX9) (ret := (some FieldType.int)) B hml rfl hS hP
  have J : e_J G s h s.heap [] := ⟨hP, va_S.rf⟩
  have hl := lv_entry ([.ref (e_ad G l0), .int l1, .int l2, .int l3]) (n := 4) (Nat.le_of_ble_eq_true rfl)
  rw [lg_entry_eq]
  generalize (lg_sl ([.ref (e_ad G l0), .int l1, .int l2, .int l3]) ++ List.replicate (4 - (lg_sl ([.ref (e_ad G l0), .int l1, .int l2, .int l3])).length) Slot.unset).toArray = ls at hl ⊢
  have hl : lv_has ls 4 [(0, .ref (e_ad G l0)), (1, .int l1), (2, .int l2), (3, .int l3)] := hl
  obtain ⟨hx, hb, hr, hml, hown, hts, hlocks, hES, hbs⟩ := id E
  unfold fX9_mark at hM
  obtain ⟨fs_, hk_, hM⟩ := e_bs hM
  refine lv_iload_n hx hb dX9_mark_0 rfl (lv_at hl 1 rfl) ?_
  obtain ⟨v1, hv, hM⟩ := e_bs hM
  refine e_callS (As := [.int l1]) (rest := []) (n := 1) E J (mX9_isSheet (l := l) (G := G) l1 h _ hv) q_6_185 q_6_186 q_1_9 q_6_187 (by decide +kernel) rfl ⟨Nat.le_of_ble_eq_true rfl, Nat.le_of_ble_eq_true rfl⟩ (st0 := [.int l1]) (st1 := [.int (e_b v1)]) rfl rfl hl.1 (Nat.le_of_ble_eq_true rfl) dX9_mark_1 ⟨Nat.le_refl _, Nat.le_refl _⟩ (fun H locs J => ?_)
  refine lv_if_ne (tgt := 10) hx hb dX9_mark_4 (by decide) (fun hc => ?_) (fun hc => ?_)
  · have hM := e_in hc hM
    refine lv_aload_n hx hb dX9_mark_10 rfl (lv_at hl 0 rfl) ?_
    obtain ⟨v2, hv, hM⟩ := e_bs hM
    refine e_getR (C := RX9) (T := TX9) (N := 40) E J hv rfl inX9 (by decide) q_5_40 dX9_mark_11 ?_
    rcases v2 with _ | a3
    · have hM := e_on0 hM
      refine W.eq (g2 := F0 m 14 ls [.null]) rfl ?_
      refine lv_iload_n hx hb dX9_mark_14 rfl (lv_at hl 1 rfl) ?_
      exact e_no hM
    · have hM := e_on1 hM
      refine W.eq (g2 := F0 m 14 ls [.ref (e_ad G a3)]) rfl ?_
      refine lv_iload_n hx hb dX9_mark_14 rfl (lv_at hl 1 rfl) ?_
      obtain ⟨v4, hv, hM⟩ := e_bs hM
      refine e_iald E J hv dX9_mark_15 ?_
      refine lv_if_ge (tgt := 23) hx hb dX9_mark_16 (by decide) (fun hc => ?_) (fun hc => ?_)
      · have hM := e_ip hc hM
        refine lv_iload_n hx hb dX9_mark_23 rfl (lv_at hl 2 rfl) ?_
        refine lv_iconst (v := nI 0) hx hb dX9_mark_24 (by decide) ?_
        refine lv_aload_n hx hb dX9_mark_25 rfl (lv_at hl 0 rfl) ?_
        obtain ⟨v5, hv, hM⟩ := e_bs hM
        refine e_getR (C := RX9) (T := TX9) (N := 40) E J hv rfl inX9 (by decide) q_5_41 dX9_mark_26 ?_
        rcases v5 with _ | a6
        · have hM := e_on0 hM
          refine W.eq (g2 := F0 m 29 ls [.null, .int (nI 0), .int l2]) rfl ?_
          refine lv_iload_n hx hb dX9_mark_29 rfl (lv_at hl 1 rfl) ?_
          exact e_no hM
        · have hM := e_on1 hM
          refine W.eq (g2 := F0 m 29 ls [.ref (e_ad G a6), .int (nI 0), .int l2]) rfl ?_
          refine lv_iload_n hx hb dX9_mark_29 rfl (lv_at hl 1 rfl) ?_
          obtain ⟨v7, hv, hM⟩ := e_bs hM
          refine e_iald E J hv dX9_mark_30 ?_
          refine lv_iconst (v := nI 1) hx hb dX9_mark_31 (by decide) ?_
          refine lv_isub hx hb dX9_mark_32 ?_
          obtain ⟨v8, hv, hM⟩ := e_bs hM
          refine e_callS (As := [.int l2, .int (nI 0), .int (v7 - (nI 1))]) (rest := []) (n := 3) E J (mX9_in (l := l) (G := G) l2 (nI 0) (v7 - (nI 1)) h _ hv) q_5_137 q_5_138 q_1_9 q_5_139 (by decide +kernel) rfl ⟨Nat.le_of_ble_eq_true rfl, Nat.le_of_ble_eq_true rfl⟩ (st0 := [.int (v7 - (nI 1)), .int (nI 0), .int l2]) (st1 := [.int (e_b v8)]) rfl rfl hl.1 (Nat.le_of_ble_eq_true rfl) dX9_mark_33 ⟨Nat.le_refl _, Nat.le_refl _⟩ (fun H locs J => ?_)
          refine lv_if_ne (tgt := 43) hx hb dX9_mark_36 (by decide) (fun hc => ?_) (fun hc => ?_)
          · have hM := e_in hc hM
            refine lv_aload_n hx hb dX9_mark_43 rfl (lv_at hl 0 rfl) ?_
            obtain ⟨v9, hv, hM⟩ := e_bs hM
            refine e_getR (C := RX9) (T := TX9) (N := 40) E J hv rfl inX9 (by decide) q_5_40 dX9_mark_44 ?_
            rcases v9 with _ | a10
            · have hM := e_on0 hM
              refine W.eq (g2 := F0 m 47 ls [.null]) rfl ?_
              refine lv_iload_n hx hb dX9_mark_47 rfl (lv_at hl 1 rfl) ?_
              exact e_no hM
            · have hM := e_on1 hM
              refine W.eq (g2 := F0 m 47 ls [.ref (e_ad G a10)]) rfl ?_
              refine lv_iload_n hx hb dX9_mark_47 rfl (lv_at hl 1 rfl) ?_
              obtain ⟨v11, hv, hM⟩ := e_bs hM
              refine e_iald E J hv dX9_mark_48 ?_
              refine lv_if_ne (tgt := 61) hx hb dX9_mark_49 (by decide) (fun hc => ?_) (fun hc => ?_)
              · have hM := e_in hc hM
                exact mX9_mark_b61 E l0 l1 l2 l3 h hM J (lv_sub hl [0, 1, 2, 3] rfl)
              · have hM := e_ip hc hM
                refine lv_iload_n hx hb dX9_mark_52 rfl (lv_at hl 3 rfl) ?_
                refine lv_ldc (v := -1000000005) hx hb hown (hts _ q_6_90) dX9_mark_53 ?_
                refine lv_icmp_ne (tgt := 61) hx hb dX9_mark_55 (by decide) (fun hc => ?_) (fun hc => ?_)
                · have hM := e_in hc hM
                  exact mX9_mark_b61 E l0 l1 l2 l3 h hM J (lv_sub hl [0, 1, 2, 3] rfl)
                · have hM := e_ip hc hM
                  refine lv_ldc (v := -1000000012) hx hb hown (hts _ q_5_217) dX9_mark_58 ?_
                  obtain rfl := e_so hM
                  exact e_iret E J dX9_mark_60
          · have hM := e_ip hc hM
            refine lv_ldcw (v := -1000000013) hx hb hown (hts _ q_6_194) dX9_mark_39 ?_
            obtain rfl := e_so hM
            exact e_iret E J dX9_mark_42
      · have hM := e_in hc hM
        refine lv_ldcw (v := -1000000011) hx hb hown (hts _ q_6_193) dX9_mark_19 ?_
        obtain rfl := e_so hM
        exact e_iret E J dX9_mark_22
  · have hM := e_ip hc hM
    refine lv_ldc (v := -1000000001) hx hb hown (hts _ q_5_140) dX9_mark_7 ?_
    obtain rfl := e_so hM
    exact e_iret E J dX9_mark_9
set_option maxRecDepth 100000 in
set_option maxHeartbeats 4000000 in
theorem mX9_pour_b127 {p : Program} {l : Launch} {e : Env} {s : State} {m : MethodId} {args : Array Value} {below : List Frame} {meth : Method} {c : Code} {G : e_G} {res : (Int32 × e_H)} {k36 : Nat → Int32 → Int32 → Int32 → Int32 → e_H → Option (Int32 × e_H)} (E : e_M G p s args m meth c cX9_pour 8 (some FieldType.int) RX9) (K36 : ∀ (l0 : Nat) (l1 : Int32) (l2 : Int32) (l3 : Int32) (l4 : Int32) (h : e_H), k36 l0 l1 l2 l3 l4 h = some res → ∀ (H : Heap) (locs : List Loc), e_J G s h H locs → ∀ (ls : Array Slot), lv_has ls 8 [(0, .ref (e_ad G l0)), (1, .int l1), (2, .int l2), (3, .int l3), (4, .int l4)] → W p l e (e_rm 2 43) s m args below meth c H locs 0 0 (MQ below (e_Q G res.2 (some (.int res.1))) args s 0 0 (e_A G)) (F0 m 36 ls [])) (l0 : Nat) (l1 : Int32) (l2 : Int32) (l4 : Int32) (l6 : Int32) (l7 : Int32) (t0 : Int32) (t1 : Int32) (h : e_H) (hM : fX9_pour_b127 k36 l0 l1 l2 l4 l6 l7 t0 t1 h = some res) {H : Heap} {locs : List Loc} (J : e_J G s h H locs) {ls : Array Slot} (hl : lv_has ls 8 [(0, .ref (e_ad G l0)), (1, .int l1), (2, .int l2), (4, .int l4), (6, .int l6), (7, .int l7)]) : W p l e (e_rm 2 43) s m args below meth c H locs 0 0 (MQ below (e_Q G res.2 (some (.int res.1))) args s 0 0 (e_A G)) (F0 m 127 ls [.int t0, .int t1]) := by
  obtain ⟨hx, hb, hr, hml, hown, hts, hlocks, hES, hbs⟩ := id E
  unfold fX9_pour_b127 at hM
  refine lv_iadd hx hb dX9_pour_127 ?_
  refine lv_istore_n (lv' := [(3, .int (t1 + t0)), (0, .ref (e_ad G l0)), (1, .int l1), (2, .int l2), (4, .int l4), (6, .int l6), (7, .int l7)]) hx hb dX9_pour_128 rfl hl (by decide) rfl (fun ls hl => ?_)
  refine lv_aload_n hx hb dX9_pour_129 rfl (lv_at hl 1 rfl) ?_
  obtain ⟨v1, hv, hM⟩ := e_bs hM
  refine e_getR (C := RX9) (T := TX9) (N := 40) E J hv rfl inX9 (by decide) q_5_10 dX9_pour_130 ?_
  rcases v1 with _ | a2
  · have hM := e_on0 hM
    refine W.eq (g2 := F0 m 133 ls [.null]) rfl ?_
    refine lv_iload hx hb dX9_pour_133 (lv_at hl 5 rfl) ?_
    refine lv_iload hx hb dX9_pour_135 (lv_at hl 6 rfl) ?_
    exact e_no hM
  · have hM := e_on1 hM
    refine W.eq (g2 := F0 m 133 ls [.ref (e_ad G a2)]) rfl ?_
    refine lv_iload hx hb dX9_pour_133 (lv_at hl 5 rfl) ?_
    refine lv_iload hx hb dX9_pour_135 (lv_at hl 6 rfl) ?_
    obtain ⟨h4, hv, hM⟩ := e_bs hM
    refine e_iast E J hv dX9_pour_137 (fun H locs J => ?_)
    refine lv_iinc (v := (l4 + (nI 1))) (lv' := [(4, .int (l4 + (nI 1))), (3, .int (t1 + t0)), (0, .ref (e_ad G l0)), (1, .int l1), (2, .int l2), (6, .int l6), (7, .int l7)]) hx hb dX9_pour_138 hl (k := 4) rfl rfl (by decide) rfl (fun ls hl => ?_)
    refine lv_goto (tgt := 36) hx hb dX9_pour_141 (by decide) ?_
    exact K36 l0 l1 l2 (t1 + t0) (l4 + (nI 1)) h4 hM _ _ J _ (lv_sub hl [2, 3, 4, 1, 0] rfl)
set_option maxRecDepth 100000 in
set_option maxHeartbeats 4000000 in
theorem mX9_pour_b107 {p : Program} {l : Launch} {e : Env} {s : State} {m : MethodId} {args : Array Value} {below : List Frame} {meth : Method} {c : Code} {G : e_G} {res : (Int32 × e_H)} {k36 : Nat → Int32 → Int32 → Int32 → Int32 → e_H → Option (Int32 × e_H)} (E : e_M G p s args m meth c cX9_pour 8 (some FieldType.int) RX9) (K36 : ∀ (l0 : Nat) (l1 : Int32) (l2 : Int32) (l3 : Int32) (l4 : Int32) (h : e_H), k36 l0 l1 l2 l3 l4 h = some res → ∀ (H : Heap) (locs : List Loc), e_J G s h H locs → ∀ (ls : Array Slot), lv_has ls 8 [(0, .ref (e_ad G l0)), (1, .int l1), (2, .int l2), (3, .int l3), (4, .int l4)] → W p l e (e_rm 2 43) s m args below meth c H locs 0 0 (MQ below (e_Q G res.2 (some (.int res.1))) args s 0 0 (e_A G)) (F0 m 36 ls [])) (l0 : Nat) (l1 : Int32) (l2 : Int32) (l3 : Int32) (l4 : Int32) (l6 : Int32) (t0 : Int32) (h : e_H) (hM : fX9_pour_b107 k36 l0 l1 l2 l3 l4 l6 t0 h = some res) {H : Heap} {locs : List Loc} (J : e_J G s h H locs) {ls : Array Slot} (hl : lv_has ls 8 [(0, .ref (e_ad G l0)), (1, .int l1), (2, .int l2), (3, .int l3), (4, .int l4), (6, .int l6)]) : W p l e (e_rm 2 43) s m args below meth c H locs 0 0 (MQ below (e_Q G res.2 (some (.int res.1))) args s 0 0 (e_A G)) (F0 m 107 ls [.int t0]) := by
  obtain ⟨hx, hb, hr, hml, hown, hts, hlocks, hES, hbs⟩ := id E
  unfold fX9_pour_b107 at hM
  refine lv_istore (lv' := [(7, .int t0), (0, .ref (e_ad G l0)), (1, .int l1), (2, .int l2), (3, .int l3), (4, .int l4), (6, .int l6)]) hx hb dX9_pour_107 hl (by decide) rfl (fun ls hl => ?_)
  refine lv_iload_n hx hb dX9_pour_109 rfl (lv_at hl 4 rfl) ?_
  refine lv_aload_n hx hb dX9_pour_110 rfl (lv_at hl 1 rfl) ?_
  obtain ⟨v1, hv, hM⟩ := e_bs hM
  refine e_getR (C := RX9) (T := TX9) (N := 40) E J hv rfl inX9 (by decide) q_5_10 dX9_pour_111 ?_
  rcases v1 with _ | a2
  · have hM := e_on0 hM
    refine W.eq (g2 := F0 m 114 ls [.null, .int l3]) rfl ?_
    refine lv_iload hx hb dX9_pour_114 (lv_at hl 6 rfl) ?_
    exact e_no hM
  · have hM := e_on1 hM
    refine W.eq (g2 := F0 m 114 ls [.ref (e_ad G a2), .int l3]) rfl ?_
    refine lv_iload hx hb dX9_pour_114 (lv_at hl 6 rfl) ?_
    obtain ⟨v3, hv, hM⟩ := e_bs hM
    refine e_iald E J hv dX9_pour_116 ?_
    refine lv_iload hx hb dX9_pour_117 (lv_at hl 0 rfl) ?_
    refine lv_icmp_ne (tgt := 126) hx hb dX9_pour_119 (by decide) (fun hc => ?_) (fun hc => ?_)
    · have hM := e_in hc hM
      refine lv_iconst (v := nI 1) hx hb dX9_pour_126 (by decide) ?_
      exact mX9_pour_b127 E K36 l0 l1 l2 l4 l6 t0 (nI 1) l3 h hM J (lv_sub hl [1, 2, 3, 5, 6, 0] rfl)
    · have hM := e_ip hc hM
      refine lv_iconst (v := nI 0) hx hb dX9_pour_122 (by decide) ?_
      refine lv_goto (tgt := 127) hx hb dX9_pour_123 (by decide) ?_
      exact mX9_pour_b127 E K36 l0 l1 l2 l4 l6 t0 (nI 0) l3 h hM J (lv_sub hl [1, 2, 3, 5, 6, 0] rfl)
set_option maxRecDepth 100000 in
set_option maxHeartbeats 4000000 in
theorem mX9_pour_b36 {p : Program} {l : Launch} {e : Env} {s : State} {m : MethodId} {args : Array Value} {below : List Frame} {meth : Method} {c : Code} {G : e_G} {res : (Int32 × e_H)} {k36 : Nat → Int32 → Int32 → Int32 → Int32 → e_H → Option (Int32 × e_H)} (E : e_M G p s args m meth c cX9_pour 8 (some FieldType.int) RX9) (K36 : ∀ (l0 : Nat) (l1 : Int32) (l2 : Int32) (l3 : Int32) (l4 : Int32) (h : e_H), k36 l0 l1 l2 l3 l4 h = some res → ∀ (H : Heap) (locs : List Loc), e_J G s h H locs → ∀ (ls : Array Slot), lv_has ls 8 [(0, .ref (e_ad G l0)), (1, .int l1), (2, .int l2), (3, .int l3), (4, .int l4)] → W p l e (e_rm 2 43) s m args below meth c H locs 0 0 (MQ below (e_Q G res.2 (some (.int res.1))) args s 0 0 (e_A G)) (F0 m 36 ls [])) (l0 : Nat) (l1 : Int32) (l2 : Int32) (l3 : Int32) (l4 : Int32) (h : e_H) (hM : fX9_pour_b36 k36 l0 l1 l2 l3 l4 h = some res) {H : Heap} {locs : List Loc} (J : e_J G s h H locs) {ls : Array Slot} (hl : lv_has ls 8 [(0, .ref (e_ad G l0)), (1, .int l1), (2, .int l2), (3, .int l3), (4, .int l4)]) : W p l e (e_rm 2 43) s m args below meth c H locs 0 0 (MQ below (e_Q G res.2 (some (.int res.1))) args s 0 0 (e_A G)) (F0 m 36 ls []) := by
  obtain ⟨hx, hb, hr, hml, hown, hts, hlocks, hES, hbs⟩ := id E
  unfold fX9_pour_b36 at hM
  refine lv_iload hx hb dX9_pour_36 (lv_at hl 4 rfl) ?_
  refine lv_bipush (v := nI 15) hx hb dX9_pour_38 (by decide) ?_
  refine lv_icmp_ge (tgt := 144) hx hb dX9_pour_40 (by decide) (fun hc => ?_) (fun hc => ?_)
  · have hM := e_ip hc hM
    refine lv_iload_n hx hb dX9_pour_144 rfl (lv_at hl 3 rfl) ?_
    obtain rfl := e_so hM
    exact e_iret E J dX9_pour_145
  · have hM := e_in hc hM
    refine lv_iload hx hb dX9_pour_43 (lv_at hl 4 rfl) ?_
    refine lv_aload_n hx hb dX9_pour_45 rfl (lv_at hl 0 rfl) ?_
    obtain ⟨v1, hv, hM⟩ := e_bs hM
    refine e_getR (C := RX9) (T := TX9) (N := 40) E J hv rfl inX9 (by decide) q_5_41 dX9_pour_46 ?_
    rcases v1 with _ | a2
    · have hM := e_on0 hM
      refine W.eq (g2 := F0 m 49 ls [.null, .int l4]) rfl ?_
      refine lv_iload_n hx hb dX9_pour_49 rfl (lv_at hl 1 rfl) ?_
      exact e_no hM
    · have hM := e_on1 hM
      refine W.eq (g2 := F0 m 49 ls [.ref (e_ad G a2), .int l4]) rfl ?_
      refine lv_iload_n hx hb dX9_pour_49 rfl (lv_at hl 1 rfl) ?_
      obtain ⟨v3, hv, hM⟩ := e_bs hM
      refine e_iald E J hv dX9_pour_50 ?_
      refine lv_icmp_ge (tgt := 144) hx hb dX9_pour_51 (by decide) (fun hc => ?_) (fun hc => ?_)
      · have hM := e_ip hc hM
        refine lv_iload_n hx hb dX9_pour_144 rfl (lv_at hl 3 rfl) ?_
        obtain rfl := e_so hM
        exact e_iret E J dX9_pour_145
      · have hM := e_in hc hM
        refine lv_aload_n hx hb dX9_pour_54 rfl (lv_at hl 0 rfl) ?_
        obtain ⟨v4, hv, hM⟩ := e_bs hM
        refine e_getR (C := RX9) (T := TX9) (N := 40) E J hv rfl inX9 (by decide) q_5_42 dX9_pour_55 ?_
        rcases v4 with _ | a5
        · have hM := e_on0 hM
          refine W.eq (g2 := F0 m 58 ls [.null]) rfl ?_
          refine lv_bipush (v := nI 24) hx hb dX9_pour_58 (by decide) ?_
          refine lv_iload_n hx hb dX9_pour_60 rfl (lv_at hl 1 rfl) ?_
          refine lv_imul hx hb dX9_pour_61 ?_
          refine lv_iload hx hb dX9_pour_62 (lv_at hl 4 rfl) ?_
          refine lv_iadd hx hb dX9_pour_64 ?_
          exact e_no hM
        · have hM := e_on1 hM
          refine W.eq (g2 := F0 m 58 ls [.ref (e_ad G a5)]) rfl ?_
          refine lv_bipush (v := nI 24) hx hb dX9_pour_58 (by decide) ?_
          refine lv_iload_n hx hb dX9_pour_60 rfl (lv_at hl 1 rfl) ?_
          refine lv_imul hx hb dX9_pour_61 ?_
          refine lv_iload hx hb dX9_pour_62 (lv_at hl 4 rfl) ?_
          refine lv_iadd hx hb dX9_pour_64 ?_
          obtain ⟨v6, hv, hM⟩ := e_bs hM
          refine e_iald E J hv dX9_pour_65 ?_
          refine lv_istore (lv' := [(5, .int v6), (0, .ref (e_ad G l0)), (1, .int l1), (2, .int l2), (3, .int l3), (4, .int l4)]) hx hb dX9_pour_66 hl (by decide) rfl (fun ls hl => ?_)
          refine lv_iconst (v := nI 3) hx hb dX9_pour_68 (by decide) ?_
          refine lv_bipush (v := nI 16) hx hb dX9_pour_69 (by decide) ?_
          refine lv_iload_n hx hb dX9_pour_71 rfl (lv_at hl 3 rfl) ?_
          refine lv_imul hx hb dX9_pour_72 ?_
          refine lv_iadd hx hb dX9_pour_73 ?_
          refine lv_iconst (v := nI 1) hx hb dX9_pour_74 (by decide) ?_
          refine lv_iadd hx hb dX9_pour_75 ?_
          refine lv_iload hx hb dX9_pour_76 (lv_at hl 5 rfl) ?_
          refine lv_iadd hx hb dX9_pour_78 ?_
          refine lv_istore (lv' := [(6, .int ((((nI 3) + ((nI 16) * l2)) + (nI 1)) + l4)), (5, .int v6), (0, .ref (e_ad G l0)), (1, .int l1), (2, .int l2), (3, .int l3), (4, .int l4)]) hx hb dX9_pour_79 hl (by decide) rfl (fun ls hl => ?_)
          refine lv_iload hx hb dX9_pour_81 (lv_at hl 1 rfl) ?_
          refine lv_ldc (v := -1000000005) hx hb hown (hts _ q_6_90) dX9_pour_83 ?_
          refine lv_icmp_ne (tgt := 98) hx hb dX9_pour_85 (by decide) (fun hc => ?_) (fun hc => ?_)
          · have hM := e_in hc hM
            refine lv_iload hx hb dX9_pour_98 (lv_at hl 1 rfl) ?_
            refine lv_bipush (v := -99) hx hb dX9_pour_100 (by decide) ?_
            refine lv_bipush (v := nI 99) hx hb dX9_pour_102 (by decide) ?_
            obtain ⟨v10, hv, hM⟩ := e_bs hM
            refine e_callS (As := [.int v6, .int (-99 : Int32), .int (nI 99)]) (rest := []) (n := 3) E J (mX9_within (l := l) (G := G) v6 (-99 : Int32) (nI 99) h _ hv) q_5_187 q_5_188 q_1_9 q_5_189 (by decide +kernel) rfl ⟨Nat.le_of_ble_eq_true rfl, Nat.le_of_ble_eq_true rfl⟩ (st0 := [.int (nI 99), .int (-99 : Int32), .int v6]) (st1 := [.int v10]) rfl rfl hl.1 (Nat.le_of_ble_eq_true rfl) dX9_pour_104 ⟨Nat.le_refl _, Nat.le_refl _⟩ (fun H locs J => ?_)
            exact mX9_pour_b107 E K36 l0 l1 l2 l3 l4 ((((nI 3) + ((nI 16) * l2)) + (nI 1)) + l4) v10 h hM J (lv_sub hl [2, 3, 4, 5, 6, 0] rfl)
          · have hM := e_ip hc hM
            refine lv_aload_n hx hb dX9_pour_88 rfl (lv_at hl 2 rfl) ?_
            obtain ⟨v7, hv, hM⟩ := e_bs hM
            refine e_getR (C := RX9) (T := TX9) (N := 40) E J hv rfl inX9 (by decide) q_5_10 dX9_pour_89 ?_
            rcases v7 with _ | a8
            · have hM := e_on0 hM
              refine W.eq (g2 := F0 m 92 ls [.null]) rfl ?_
              refine lv_iload hx hb dX9_pour_92 (lv_at hl 0 rfl) ?_
              exact e_no hM
            · have hM := e_on1 hM
              refine W.eq (g2 := F0 m 92 ls [.ref (e_ad G a8)]) rfl ?_
              refine lv_iload hx hb dX9_pour_92 (lv_at hl 0 rfl) ?_
              obtain ⟨v9, hv, hM⟩ := e_bs hM
              refine e_iald E J hv dX9_pour_94 ?_
              refine lv_goto (tgt := 107) hx hb dX9_pour_95 (by decide) ?_
              exact mX9_pour_b107 E K36 l0 l1 l2 l3 l4 ((((nI 3) + ((nI 16) * l2)) + (nI 1)) + l4) v9 h hM J (lv_sub hl [2, 3, 4, 5, 6, 0] rfl)
set_option maxRecDepth 100000 in
set_option maxHeartbeats 4000000 in
theorem mX9_pour_L36 {p : Program} {l : Launch} {e : Env} {s : State} {m : MethodId} {args : Array Value} {below : List Frame} {meth : Method} {c : Code} {G : e_G} {res : (Int32 × e_H)} (E : e_M G p s args m meth c cX9_pour 8 (some FieldType.int) RX9) (n : Nat) (l0 : Nat) (l1 : Int32) (l2 : Int32) (l3 : Int32) (l4 : Int32) (h : e_H) (hM : fX9_pour_L36 n l0 l1 l2 l3 l4 h = some res) {H : Heap} {locs : List Loc} (J : e_J G s h H locs) {ls : Array Slot} (hl : lv_has ls 8 [(0, .ref (e_ad G l0)), (1, .int l1), (2, .int l2), (3, .int l3), (4, .int l4)]) : W p l e (e_rm 2 43) s m args below meth c H locs 0 0 (MQ below (e_Q G res.2 (some (.int res.1))) args s 0 0 (e_A G)) (F0 m 36 ls []) := by
  induction n generalizing l0 l1 l2 l3 l4 h H locs ls with
  | zero => exact e_no hM
  | succ n ih => exact mX9_pour_b36 (k36 := (fX9_pour_L36 n)) E   (fun l0 l1 l2 l3 l4 h hM H locs J ls hl => ih l0 l1 l2 l3 l4 h hM J hl) l0 l1 l2 l3 l4 h hM J hl
set_option maxRecDepth 100000 in
set_option maxHeartbeats 4000000 in
theorem mX9_pour {l : Launch} {G : e_G} (l0 : Nat) (l1 : Int32) (l2 : Int32) (h : e_H) (res : (Int32 × e_H)) (hM : fX9_pour l0 l1 l2 h = some res) : Met l yX9_pour (e_W yX9_pour cX9_pour 8 (some FieldType.int)) (e_rm 2 43) (e_Pc G h [.ref (e_ad G l0), .int l1, .int l2]) (e_Q G res.2 (some (.int res.1))) 0 0 (e_A G) := by
  refine Met.ofW (cc := cX9_pour) (maxL := 8) (ret := (some FieldType.int)) (by decide) rfl ?_
  intro p e s m args below meth c s₁ B hml hv
  obtain ⟨rfl, hS, hP⟩ := hv
  have E := e_enter (own := RX9) (ret := (some FieldType.int)) B hml rfl hS hP
  have J : e_J G s h s.heap [] := ⟨hP, va_S.rf⟩
  have hl := lv_entry ([.ref (e_ad G l0), .int l1, .int l2]) (n := 8) (Nat.le_of_ble_eq_true rfl)
  rw [lg_entry_eq]
  generalize (lg_sl ([.ref (e_ad G l0), .int l1, .int l2]) ++ List.replicate (8 - (lg_sl ([.ref (e_ad G l0), .int l1, .int l2])).length) Slot.unset).toArray = ls at hl ⊢
  have hl : lv_has ls 8 [(0, .ref (e_ad G l0)), (1, .int l1), (2, .int l2)] := hl
  obtain ⟨hx, hb, hr, hml, hown, hts, hlocks, hES, hbs⟩ := id E
  unfold fX9_pour at hM
  obtain ⟨fs_, hk_, hM⟩ := e_bs hM
  refine lv_iload_n hx hb dX9_pour_0 rfl (lv_at hl 1 rfl) ?_
  obtain ⟨v1, hv, hM⟩ := e_bs hM
  refine e_callS (As := [.int l1]) (rest := []) (n := 1) E J (mX9_isSheet (l := l) (G := G) l1 h _ hv) q_6_185 q_6_186 q_1_9 q_6_187 (by decide +kernel) rfl ⟨Nat.le_of_ble_eq_true rfl, Nat.le_of_ble_eq_true rfl⟩ (st0 := [.int l1]) (st1 := [.int (e_b v1)]) rfl rfl hl.1 (Nat.le_of_ble_eq_true rfl) dX9_pour_1 ⟨Nat.le_refl _, Nat.le_refl _⟩ (fun H locs J => ?_)
  refine lv_if_eq (tgt := 15) hx hb dX9_pour_4 (by decide) (fun hc => ?_) (fun hc => ?_)
  · have hM := e_ip hc hM
    refine lv_ldc (v := -1000000001) hx hb hown (hts _ q_5_140) dX9_pour_15 ?_
    obtain rfl := e_so hM
    exact e_iret E J dX9_pour_17
  · have hM := e_in hc hM
    refine lv_aload_n hx hb dX9_pour_7 rfl (lv_at hl 0 rfl) ?_
    refine lv_iload_n hx hb dX9_pour_8 rfl (lv_at hl 2 rfl) ?_
    obtain ⟨v2, hv, hM⟩ := e_bs hM
    obtain ⟨fs_, hk, -⟩ := e_bs hv
    refine e_callV (ci := 9) (As := [.int l2]) (rest := []) (n := 1) E J hk rfl (mX9_isCurve (l := l) (G := G) l0 l2 h _ hv) q_5_150 q_5_152 q_p_16 q_1_9 q_5_153 (by decide +kernel) rfl ⟨Nat.le_of_ble_eq_true rfl, Nat.le_of_ble_eq_true rfl⟩ (st0 := [.int l2, .ref (e_ad G l0)]) (st1 := [.int (e_b v2)]) rfl rfl hl.1 (Nat.le_of_ble_eq_true rfl) dX9_pour_9 ⟨Nat.le_refl _, Nat.le_refl _⟩ (fun H locs J => ?_)
    refine lv_if_ne (tgt := 18) hx hb dX9_pour_12 (by decide) (fun hc => ?_) (fun hc => ?_)
    · have hM := e_in hc hM
      refine lv_aload_n hx hb dX9_pour_18 rfl (lv_at hl 0 rfl) ?_
      obtain ⟨v3, hv, hM⟩ := e_bs hM
      refine e_getR (C := RX9) (T := TX9) (N := 40) E J hv rfl inX9 (by decide) q_5_40 dX9_pour_19 ?_
      rcases v3 with _ | a4
      · have hM := e_on0 hM
        refine W.eq (g2 := F0 m 22 ls [.null]) rfl ?_
        refine lv_iload_n hx hb dX9_pour_22 rfl (lv_at hl 1 rfl) ?_
        exact e_no hM
      · have hM := e_on1 hM
        refine W.eq (g2 := F0 m 22 ls [.ref (e_ad G a4)]) rfl ?_
        refine lv_iload_n hx hb dX9_pour_22 rfl (lv_at hl 1 rfl) ?_
        obtain ⟨v5, hv, hM⟩ := e_bs hM
        refine e_iald E J hv dX9_pour_23 ?_
        refine lv_if_ge (tgt := 31) hx hb dX9_pour_24 (by decide) (fun hc => ?_) (fun hc => ?_)
        · have hM := e_ip hc hM
          refine lv_iconst (v := nI 0) hx hb dX9_pour_31 (by decide) ?_
          refine lv_istore_n (lv' := [(3, .int (nI 0)), (0, .ref (e_ad G l0)), (1, .int l1), (2, .int l2)]) hx hb dX9_pour_32 rfl hl (by decide) rfl (fun ls hl => ?_)
          refine lv_iconst (v := nI 0) hx hb dX9_pour_33 (by decide) ?_
          refine lv_istore (lv' := [(4, .int (nI 0)), (3, .int (nI 0)), (0, .ref (e_ad G l0)), (1, .int l1), (2, .int l2)]) hx hb dX9_pour_34 hl (by decide) rfl (fun ls hl => ?_)
          exact mX9_pour_L36 E 200 l0 l1 l2 (nI 0) (nI 0) h hM J (lv_sub hl [2, 3, 4, 1, 0] rfl)
        · have hM := e_in hc hM
          refine lv_ldcw (v := -1000000011) hx hb hown (hts _ q_6_193) dX9_pour_27 ?_
          obtain rfl := e_so hM
          exact e_iret E J dX9_pour_30
    · have hM := e_ip hc hM
      refine lv_ldc (v := -1000000001) hx hb hown (hts _ q_5_140) dX9_pour_15 ?_
      obtain rfl := e_so hM
      exact e_iret E J dX9_pour_17
set_option maxRecDepth 100000 in
set_option maxHeartbeats 4000000 in
theorem mX9_copy_b142 {p : Program} {l : Launch} {e : Env} {s : State} {m : MethodId} {args : Array Value} {below : List Frame} {meth : Method} {c : Code} {G : e_G} {res : (Int32 × e_H)} {k142 : Nat → Int32 → Int32 → Int32 → Int32 → e_H → Option (Int32 × e_H)} (E : e_M G p s args m meth c cX9_copy 7 (some FieldType.int) RX9) (K142 : ∀ (l0 : Nat) (l3 : Int32) (l4 : Int32) (l5 : Int32) (l6 : Int32) (h : e_H), k142 l0 l3 l4 l5 l6 h = some res → ∀ (H : Heap) (locs : List Loc), e_J G s h H locs → ∀ (ls : Array Slot), lv_has ls 7 [(0, .ref (e_ad G l0)), (3, .int l3), (4, .int l4), (5, .int l5), (6, .int l6)] → W p l e (e_rm 2 42) s m args below meth c H locs 0 0 (MQ below (e_Q G res.2 (some (.int res.1))) args s 0 0 (e_A G)) (F0 m 142 ls [])) (l0 : Nat) (l3 : Int32) (l4 : Int32) (l5 : Int32) (l6 : Int32) (h : e_H) (hM : fX9_copy_b142 k142 l0 l3 l4 l5 l6 h = some res) {H : Heap} {locs : List Loc} (J : e_J G s h H locs) {ls : Array Slot} (hl : lv_has ls 7 [(0, .ref (e_ad G l0)), (3, .int l3), (4, .int l4), (5, .int l5), (6, .int l6)]) : W p l e (e_rm 2 42) s m args below meth c H locs 0 0 (MQ below (e_Q G res.2 (some (.int res.1))) args s 0 0 (e_A G)) (F0 m 142 ls []) := by
  obtain ⟨hx, hb, hr, hml, hown, hts, hlocks, hES, hbs⟩ := id E
  unfold fX9_copy_b142 at hM
  refine lv_iload hx hb dX9_copy_142 (lv_at hl 4 rfl) ?_
  refine lv_iload hx hb dX9_copy_144 (lv_at hl 3 rfl) ?_
  refine lv_icmp_ge (tgt := 177) hx hb dX9_copy_146 (by decide) (fun hc => ?_) (fun hc => ?_)
  · have hM := e_ip hc hM
    refine lv_iload hx hb dX9_copy_177 (lv_at hl 3 rfl) ?_
    obtain rfl := e_so hM
    exact e_iret E J dX9_copy_179
  · have hM := e_in hc hM
    refine lv_aload_n hx hb dX9_copy_149 rfl (lv_at hl 0 rfl) ?_
    obtain ⟨v1, hv, hM⟩ := e_bs hM
    refine e_getR (C := RX9) (T := TX9) (N := 40) E J hv rfl inX9 (by decide) q_5_42 dX9_copy_150 ?_
    rcases v1 with _ | a2
    · have hM := e_on0 hM
      refine W.eq (g2 := F0 m 153 ls [.null]) rfl ?_
      refine lv_bipush (v := nI 24) hx hb dX9_copy_153 (by decide) ?_
      refine lv_iload_n hx hb dX9_copy_155 rfl (lv_at hl 1 rfl) ?_
      refine lv_imul hx hb dX9_copy_156 ?_
      refine lv_iload hx hb dX9_copy_157 (lv_at hl 2 rfl) ?_
      refine lv_iadd hx hb dX9_copy_159 ?_
      refine lv_iload hx hb dX9_copy_160 (lv_at hl 4 rfl) ?_
      refine lv_iadd hx hb dX9_copy_162 ?_
      refine lv_aload_n hx hb dX9_copy_163 rfl (lv_at hl 0 rfl) ?_
      obtain ⟨v3, hv, hM⟩ := e_bs hM
      refine e_getR (C := RX9) (T := TX9) (N := 40) E J hv rfl inX9 (by decide) q_5_47 dX9_copy_164 ?_
      rcases v3 with _ | a4
      · have hM := e_on0 hM
        refine W.eq (g2 := F0 m 167 ls [.null, .int ((((nI 24) * l3) + l4) + l6), .null]) rfl ?_
        refine lv_iload hx hb dX9_copy_167 (lv_at hl 4 rfl) ?_
        exact e_no hM
      · have hM := e_on1 hM
        refine W.eq (g2 := F0 m 167 ls [.ref (e_ad G a4), .int ((((nI 24) * l3) + l4) + l6), .null]) rfl ?_
        refine lv_iload hx hb dX9_copy_167 (lv_at hl 4 rfl) ?_
        obtain ⟨v5, hv, hM⟩ := e_bs hM
        refine e_iald E J hv dX9_copy_169 ?_
        exact e_no hM
    · have hM := e_on1 hM
      refine W.eq (g2 := F0 m 153 ls [.ref (e_ad G a2)]) rfl ?_
      refine lv_bipush (v := nI 24) hx hb dX9_copy_153 (by decide) ?_
      refine lv_iload_n hx hb dX9_copy_155 rfl (lv_at hl 1 rfl) ?_
      refine lv_imul hx hb dX9_copy_156 ?_
      refine lv_iload hx hb dX9_copy_157 (lv_at hl 2 rfl) ?_
      refine lv_iadd hx hb dX9_copy_159 ?_
      refine lv_iload hx hb dX9_copy_160 (lv_at hl 4 rfl) ?_
      refine lv_iadd hx hb dX9_copy_162 ?_
      refine lv_aload_n hx hb dX9_copy_163 rfl (lv_at hl 0 rfl) ?_
      obtain ⟨v7, hv, hM⟩ := e_bs hM
      refine e_getR (C := RX9) (T := TX9) (N := 40) E J hv rfl inX9 (by decide) q_5_47 dX9_copy_164 ?_
      rcases v7 with _ | a8
      · have hM := e_on0 hM
        refine W.eq (g2 := F0 m 167 ls [.null, .int ((((nI 24) * l3) + l4) + l6), .ref (e_ad G a2)]) rfl ?_
        refine lv_iload hx hb dX9_copy_167 (lv_at hl 4 rfl) ?_
        exact e_no hM
      · have hM := e_on1 hM
        refine W.eq (g2 := F0 m 167 ls [.ref (e_ad G a8), .int ((((nI 24) * l3) + l4) + l6), .ref (e_ad G a2)]) rfl ?_
        refine lv_iload hx hb dX9_copy_167 (lv_at hl 4 rfl) ?_
        obtain ⟨v9, hv, hM⟩ := e_bs hM
        refine e_iald E J hv dX9_copy_169 ?_
        obtain ⟨h10, hv, hM⟩ := e_bs hM
        refine e_iast E J hv dX9_copy_170 (fun H locs J => ?_)
        refine lv_iinc (v := (l6 + (nI 1))) (lv' := [(6, .int (l6 + (nI 1))), (0, .ref (e_ad G l0)), (3, .int l3), (4, .int l4), (5, .int l5)]) hx hb dX9_copy_171 hl (k := 4) rfl rfl (by decide) rfl (fun ls hl => ?_)
        refine lv_goto (tgt := 142) hx hb dX9_copy_174 (by decide) ?_
        exact K142 l0 l3 l4 l5 (l6 + (nI 1)) h10 hM _ _ J _ (lv_sub hl [1, 2, 3, 4, 0] rfl)
set_option maxRecDepth 100000 in
set_option maxHeartbeats 4000000 in
theorem mX9_copy_L142 {p : Program} {l : Launch} {e : Env} {s : State} {m : MethodId} {args : Array Value} {below : List Frame} {meth : Method} {c : Code} {G : e_G} {res : (Int32 × e_H)} (E : e_M G p s args m meth c cX9_copy 7 (some FieldType.int) RX9) (n : Nat) (l0 : Nat) (l3 : Int32) (l4 : Int32) (l5 : Int32) (l6 : Int32) (h : e_H) (hM : fX9_copy_L142 n l0 l3 l4 l5 l6 h = some res) {H : Heap} {locs : List Loc} (J : e_J G s h H locs) {ls : Array Slot} (hl : lv_has ls 7 [(0, .ref (e_ad G l0)), (3, .int l3), (4, .int l4), (5, .int l5), (6, .int l6)]) : W p l e (e_rm 2 42) s m args below meth c H locs 0 0 (MQ below (e_Q G res.2 (some (.int res.1))) args s 0 0 (e_A G)) (F0 m 142 ls []) := by
  induction n generalizing l0 l3 l4 l5 l6 h H locs ls with
  | zero => exact e_no hM
  | succ n ih => exact mX9_copy_b142 (k142 := (fX9_copy_L142 n)) E   (fun l0 l3 l4 l5 l6 h hM H locs J ls hl => ih l0 l3 l4 l5 l6 h hM J hl) l0 l3 l4 l5 l6 h hM J hl
set_option maxRecDepth 100000 in
set_option maxHeartbeats 4000000 in
theorem mX9_copy_b105 {p : Program} {l : Launch} {e : Env} {s : State} {m : MethodId} {args : Array Value} {below : List Frame} {meth : Method} {c : Code} {G : e_G} {res : (Int32 × e_H)} {k105 : Nat → Int32 → Int32 → Int32 → Int32 → Int32 → Int32 → e_H → Option (Int32 × e_H)} (E : e_M G p s args m meth c cX9_copy 7 (some FieldType.int) RX9) (K105 : ∀ (l0 : Nat) (l1 : Int32) (l2 : Int32) (l3 : Int32) (l4 : Int32) (l5 : Int32) (l6 : Int32) (h : e_H), k105 l0 l1 l2 l3 l4 l5 l6 h = some res → ∀ (H : Heap) (locs : List Loc), e_J G s h H locs → ∀ (ls : Array Slot), lv_has ls 7 [(0, .ref (e_ad G l0)), (1, .int l1), (2, .int l2), (3, .int l3), (4, .int l4), (5, .int l5), (6, .int l6)] → W p l e (e_rm 2 42) s m args below meth c H locs 0 0 (MQ below (e_Q G res.2 (some (.int res.1))) args s 0 0 (e_A G)) (F0 m 105 ls [])) (l0 : Nat) (l1 : Int32) (l2 : Int32) (l3 : Int32) (l4 : Int32) (l5 : Int32) (l6 : Int32) (h : e_H) (hM : fX9_copy_b105 k105 l0 l1 l2 l3 l4 l5 l6 h = some res) {H : Heap} {locs : List Loc} (J : e_J G s h H locs) {ls : Array Slot} (hl : lv_has ls 7 [(0, .ref (e_ad G l0)), (1, .int l1), (2, .int l2), (3, .int l3), (4, .int l4), (5, .int l5), (6, .int l6)]) : W p l e (e_rm 2 42) s m args below meth c H locs 0 0 (MQ below (e_Q G res.2 (some (.int res.1))) args s 0 0 (e_A G)) (F0 m 105 ls []) := by
  obtain ⟨hx, hb, hr, hml, hown, hts, hlocks, hES, hbs⟩ := id E
  unfold fX9_copy_b105 at hM
  refine lv_iload hx hb dX9_copy_105 (lv_at hl 6 rfl) ?_
  refine lv_iload hx hb dX9_copy_107 (lv_at hl 5 rfl) ?_
  refine lv_icmp_ge (tgt := 139) hx hb dX9_copy_109 (by decide) (fun hc => ?_) (fun hc => ?_)
  · have hM := e_ip hc hM
    refine lv_iconst (v := nI 0) hx hb dX9_copy_139 (by decide) ?_
    refine lv_istore (lv' := [(6, .int (nI 0)), (0, .ref (e_ad G l0)), (1, .int l1), (2, .int l2), (3, .int l3), (4, .int l4), (5, .int l5)]) hx hb dX9_copy_140 hl (by decide) rfl (fun ls hl => ?_)
    exact mX9_copy_L142 E 200 l0 l3 l4 l5 (nI 0) h hM J (lv_sub hl [1, 4, 5, 6, 0] rfl)
  · have hM := e_in hc hM
    refine lv_aload_n hx hb dX9_copy_112 rfl (lv_at hl 0 rfl) ?_
    obtain ⟨v1, hv, hM⟩ := e_bs hM
    refine e_getR (C := RX9) (T := TX9) (N := 40) E J hv rfl inX9 (by decide) q_5_47 dX9_copy_113 ?_
    rcases v1 with _ | a2
    · have hM := e_on0 hM
      refine W.eq (g2 := F0 m 116 ls [.null]) rfl ?_
      refine lv_iload hx hb dX9_copy_116 (lv_at hl 6 rfl) ?_
      refine lv_aload_n hx hb dX9_copy_118 rfl (lv_at hl 0 rfl) ?_
      obtain ⟨v3, hv, hM⟩ := e_bs hM
      refine e_getR (C := RX9) (T := TX9) (N := 40) E J hv rfl inX9 (by decide) q_5_42 dX9_copy_119 ?_
      rcases v3 with _ | a4
      · have hM := e_on0 hM
        refine W.eq (g2 := F0 m 122 ls [.null, .int l6, .null]) rfl ?_
        refine lv_bipush (v := nI 24) hx hb dX9_copy_122 (by decide) ?_
        refine lv_iload_n hx hb dX9_copy_124 rfl (lv_at hl 1 rfl) ?_
        refine lv_imul hx hb dX9_copy_125 ?_
        refine lv_iload_n hx hb dX9_copy_126 rfl (lv_at hl 2 rfl) ?_
        refine lv_iadd hx hb dX9_copy_127 ?_
        refine lv_iload hx hb dX9_copy_128 (lv_at hl 6 rfl) ?_
        refine lv_iadd hx hb dX9_copy_130 ?_
        exact e_no hM
      · have hM := e_on1 hM
        refine W.eq (g2 := F0 m 122 ls [.ref (e_ad G a4), .int l6, .null]) rfl ?_
        refine lv_bipush (v := nI 24) hx hb dX9_copy_122 (by decide) ?_
        refine lv_iload_n hx hb dX9_copy_124 rfl (lv_at hl 1 rfl) ?_
        refine lv_imul hx hb dX9_copy_125 ?_
        refine lv_iload_n hx hb dX9_copy_126 rfl (lv_at hl 2 rfl) ?_
        refine lv_iadd hx hb dX9_copy_127 ?_
        refine lv_iload hx hb dX9_copy_128 (lv_at hl 6 rfl) ?_
        refine lv_iadd hx hb dX9_copy_130 ?_
        obtain ⟨v5, hv, hM⟩ := e_bs hM
        refine e_iald E J hv dX9_copy_131 ?_
        exact e_no hM
    · have hM := e_on1 hM
      refine W.eq (g2 := F0 m 116 ls [.ref (e_ad G a2)]) rfl ?_
      refine lv_iload hx hb dX9_copy_116 (lv_at hl 6 rfl) ?_
      refine lv_aload_n hx hb dX9_copy_118 rfl (lv_at hl 0 rfl) ?_
      obtain ⟨v7, hv, hM⟩ := e_bs hM
      refine e_getR (C := RX9) (T := TX9) (N := 40) E J hv rfl inX9 (by decide) q_5_42 dX9_copy_119 ?_
      rcases v7 with _ | a8
      · have hM := e_on0 hM
        refine W.eq (g2 := F0 m 122 ls [.null, .int l6, .ref (e_ad G a2)]) rfl ?_
        refine lv_bipush (v := nI 24) hx hb dX9_copy_122 (by decide) ?_
        refine lv_iload_n hx hb dX9_copy_124 rfl (lv_at hl 1 rfl) ?_
        refine lv_imul hx hb dX9_copy_125 ?_
        refine lv_iload_n hx hb dX9_copy_126 rfl (lv_at hl 2 rfl) ?_
        refine lv_iadd hx hb dX9_copy_127 ?_
        refine lv_iload hx hb dX9_copy_128 (lv_at hl 6 rfl) ?_
        refine lv_iadd hx hb dX9_copy_130 ?_
        exact e_no hM
      · have hM := e_on1 hM
        refine W.eq (g2 := F0 m 122 ls [.ref (e_ad G a8), .int l6, .ref (e_ad G a2)]) rfl ?_
        refine lv_bipush (v := nI 24) hx hb dX9_copy_122 (by decide) ?_
        refine lv_iload_n hx hb dX9_copy_124 rfl (lv_at hl 1 rfl) ?_
        refine lv_imul hx hb dX9_copy_125 ?_
        refine lv_iload_n hx hb dX9_copy_126 rfl (lv_at hl 2 rfl) ?_
        refine lv_iadd hx hb dX9_copy_127 ?_
        refine lv_iload hx hb dX9_copy_128 (lv_at hl 6 rfl) ?_
        refine lv_iadd hx hb dX9_copy_130 ?_
        obtain ⟨v9, hv, hM⟩ := e_bs hM
        refine e_iald E J hv dX9_copy_131 ?_
        obtain ⟨h10, hv, hM⟩ := e_bs hM
        refine e_iast E J hv dX9_copy_132 (fun H locs J => ?_)
        refine lv_iinc (v := (l6 + (nI 1))) (lv' := [(6, .int (l6 + (nI 1))), (0, .ref (e_ad G l0)), (1, .int l1), (2, .int l2), (3, .int l3), (4, .int l4), (5, .int l5)]) hx hb dX9_copy_133 hl (k := 6) rfl rfl (by decide) rfl (fun ls hl => ?_)
        refine lv_goto (tgt := 105) hx hb dX9_copy_136 (by decide) ?_
        exact K105 l0 l1 l2 l3 l4 l5 (l6 + (nI 1)) h10 hM _ _ J _ (lv_sub hl [1, 2, 3, 4, 5, 6, 0] rfl)
set_option maxRecDepth 100000 in
set_option maxHeartbeats 4000000 in
theorem mX9_copy_L105 {p : Program} {l : Launch} {e : Env} {s : State} {m : MethodId} {args : Array Value} {below : List Frame} {meth : Method} {c : Code} {G : e_G} {res : (Int32 × e_H)} (E : e_M G p s args m meth c cX9_copy 7 (some FieldType.int) RX9) (n : Nat) (l0 : Nat) (l1 : Int32) (l2 : Int32) (l3 : Int32) (l4 : Int32) (l5 : Int32) (l6 : Int32) (h : e_H) (hM : fX9_copy_L105 n l0 l1 l2 l3 l4 l5 l6 h = some res) {H : Heap} {locs : List Loc} (J : e_J G s h H locs) {ls : Array Slot} (hl : lv_has ls 7 [(0, .ref (e_ad G l0)), (1, .int l1), (2, .int l2), (3, .int l3), (4, .int l4), (5, .int l5), (6, .int l6)]) : W p l e (e_rm 2 42) s m args below meth c H locs 0 0 (MQ below (e_Q G res.2 (some (.int res.1))) args s 0 0 (e_A G)) (F0 m 105 ls []) := by
  induction n generalizing l0 l1 l2 l3 l4 l5 l6 h H locs ls with
  | zero => exact e_no hM
  | succ n ih => exact mX9_copy_b105 (k105 := (fX9_copy_L105 n)) E   (fun l0 l1 l2 l3 l4 l5 l6 h hM H locs J ls hl => ih l0 l1 l2 l3 l4 l5 l6 h hM J hl) l0 l1 l2 l3 l4 l5 l6 h hM J hl
set_option maxRecDepth 100000 in
set_option maxHeartbeats 4000000 in
theorem mX9_copy {l : Launch} {G : e_G} (l0 : Nat) (l1 : Int32) (l2 : Int32) (l3 : Int32) (l4 : Int32) (l5 : Int32) (h : e_H) (res : (Int32 × e_H)) (hM : fX9_copy l0 l1 l2 l3 l4 l5 h = some res) : Met l yX9_copy (e_W yX9_copy cX9_copy 7 (some FieldType.int)) (e_rm 2 42) (e_Pc G h [.ref (e_ad G l0), .int l1, .int l2, .int l3, .int l4, .int l5]) (e_Q G res.2 (some (.int res.1))) 0 0 (e_A G) := by
  refine Met.ofW (cc := cX9_copy) (maxL := 7) (ret := (some FieldType.int)) (by decide) rfl ?_
  intro p e s m args below meth c s₁ B hml hv
  obtain ⟨rfl, hS, hP⟩ := hv
  have E := e_enter (own := RX9) (ret := (some FieldType.int)) B hml rfl hS hP
  have J : e_J G s h s.heap [] := ⟨hP, va_S.rf⟩
  have hl := lv_entry ([.ref (e_ad G l0), .int l1, .int l2, .int l3, .int l4, .int l5]) (n := 7) (Nat.le_of_ble_eq_true rfl)
  rw [lg_entry_eq]
  generalize (lg_sl ([.ref (e_ad G l0), .int l1, .int l2, .int l3, .int l4, .int l5]) ++ List.replicate (7 - (lg_sl ([.ref (e_ad G l0), .int l1, .int l2, .int l3, .int l4, .int l5])).length) Slot.unset).toArray = ls at hl ⊢
  have hl : lv_has ls 7 [(0, .ref (e_ad G l0)), (1, .int l1), (2, .int l2), (3, .int l3), (4, .int l4), (5, .int l5)] := hl
  obtain ⟨hx, hb, hr, hml, hown, hts, hlocks, hES, hbs⟩ := id E
  unfold fX9_copy at hM
  obtain ⟨fs_, hk_, hM⟩ := e_bs hM
  refine lv_iload_n hx hb dX9_copy_0 rfl (lv_at hl 1 rfl) ?_
  obtain ⟨v1, hv, hM⟩ := e_bs hM
  refine e_callS (As := [.int l1]) (rest := []) (n := 1) E J (mX9_isSheet (l := l) (G := G) l1 h _ hv) q_6_185 q_6_186 q_1_9 q_6_187 (by decide +kernel) rfl ⟨Nat.le_of_ble_eq_true rfl, Nat.le_of_ble_eq_true rfl⟩ (st0 := [.int l1]) (st1 := [.int (e_b v1)]) rfl rfl hl.1 (Nat.le_of_ble_eq_true rfl) dX9_copy_1 ⟨Nat.le_refl _, Nat.le_refl _⟩ (fun H locs J => ?_)
  refine lv_if_eq (tgt := 14) hx hb dX9_copy_4 (by decide) (fun hc => ?_) (fun hc => ?_)
  · have hM := e_ip hc hM
    refine lv_ldc (v := -1000000001) hx hb hown (hts _ q_5_140) dX9_copy_14 ?_
    obtain rfl := e_so hM
    exact e_iret E J dX9_copy_16
  · have hM := e_in hc hM
    refine lv_iload_n hx hb dX9_copy_7 rfl (lv_at hl 3 rfl) ?_
    obtain ⟨v2, hv, hM⟩ := e_bs hM
    refine e_callS (As := [.int l3]) (rest := []) (n := 1) E J (mX9_isSheet (l := l) (G := G) l3 h _ hv) q_6_185 q_6_186 q_1_9 q_6_187 (by decide +kernel) rfl ⟨Nat.le_of_ble_eq_true rfl, Nat.le_of_ble_eq_true rfl⟩ (st0 := [.int l3]) (st1 := [.int (e_b v2)]) rfl rfl hl.1 (Nat.le_of_ble_eq_true rfl) dX9_copy_8 ⟨Nat.le_refl _, Nat.le_refl _⟩ (fun H locs J => ?_)
    refine lv_if_ne (tgt := 17) hx hb dX9_copy_11 (by decide) (fun hc => ?_) (fun hc => ?_)
    · have hM := e_in hc hM
      refine lv_aload_n hx hb dX9_copy_17 rfl (lv_at hl 0 rfl) ?_
      obtain ⟨v3, hv, hM⟩ := e_bs hM
      refine e_getR (C := RX9) (T := TX9) (N := 40) E J hv rfl inX9 (by decide) q_5_40 dX9_copy_18 ?_
      rcases v3 with _ | a4
      · have hM := e_on0 hM
        refine W.eq (g2 := F0 m 21 ls [.null]) rfl ?_
        refine lv_iload_n hx hb dX9_copy_21 rfl (lv_at hl 1 rfl) ?_
        exact e_no hM
      · have hM := e_on1 hM
        refine W.eq (g2 := F0 m 21 ls [.ref (e_ad G a4)]) rfl ?_
        refine lv_iload_n hx hb dX9_copy_21 rfl (lv_at hl 1 rfl) ?_
        obtain ⟨v5, hv, hM⟩ := e_bs hM
        refine e_iald E J hv dX9_copy_22 ?_
        refine lv_if_lt (tgt := 35) hx hb dX9_copy_23 (by decide) (fun hc => ?_) (fun hc => ?_)
        · have hM := e_ip hc hM
          refine lv_ldcw (v := -1000000011) hx hb hown (hts _ q_6_193) dX9_copy_35 ?_
          obtain rfl := e_so hM
          exact e_iret E J dX9_copy_38
        · have hM := e_in hc hM
          refine lv_aload_n hx hb dX9_copy_26 rfl (lv_at hl 0 rfl) ?_
          obtain ⟨v6, hv, hM⟩ := e_bs hM
          refine e_getR (C := RX9) (T := TX9) (N := 40) E J hv rfl inX9 (by decide) q_5_40 dX9_copy_27 ?_
          rcases v6 with _ | a7
          · have hM := e_on0 hM
            refine W.eq (g2 := F0 m 30 ls [.null]) rfl ?_
            refine lv_iload_n hx hb dX9_copy_30 rfl (lv_at hl 3 rfl) ?_
            exact e_no hM
          · have hM := e_on1 hM
            refine W.eq (g2 := F0 m 30 ls [.ref (e_ad G a7)]) rfl ?_
            refine lv_iload_n hx hb dX9_copy_30 rfl (lv_at hl 3 rfl) ?_
            obtain ⟨v8, hv, hM⟩ := e_bs hM
            refine e_iald E J hv dX9_copy_31 ?_
            refine lv_if_ge (tgt := 39) hx hb dX9_copy_32 (by decide) (fun hc => ?_) (fun hc => ?_)
            · have hM := e_ip hc hM
              refine lv_aload_n hx hb dX9_copy_39 rfl (lv_at hl 0 rfl) ?_
              obtain ⟨v9, hv, hM⟩ := e_bs hM
              refine e_getR (C := RX9) (T := TX9) (N := 40) E J hv rfl inX9 (by decide) q_5_40 dX9_copy_40 ?_
              rcases v9 with _ | a10
              · have hM := e_on0 hM
                refine W.eq (g2 := F0 m 43 ls [.null]) rfl ?_
                refine lv_iload_n hx hb dX9_copy_43 rfl (lv_at hl 1 rfl) ?_
                exact e_no hM
              · have hM := e_on1 hM
                refine W.eq (g2 := F0 m 43 ls [.ref (e_ad G a10)]) rfl ?_
                refine lv_iload_n hx hb dX9_copy_43 rfl (lv_at hl 1 rfl) ?_
                obtain ⟨v11, hv, hM⟩ := e_bs hM
                refine e_iald E J hv dX9_copy_44 ?_
                refine lv_aload_n hx hb dX9_copy_45 rfl (lv_at hl 0 rfl) ?_
                obtain ⟨v12, hv, hM⟩ := e_bs hM
                refine e_getR (C := RX9) (T := TX9) (N := 40) E J hv rfl inX9 (by decide) q_5_40 dX9_copy_46 ?_
                rcases v12 with _ | a13
                · have hM := e_on0 hM
                  refine W.eq (g2 := F0 m 49 ls [.null, .int v11]) rfl ?_
                  refine lv_iload_n hx hb dX9_copy_49 rfl (lv_at hl 3 rfl) ?_
                  exact e_no hM
                · have hM := e_on1 hM
                  refine W.eq (g2 := F0 m 49 ls [.ref (e_ad G a13), .int v11]) rfl ?_
                  refine lv_iload_n hx hb dX9_copy_49 rfl (lv_at hl 3 rfl) ?_
                  obtain ⟨v14, hv, hM⟩ := e_bs hM
                  refine e_iald E J hv dX9_copy_50 ?_
                  refine lv_icmp_eq (tgt := 57) hx hb dX9_copy_51 (by decide) (fun hc => ?_) (fun hc => ?_)
                  · have hM := e_ip hc hM
                    refine lv_iload_n hx hb dX9_copy_57 rfl (lv_at hl 2 rfl) ?_
                    refine lv_if_lt (tgt := 98) hx hb dX9_copy_58 (by decide) (fun hc => ?_) (fun hc => ?_)
                    · have hM := e_ip hc hM
                      refine lv_ldcw (v := -1000000013) hx hb hown (hts _ q_6_194) dX9_copy_98 ?_
                      obtain rfl := e_so hM
                      exact e_iret E J dX9_copy_101
                    · have hM := e_in hc hM
                      refine lv_iload hx hb dX9_copy_61 (lv_at hl 4 rfl) ?_
                      refine lv_if_lt (tgt := 98) hx hb dX9_copy_63 (by decide) (fun hc => ?_) (fun hc => ?_)
                      · have hM := e_ip hc hM
                        refine lv_ldcw (v := -1000000013) hx hb hown (hts _ q_6_194) dX9_copy_98 ?_
                        obtain rfl := e_so hM
                        exact e_iret E J dX9_copy_101
                      · have hM := e_in hc hM
                        refine lv_iload hx hb dX9_copy_66 (lv_at hl 5 rfl) ?_
                        refine lv_if_lt (tgt := 98) hx hb dX9_copy_68 (by decide) (fun hc => ?_) (fun hc => ?_)
                        · have hM := e_ip hc hM
                          refine lv_ldcw (v := -1000000013) hx hb hown (hts _ q_6_194) dX9_copy_98 ?_
                          obtain rfl := e_so hM
                          exact e_iret E J dX9_copy_101
                        · have hM := e_in hc hM
                          refine lv_iload_n hx hb dX9_copy_71 rfl (lv_at hl 2 rfl) ?_
                          refine lv_aload_n hx hb dX9_copy_72 rfl (lv_at hl 0 rfl) ?_
                          obtain ⟨v15, hv, hM⟩ := e_bs hM
                          refine e_getR (C := RX9) (T := TX9) (N := 40) E J hv rfl inX9 (by decide) q_5_41 dX9_copy_73 ?_
                          rcases v15 with _ | a16
                          · have hM := e_on0 hM
                            refine W.eq (g2 := F0 m 76 ls [.null, .int l2]) rfl ?_
                            refine lv_iload_n hx hb dX9_copy_76 rfl (lv_at hl 1 rfl) ?_
                            exact e_no hM
                          · have hM := e_on1 hM
                            refine W.eq (g2 := F0 m 76 ls [.ref (e_ad G a16), .int l2]) rfl ?_
                            refine lv_iload_n hx hb dX9_copy_76 rfl (lv_at hl 1 rfl) ?_
                            obtain ⟨v17, hv, hM⟩ := e_bs hM
                            refine e_iald E J hv dX9_copy_77 ?_
                            refine lv_iload hx hb dX9_copy_78 (lv_at hl 5 rfl) ?_
                            refine lv_isub hx hb dX9_copy_80 ?_
                            refine lv_icmp_gt (tgt := 98) hx hb dX9_copy_81 (by decide) (fun hc => ?_) (fun hc => ?_)
                            · have hM := e_ip hc hM
                              refine lv_ldcw (v := -1000000013) hx hb hown (hts _ q_6_194) dX9_copy_98 ?_
                              obtain rfl := e_so hM
                              exact e_iret E J dX9_copy_101
                            · have hM := e_in hc hM
                              refine lv_iload hx hb dX9_copy_84 (lv_at hl 4 rfl) ?_
                              refine lv_aload_n hx hb dX9_copy_86 rfl (lv_at hl 0 rfl) ?_
                              obtain ⟨v18, hv, hM⟩ := e_bs hM
                              refine e_getR (C := RX9) (T := TX9) (N := 40) E J hv rfl inX9 (by decide) q_5_41 dX9_copy_87 ?_
                              rcases v18 with _ | a19
                              · have hM := e_on0 hM
                                refine W.eq (g2 := F0 m 90 ls [.null, .int l4]) rfl ?_
                                refine lv_iload_n hx hb dX9_copy_90 rfl (lv_at hl 3 rfl) ?_
                                exact e_no hM
                              · have hM := e_on1 hM
                                refine W.eq (g2 := F0 m 90 ls [.ref (e_ad G a19), .int l4]) rfl ?_
                                refine lv_iload_n hx hb dX9_copy_90 rfl (lv_at hl 3 rfl) ?_
                                obtain ⟨v20, hv, hM⟩ := e_bs hM
                                refine e_iald E J hv dX9_copy_91 ?_
                                refine lv_iload hx hb dX9_copy_92 (lv_at hl 5 rfl) ?_
                                refine lv_isub hx hb dX9_copy_94 ?_
                                refine lv_icmp_le (tgt := 102) hx hb dX9_copy_95 (by decide) (fun hc => ?_) (fun hc => ?_)
                                · have hM := e_ip hc hM
                                  refine lv_iconst (v := nI 0) hx hb dX9_copy_102 (by decide) ?_
                                  refine lv_istore (lv' := [(6, .int (nI 0)), (0, .ref (e_ad G l0)), (1, .int l1), (2, .int l2), (3, .int l3), (4, .int l4), (5, .int l5)]) hx hb dX9_copy_103 hl (by decide) rfl (fun ls hl => ?_)
                                  exact mX9_copy_L105 E 200 l0 l1 l2 l3 l4 l5 (nI 0) h hM J (lv_sub hl [1, 2, 3, 4, 5, 6, 0] rfl)
                                · have hM := e_in hc hM
                                  refine lv_ldcw (v := -1000000013) hx hb hown (hts _ q_6_194) dX9_copy_98 ?_
                                  obtain rfl := e_so hM
                                  exact e_iret E J dX9_copy_101
                  · have hM := e_in hc hM
                    refine lv_ldc (v := -1000000012) hx hb hown (hts _ q_5_217) dX9_copy_54 ?_
                    obtain rfl := e_so hM
                    exact e_iret E J dX9_copy_56
            · have hM := e_in hc hM
              refine lv_ldcw (v := -1000000011) hx hb hown (hts _ q_6_193) dX9_copy_35 ?_
              obtain rfl := e_so hM
              exact e_iret E J dX9_copy_38
    · have hM := e_ip hc hM
      refine lv_ldc (v := -1000000001) hx hb hown (hts _ q_5_140) dX9_copy_14 ?_
      obtain rfl := e_so hM
      exact e_iret E J dX9_copy_16
set_option maxRecDepth 100000 in
set_option maxHeartbeats 4000000 in
theorem mX9_isSlot {l : Launch} {G : e_G} (l0 : Int32) (h : e_H) (res : Bool) (hM : fX9_isSlot l0 = some res) : Met l yX9_isSlot (e_W yX9_isSlot cX9_isSlot 1 (some FieldType.boolean)) (e_rm 1 22) (e_Pc G h [.int l0]) (e_Q G h (some (.int (e_b res)))) 0 0 (e_A G) := by
  refine Met.ofW (cc := cX9_isSlot) (maxL := 1) (ret := (some FieldType.boolean)) (by decide) rfl ?_
  intro p e s m args below meth c s₁ B hml hv
  obtain ⟨rfl, hS, hP⟩ := hv
  have E := e_enter (own := RX9) (ret := (some FieldType.boolean)) B hml rfl hS hP
  have J : e_J G s h s.heap [] := ⟨hP, va_S.rf⟩
  have hl := lv_entry ([.int l0]) (n := 1) (Nat.le_of_ble_eq_true rfl)
  rw [lg_entry_eq]
  generalize (lg_sl ([.int l0]) ++ List.replicate (1 - (lg_sl ([.int l0])).length) Slot.unset).toArray = ls at hl ⊢
  have hl : lv_has ls 1 [(0, .int l0)] := hl
  obtain ⟨hx, hb, hr, hml, hown, hts, hlocks, hES, hbs⟩ := id E
  unfold fX9_isSlot at hM
  refine lv_iload_n hx hb dX9_isSlot_0 rfl (lv_at hl 0 rfl) ?_
  refine lv_iconst (v := nI 0) hx hb dX9_isSlot_1 (by decide) ?_
  refine lv_iconst (v := nI 4) hx hb dX9_isSlot_2 (by decide) ?_
  obtain ⟨v1, hv, hM⟩ := e_bs hM
  refine e_callS (As := [.int l0, .int (nI 0), .int (nI 4)]) (rest := []) (n := 3) E J (mX9_in (l := l) (G := G) l0 (nI 0) (nI 4) h _ hv) q_5_137 q_5_138 q_1_9 q_5_139 (by decide +kernel) rfl ⟨Nat.le_of_ble_eq_true rfl, Nat.le_of_ble_eq_true rfl⟩ (st0 := [.int (nI 4), .int (nI 0), .int l0]) (st1 := [.int (e_b v1)]) rfl rfl hl.1 (Nat.le_of_ble_eq_true rfl) dX9_isSlot_3 ⟨Nat.le_refl _, Nat.le_refl _⟩ (fun H locs J => ?_)
  obtain rfl := e_so hM
  exact e_zret E J (v1) rfl dX9_isSlot_6
set_option maxRecDepth 100000 in
set_option maxHeartbeats 4000000 in
theorem mX9_lay_b110 {p : Program} {l : Launch} {e : Env} {s : State} {m : MethodId} {args : Array Value} {below : List Frame} {meth : Method} {c : Code} {G : e_G} {res : (Int32 × e_H)} (E : e_M G p s args m meth c cX9_lay 6 (some FieldType.int) RX9) (l0 : Nat) (l1 : Int32) (l2 : Int32) (l3 : Int32) (l4 : Int32) (t0 : Int32) (t1 : Int32) (h : e_H) (hM : fX9_lay_b110 l0 l1 l2 l3 l4 t0 t1 h = some res) {H : Heap} {locs : List Loc} (J : e_J G s h H locs) {ls : Array Slot} (hl : lv_has ls 6 [(0, .ref (e_ad G l0)), (1, .int l1), (2, .int l2), (3, .int l3), (4, .int l4)]) : W p l e (e_rm 2 46) s m args below meth c H locs 0 0 (MQ below (e_Q G res.2 (some (.int res.1))) args s 0 0 (e_A G)) (F0 m 110 ls [.int t0, .int t1, .null]) := by
  obtain ⟨hx, hb, hr, hml, hown, hts, hlocks, hES, hbs⟩ := id E
  unfold fX9_lay_b110 at hM
  exact e_no hM
set_option maxRecDepth 100000 in
set_option maxHeartbeats 4000000 in
theorem mX9_lay_b130 {p : Program} {l : Launch} {e : Env} {s : State} {m : MethodId} {args : Array Value} {below : List Frame} {meth : Method} {c : Code} {G : e_G} {res : (Int32 × e_H)} (E : e_M G p s args m meth c cX9_lay 6 (some FieldType.int) RX9) (l0 : Nat) (l1 : Int32) (l2 : Int32) (l3 : Int32) (l4 : Int32) (t0 : Int32) (t1 : Int32) (h : e_H) (hM : fX9_lay_b130 l0 l1 l2 l3 l4 t0 t1 h = some res) {H : Heap} {locs : List Loc} (J : e_J G s h H locs) {ls : Array Slot} (hl : lv_has ls 6 [(0, .ref (e_ad G l0)), (1, .int l1), (2, .int l2), (3, .int l3), (4, .int l4)]) : W p l e (e_rm 2 46) s m args below meth c H locs 0 0 (MQ below (e_Q G res.2 (some (.int res.1))) args s 0 0 (e_A G)) (F0 m 130 ls [.int t0, .int t1, .null]) := by
  obtain ⟨hx, hb, hr, hml, hown, hts, hlocks, hES, hbs⟩ := id E
  unfold fX9_lay_b130 at hM
  exact e_no hM
set_option maxRecDepth 100000 in
set_option maxHeartbeats 4000000 in
theorem mX9_lay_b134 {p : Program} {l : Launch} {e : Env} {s : State} {m : MethodId} {args : Array Value} {below : List Frame} {meth : Method} {c : Code} {G : e_G} {res : (Int32 × e_H)} {k134 : Nat → Int32 → Int32 → Int32 → Int32 → Int32 → e_H → Option (Int32 × e_H)} (E : e_M G p s args m meth c cX9_lay 6 (some FieldType.int) RX9) (K134 : ∀ (l0 : Nat) (l1 : Int32) (l2 : Int32) (l3 : Int32) (l4 : Int32) (l5 : Int32) (h : e_H), k134 l0 l1 l2 l3 l4 l5 h = some res → ∀ (H : Heap) (locs : List Loc), e_J G s h H locs → ∀ (ls : Array Slot), lv_has ls 6 [(0, .ref (e_ad G l0)), (1, .int l1), (2, .int l2), (3, .int l3), (4, .int l4), (5, .int l5)] → W p l e (e_rm 2 46) s m args below meth c H locs 0 0 (MQ below (e_Q G res.2 (some (.int res.1))) args s 0 0 (e_A G)) (F0 m 134 ls [])) (l0 : Nat) (l1 : Int32) (l2 : Int32) (l3 : Int32) (l4 : Int32) (l5 : Int32) (h : e_H) (hM : fX9_lay_b134 k134 l0 l1 l2 l3 l4 l5 h = some res) {H : Heap} {locs : List Loc} (J : e_J G s h H locs) {ls : Array Slot} (hl : lv_has ls 6 [(0, .ref (e_ad G l0)), (1, .int l1), (2, .int l2), (3, .int l3), (4, .int l4), (5, .int l5)]) : W p l e (e_rm 2 46) s m args below meth c H locs 0 0 (MQ below (e_Q G res.2 (some (.int res.1))) args s 0 0 (e_A G)) (F0 m 134 ls []) := by
  obtain ⟨hx, hb, hr, hml, hown, hts, hlocks, hES, hbs⟩ := id E
  unfold fX9_lay_b134 at hM
  refine lv_iload hx hb dX9_lay_134 (lv_at hl 5 rfl) ?_
  refine lv_bipush (v := nI 24) hx hb dX9_lay_136 (by decide) ?_
  refine lv_icmp_ge (tgt := 176) hx hb dX9_lay_138 (by decide) (fun hc => ?_) (fun hc => ?_)
  · have hM := e_ip hc hM
    refine lv_iload hx hb dX9_lay_176 (lv_at hl 4 rfl) ?_
    obtain rfl := e_so hM
    exact e_iret E J dX9_lay_178
  · have hM := e_in hc hM
    refine lv_iload_n hx hb dX9_lay_141 rfl (lv_at hl 2 rfl) ?_
    refine lv_iconst (v := nI 2) hx hb dX9_lay_142 (by decide) ?_
    refine lv_icmp_ne (tgt := 176) hx hb dX9_lay_143 (by decide) (fun hc => ?_) (fun hc => ?_)
    · have hM := e_in hc hM
      refine lv_iload hx hb dX9_lay_176 (lv_at hl 4 rfl) ?_
      obtain rfl := e_so hM
      exact e_iret E J dX9_lay_178
    · have hM := e_ip hc hM
      refine lv_aload_n hx hb dX9_lay_146 rfl (lv_at hl 0 rfl) ?_
      obtain ⟨v1, hv, hM⟩ := e_bs hM
      refine e_getR (C := RX9) (T := TX9) (N := 40) E J hv rfl inX9 (by decide) q_5_46 dX9_lay_147 ?_
      rcases v1 with _ | a2
      · have hM := e_on0 hM
        refine W.eq (g2 := F0 m 150 ls [.null]) rfl ?_
        refine lv_bipush (v := nI 24) hx hb dX9_lay_150 (by decide) ?_
        refine lv_iload_n hx hb dX9_lay_152 rfl (lv_at hl 1 rfl) ?_
        refine lv_imul hx hb dX9_lay_153 ?_
        refine lv_iload hx hb dX9_lay_154 (lv_at hl 5 rfl) ?_
        refine lv_iadd hx hb dX9_lay_156 ?_
        refine lv_aload_n hx hb dX9_lay_157 rfl (lv_at hl 0 rfl) ?_
        obtain ⟨v3, hv, hM⟩ := e_bs hM
        refine e_getR (C := RX9) (T := TX9) (N := 40) E J hv rfl inX9 (by decide) q_5_42 dX9_lay_158 ?_
        rcases v3 with _ | a4
        · have hM := e_on0 hM
          refine W.eq (g2 := F0 m 161 ls [.null, .int (((nI 24) * l1) + l5), .null]) rfl ?_
          refine lv_bipush (v := nI 24) hx hb dX9_lay_161 (by decide) ?_
          refine lv_iload_n hx hb dX9_lay_163 rfl (lv_at hl 3 rfl) ?_
          refine lv_imul hx hb dX9_lay_164 ?_
          refine lv_iload hx hb dX9_lay_165 (lv_at hl 5 rfl) ?_
          refine lv_iadd hx hb dX9_lay_167 ?_
          exact e_no hM
        · have hM := e_on1 hM
          refine W.eq (g2 := F0 m 161 ls [.ref (e_ad G a4), .int (((nI 24) * l1) + l5), .null]) rfl ?_
          refine lv_bipush (v := nI 24) hx hb dX9_lay_161 (by decide) ?_
          refine lv_iload_n hx hb dX9_lay_163 rfl (lv_at hl 3 rfl) ?_
          refine lv_imul hx hb dX9_lay_164 ?_
          refine lv_iload hx hb dX9_lay_165 (lv_at hl 5 rfl) ?_
          refine lv_iadd hx hb dX9_lay_167 ?_
          obtain ⟨v5, hv, hM⟩ := e_bs hM
          refine e_iald E J hv dX9_lay_168 ?_
          exact e_no hM
      · have hM := e_on1 hM
        refine W.eq (g2 := F0 m 150 ls [.ref (e_ad G a2)]) rfl ?_
        refine lv_bipush (v := nI 24) hx hb dX9_lay_150 (by decide) ?_
        refine lv_iload_n hx hb dX9_lay_152 rfl (lv_at hl 1 rfl) ?_
        refine lv_imul hx hb dX9_lay_153 ?_
        refine lv_iload hx hb dX9_lay_154 (lv_at hl 5 rfl) ?_
        refine lv_iadd hx hb dX9_lay_156 ?_
        refine lv_aload_n hx hb dX9_lay_157 rfl (lv_at hl 0 rfl) ?_
        obtain ⟨v7, hv, hM⟩ := e_bs hM
        refine e_getR (C := RX9) (T := TX9) (N := 40) E J hv rfl inX9 (by decide) q_5_42 dX9_lay_158 ?_
        rcases v7 with _ | a8
        · have hM := e_on0 hM
          refine W.eq (g2 := F0 m 161 ls [.null, .int (((nI 24) * l1) + l5), .ref (e_ad G a2)]) rfl ?_
          refine lv_bipush (v := nI 24) hx hb dX9_lay_161 (by decide) ?_
          refine lv_iload_n hx hb dX9_lay_163 rfl (lv_at hl 3 rfl) ?_
          refine lv_imul hx hb dX9_lay_164 ?_
          refine lv_iload hx hb dX9_lay_165 (lv_at hl 5 rfl) ?_
          refine lv_iadd hx hb dX9_lay_167 ?_
          exact e_no hM
        · have hM := e_on1 hM
          refine W.eq (g2 := F0 m 161 ls [.ref (e_ad G a8), .int (((nI 24) * l1) + l5), .ref (e_ad G a2)]) rfl ?_
          refine lv_bipush (v := nI 24) hx hb dX9_lay_161 (by decide) ?_
          refine lv_iload_n hx hb dX9_lay_163 rfl (lv_at hl 3 rfl) ?_
          refine lv_imul hx hb dX9_lay_164 ?_
          refine lv_iload hx hb dX9_lay_165 (lv_at hl 5 rfl) ?_
          refine lv_iadd hx hb dX9_lay_167 ?_
          obtain ⟨v9, hv, hM⟩ := e_bs hM
          refine e_iald E J hv dX9_lay_168 ?_
          obtain ⟨h10, hv, hM⟩ := e_bs hM
          refine e_iast E J hv dX9_lay_169 (fun H locs J => ?_)
          refine lv_iinc (v := (l5 + (nI 1))) (lv' := [(5, .int (l5 + (nI 1))), (0, .ref (e_ad G l0)), (1, .int l1), (2, .int l2), (3, .int l3), (4, .int l4)]) hx hb dX9_lay_170 hl (k := 5) rfl rfl (by decide) rfl (fun ls hl => ?_)
          refine lv_goto (tgt := 134) hx hb dX9_lay_173 (by decide) ?_
          exact K134 l0 l1 l2 l3 l4 (l5 + (nI 1)) h10 hM _ _ J _ (lv_sub hl [1, 2, 3, 4, 5, 0] rfl)
set_option maxRecDepth 100000 in
set_option maxHeartbeats 4000000 in
theorem mX9_lay_L134 {p : Program} {l : Launch} {e : Env} {s : State} {m : MethodId} {args : Array Value} {below : List Frame} {meth : Method} {c : Code} {G : e_G} {res : (Int32 × e_H)} (E : e_M G p s args m meth c cX9_lay 6 (some FieldType.int) RX9) (n : Nat) (l0 : Nat) (l1 : Int32) (l2 : Int32) (l3 : Int32) (l4 : Int32) (l5 : Int32) (h : e_H) (hM : fX9_lay_L134 n l0 l1 l2 l3 l4 l5 h = some res) {H : Heap} {locs : List Loc} (J : e_J G s h H locs) {ls : Array Slot} (hl : lv_has ls 6 [(0, .ref (e_ad G l0)), (1, .int l1), (2, .int l2), (3, .int l3), (4, .int l4), (5, .int l5)]) : W p l e (e_rm 2 46) s m args below meth c H locs 0 0 (MQ below (e_Q G res.2 (some (.int res.1))) args s 0 0 (e_A G)) (F0 m 134 ls []) := by
  induction n generalizing l0 l1 l2 l3 l4 l5 h H locs ls with
  | zero => exact e_no hM
  | succ n ih => exact mX9_lay_b134 (k134 := (fX9_lay_L134 n)) E   (fun l0 l1 l2 l3 l4 l5 h hM H locs J ls hl => ih l0 l1 l2 l3 l4 l5 h hM J hl) l0 l1 l2 l3 l4 l5 h hM J hl
set_option maxRecDepth 100000 in
set_option maxHeartbeats 4000000 in
theorem mX9_lay_b130x1 {p : Program} {l : Launch} {e : Env} {s : State} {m : MethodId} {args : Array Value} {below : List Frame} {meth : Method} {c : Code} {G : e_G} {res : (Int32 × e_H)} (E : e_M G p s args m meth c cX9_lay 6 (some FieldType.int) RX9) (l0 : Nat) (l1 : Int32) (l2 : Int32) (l3 : Int32) (l4 : Int32) (t0 : Int32) (t1 : Int32) (t2 : Nat) (h : e_H) (hM : fX9_lay_b130x1 l0 l1 l2 l3 l4 t0 t1 t2 h = some res) {H : Heap} {locs : List Loc} (J : e_J G s h H locs) {ls : Array Slot} (hl : lv_has ls 6 [(0, .ref (e_ad G l0)), (1, .int l1), (2, .int l2), (3, .int l3), (4, .int l4)]) : W p l e (e_rm 2 46) s m args below meth c H locs 0 0 (MQ below (e_Q G res.2 (some (.int res.1))) args s 0 0 (e_A G)) (F0 m 130 ls [.int t0, .int t1, .ref (e_ad G t2)]) := by
  obtain ⟨hx, hb, hr, hml, hown, hts, hlocks, hES, hbs⟩ := id E
  unfold fX9_lay_b130x1 at hM
  obtain ⟨h1, hv, hM⟩ := e_bs hM
  refine e_iast E J hv dX9_lay_130 (fun H locs J => ?_)
  refine lv_iconst (v := nI 0) hx hb dX9_lay_131 (by decide) ?_
  refine lv_istore (lv' := [(5, .int (nI 0)), (0, .ref (e_ad G l0)), (1, .int l1), (2, .int l2), (3, .int l3), (4, .int l4)]) hx hb dX9_lay_132 hl (by decide) rfl (fun ls hl => ?_)
  exact mX9_lay_L134 E 200 l0 l1 l2 l3 l4 (nI 0) h1 hM J (lv_sub hl [1, 2, 3, 4, 5, 0] rfl)
set_option maxRecDepth 100000 in
set_option maxHeartbeats 4000000 in
theorem mX9_lay_b110x1 {p : Program} {l : Launch} {e : Env} {s : State} {m : MethodId} {args : Array Value} {below : List Frame} {meth : Method} {c : Code} {G : e_G} {res : (Int32 × e_H)} (E : e_M G p s args m meth c cX9_lay 6 (some FieldType.int) RX9) (l0 : Nat) (l1 : Int32) (l2 : Int32) (l3 : Int32) (l4 : Int32) (t0 : Int32) (t1 : Int32) (t2 : Nat) (h : e_H) (hM : fX9_lay_b110x1 l0 l1 l2 l3 l4 t0 t1 t2 h = some res) {H : Heap} {locs : List Loc} (J : e_J G s h H locs) {ls : Array Slot} (hl : lv_has ls 6 [(0, .ref (e_ad G l0)), (1, .int l1), (2, .int l2), (3, .int l3), (4, .int l4)]) : W p l e (e_rm 2 46) s m args below meth c H locs 0 0 (MQ below (e_Q G res.2 (some (.int res.1))) args s 0 0 (e_A G)) (F0 m 110 ls [.int t0, .int t1, .ref (e_ad G t2)]) := by
  obtain ⟨hx, hb, hr, hml, hown, hts, hlocks, hES, hbs⟩ := id E
  unfold fX9_lay_b110x1 at hM
  obtain ⟨h1, hv, hM⟩ := e_bs hM
  refine e_iast E J hv dX9_lay_110 (fun H locs J => ?_)
  refine lv_aload_n hx hb dX9_lay_111 rfl (lv_at hl 0 rfl) ?_
  obtain ⟨v2, hv, hM⟩ := e_bs hM
  refine e_getR (C := RX9) (T := TX9) (N := 40) E J hv rfl inX9 (by decide) q_5_45 dX9_lay_112 ?_
  rcases v2 with _ | a3
  · have hM := e_on0 hM
    refine W.eq (g2 := F0 m 115 ls [.null]) rfl ?_
    refine lv_iload_n hx hb dX9_lay_115 rfl (lv_at hl 1 rfl) ?_
    refine lv_iload_n hx hb dX9_lay_116 rfl (lv_at hl 2 rfl) ?_
    refine lv_iconst (v := nI 1) hx hb dX9_lay_117 (by decide) ?_
    refine lv_icmp_ne (tgt := 129) hx hb dX9_lay_118 (by decide) (fun hc => ?_) (fun hc => ?_)
    · have hM := e_in hc hM
      refine lv_iconst (v := nI 0) hx hb dX9_lay_129 (by decide) ?_
      exact mX9_lay_b130 E l0 l1 l2 l3 l4 (nI 0) l1 h1 hM J (lv_sub hl [0, 1, 2, 3, 4] rfl)
    · have hM := e_ip hc hM
      refine lv_aload_n hx hb dX9_lay_121 rfl (lv_at hl 0 rfl) ?_
      refine lv_iload_n hx hb dX9_lay_122 rfl (lv_at hl 3 rfl) ?_
      obtain ⟨v4, hv, hM⟩ := e_bs hM
      obtain ⟨fs_, hk, -⟩ := e_bs hv
      refine e_callV (ci := 9) (As := [.int l3]) (rest := [.int l1, .null]) (n := 1) E J hk rfl (mX9_worthOf (l := l) (G := G) l0 l3 h1 _ hv) q_5_194 q_5_196 q_p_22 q_1_9 q_5_197 (by decide +kernel) rfl ⟨Nat.le_of_ble_eq_true rfl, Nat.le_of_ble_eq_true rfl⟩ (st0 := [.int l3, .ref (e_ad G l0), .int l1, .null]) (st1 := [.int v4, .int l1, .null]) rfl rfl hl.1 (Nat.le_of_ble_eq_true rfl) dX9_lay_123 ⟨Nat.le_refl _, Nat.le_refl _⟩ (fun H locs J => ?_)
      refine lv_goto (tgt := 130) hx hb dX9_lay_126 (by decide) ?_
      exact mX9_lay_b130 E l0 l1 l2 l3 l4 v4 l1 h1 hM J (lv_sub hl [0, 1, 2, 3, 4] rfl)
  · have hM := e_on1 hM
    refine W.eq (g2 := F0 m 115 ls [.ref (e_ad G a3)]) rfl ?_
    refine lv_iload_n hx hb dX9_lay_115 rfl (lv_at hl 1 rfl) ?_
    refine lv_iload_n hx hb dX9_lay_116 rfl (lv_at hl 2 rfl) ?_
    refine lv_iconst (v := nI 1) hx hb dX9_lay_117 (by decide) ?_
    refine lv_icmp_ne (tgt := 129) hx hb dX9_lay_118 (by decide) (fun hc => ?_) (fun hc => ?_)
    · have hM := e_in hc hM
      refine lv_iconst (v := nI 0) hx hb dX9_lay_129 (by decide) ?_
      exact mX9_lay_b130x1 E l0 l1 l2 l3 l4 (nI 0) l1 a3 h1 hM J (lv_sub hl [0, 1, 2, 3, 4] rfl)
    · have hM := e_ip hc hM
      refine lv_aload_n hx hb dX9_lay_121 rfl (lv_at hl 0 rfl) ?_
      refine lv_iload_n hx hb dX9_lay_122 rfl (lv_at hl 3 rfl) ?_
      obtain ⟨v5, hv, hM⟩ := e_bs hM
      obtain ⟨fs_, hk, -⟩ := e_bs hv
      refine e_callV (ci := 9) (As := [.int l3]) (rest := [.int l1, .ref (e_ad G a3)]) (n := 1) E J hk rfl (mX9_worthOf (l := l) (G := G) l0 l3 h1 _ hv) q_5_194 q_5_196 q_p_22 q_1_9 q_5_197 (by decide +kernel) rfl ⟨Nat.le_of_ble_eq_true rfl, Nat.le_of_ble_eq_true rfl⟩ (st0 := [.int l3, .ref (e_ad G l0), .int l1, .ref (e_ad G a3)]) (st1 := [.int v5, .int l1, .ref (e_ad G a3)]) rfl rfl hl.1 (Nat.le_of_ble_eq_true rfl) dX9_lay_123 ⟨Nat.le_refl _, Nat.le_refl _⟩ (fun H locs J => ?_)
      refine lv_goto (tgt := 130) hx hb dX9_lay_126 (by decide) ?_
      exact mX9_lay_b130x1 E l0 l1 l2 l3 l4 v5 l1 a3 h1 hM J (lv_sub hl [0, 1, 2, 3, 4] rfl)
set_option maxRecDepth 100000 in
set_option maxHeartbeats 4000000 in
theorem mX9_lay_b62 {p : Program} {l : Launch} {e : Env} {s : State} {m : MethodId} {args : Array Value} {below : List Frame} {meth : Method} {c : Code} {G : e_G} {res : (Int32 × e_H)} (E : e_M G p s args m meth c cX9_lay 6 (some FieldType.int) RX9) (l0 : Nat) (l1 : Int32) (l2 : Int32) (l3 : Int32) (h : e_H) (hM : fX9_lay_b62 l0 l1 l2 l3 h = some res) {H : Heap} {locs : List Loc} (J : e_J G s h H locs) {ls : Array Slot} (hl : lv_has ls 6 [(0, .ref (e_ad G l0)), (1, .int l1), (2, .int l2), (3, .int l3)]) : W p l e (e_rm 2 46) s m args below meth c H locs 0 0 (MQ below (e_Q G res.2 (some (.int res.1))) args s 0 0 (e_A G)) (F0 m 62 ls []) := by
  obtain ⟨hx, hb, hr, hml, hown, hts, hlocks, hES, hbs⟩ := id E
  unfold fX9_lay_b62 at hM
  refine lv_aload_n hx hb dX9_lay_62 rfl (lv_at hl 0 rfl) ?_
  obtain ⟨v1, hv, hM⟩ := e_bs hM
  refine e_getR (C := RX9) (T := TX9) (N := 40) E J hv rfl inX9 (by decide) q_5_43 dX9_lay_63 ?_
  rcases v1 with _ | a2
  · have hM := e_on0 hM
    refine W.eq (g2 := F0 m 66 ls [.null]) rfl ?_
    refine lv_iload_n hx hb dX9_lay_66 rfl (lv_at hl 1 rfl) ?_
    exact e_no hM
  · have hM := e_on1 hM
    refine W.eq (g2 := F0 m 66 ls [.ref (e_ad G a2)]) rfl ?_
    refine lv_iload_n hx hb dX9_lay_66 rfl (lv_at hl 1 rfl) ?_
    obtain ⟨v3, hv, hM⟩ := e_bs hM
    refine e_iald E J hv dX9_lay_67 ?_
    refine lv_istore (lv' := [(4, .int v3), (0, .ref (e_ad G l0)), (1, .int l1), (2, .int l2), (3, .int l3)]) hx hb dX9_lay_68 hl (by decide) rfl (fun ls hl => ?_)
    refine lv_aload_n hx hb dX9_lay_70 rfl (lv_at hl 1 rfl) ?_
    obtain ⟨v4, hv, hM⟩ := e_bs hM
    refine e_getR (C := RX9) (T := TX9) (N := 40) E J hv rfl inX9 (by decide) q_5_43 dX9_lay_71 ?_
    rcases v4 with _ | a5
    · have hM := e_on0 hM
      refine W.eq (g2 := F0 m 74 ls [.null]) rfl ?_
      refine lv_iload_n hx hb dX9_lay_74 rfl (lv_at hl 2 rfl) ?_
      refine lv_iload_n hx hb dX9_lay_75 rfl (lv_at hl 3 rfl) ?_
      exact e_no hM
    · have hM := e_on1 hM
      refine W.eq (g2 := F0 m 74 ls [.ref (e_ad G a5)]) rfl ?_
      refine lv_iload_n hx hb dX9_lay_74 rfl (lv_at hl 2 rfl) ?_
      refine lv_iload_n hx hb dX9_lay_75 rfl (lv_at hl 3 rfl) ?_
      obtain ⟨h7, hv, hM⟩ := e_bs hM
      refine e_iast E J hv dX9_lay_76 (fun H locs J => ?_)
      refine lv_aload_n hx hb dX9_lay_77 rfl (lv_at hl 1 rfl) ?_
      obtain ⟨v8, hv, hM⟩ := e_bs hM
      refine e_getR (C := RX9) (T := TX9) (N := 40) E J hv rfl inX9 (by decide) q_5_44 dX9_lay_78 ?_
      rcases v8 with _ | a9
      · have hM := e_on0 hM
        refine W.eq (g2 := F0 m 81 ls [.null]) rfl ?_
        refine lv_iload_n hx hb dX9_lay_81 rfl (lv_at hl 2 rfl) ?_
        refine lv_iload_n hx hb dX9_lay_82 rfl (lv_at hl 3 rfl) ?_
        refine lv_iconst (v := nI 1) hx hb dX9_lay_83 (by decide) ?_
        refine lv_icmp_ne (tgt := 95) hx hb dX9_lay_84 (by decide) (fun hc => ?_) (fun hc => ?_)
        · have hM := e_in hc hM
          refine lv_iload_n hx hb dX9_lay_95 rfl (lv_at hl 3 rfl) ?_
          refine lv_iconst (v := nI 2) hx hb dX9_lay_96 (by decide) ?_
          refine lv_icmp_ne (tgt := 109) hx hb dX9_lay_97 (by decide) (fun hc => ?_) (fun hc => ?_)
          · have hM := e_in hc hM
            refine lv_iload_n hx hb dX9_lay_109 rfl (lv_at hl 4 rfl) ?_
            exact mX9_lay_b110 E l0 l1 l2 l3 v3 l3 l1 h7 hM J (lv_sub hl [1, 2, 3, 4, 0] rfl)
          · have hM := e_ip hc hM
            refine lv_aload_n hx hb dX9_lay_100 rfl (lv_at hl 1 rfl) ?_
            obtain ⟨v11, hv, hM⟩ := e_bs hM
            refine e_getR (C := RX9) (T := TX9) (N := 40) E J hv rfl inX9 (by decide) q_5_41 dX9_lay_101 ?_
            rcases v11 with _ | a12
            · have hM := e_on0 hM
              refine W.eq (g2 := F0 m 104 ls [.null, .int l1, .null]) rfl ?_
              refine lv_iload_n hx hb dX9_lay_104 rfl (lv_at hl 4 rfl) ?_
              exact e_no hM
            · have hM := e_on1 hM
              refine W.eq (g2 := F0 m 104 ls [.ref (e_ad G a12), .int l1, .null]) rfl ?_
              refine lv_iload_n hx hb dX9_lay_104 rfl (lv_at hl 4 rfl) ?_
              obtain ⟨v13, hv, hM⟩ := e_bs hM
              refine e_iald E J hv dX9_lay_105 ?_
              refine lv_goto (tgt := 110) hx hb dX9_lay_106 (by decide) ?_
              exact mX9_lay_b110 E l0 l1 l2 l3 v3 v13 l1 h7 hM J (lv_sub hl [1, 2, 3, 4, 0] rfl)
        · have hM := e_ip hc hM
          refine lv_aload_n hx hb dX9_lay_87 rfl (lv_at hl 1 rfl) ?_
          refine lv_iload_n hx hb dX9_lay_88 rfl (lv_at hl 4 rfl) ?_
          obtain ⟨v10, hv, hM⟩ := e_bs hM
          obtain ⟨fs_, hk, -⟩ := e_bs hv
          refine e_callV (ci := 9) (As := [.int l3]) (rest := [.int l1, .null]) (n := 1) E J hk rfl (mX9_kindOf (l := l) (G := G) l0 l3 h7 _ hv) q_5_168 q_5_170 q_p_18 q_1_9 q_5_171 (by decide +kernel) rfl ⟨Nat.le_of_ble_eq_true rfl, Nat.le_of_ble_eq_true rfl⟩ (st0 := [.int l3, .ref (e_ad G l0), .int l1, .null]) (st1 := [.int v10, .int l1, .null]) rfl rfl hl.1 (Nat.le_of_ble_eq_true rfl) dX9_lay_89 ⟨Nat.le_refl _, Nat.le_refl _⟩ (fun H locs J => ?_)
          refine lv_goto (tgt := 110) hx hb dX9_lay_92 (by decide) ?_
          exact mX9_lay_b110 E l0 l1 l2 l3 v3 v10 l1 h7 hM J (lv_sub hl [1, 2, 3, 4, 0] rfl)
      · have hM := e_on1 hM
        refine W.eq (g2 := F0 m 81 ls [.ref (e_ad G a9)]) rfl ?_
        refine lv_iload_n hx hb dX9_lay_81 rfl (lv_at hl 2 rfl) ?_
        refine lv_iload_n hx hb dX9_lay_82 rfl (lv_at hl 3 rfl) ?_
        refine lv_iconst (v := nI 1) hx hb dX9_lay_83 (by decide) ?_
        refine lv_icmp_ne (tgt := 95) hx hb dX9_lay_84 (by decide) (fun hc => ?_) (fun hc => ?_)
        · have hM := e_in hc hM
          refine lv_iload_n hx hb dX9_lay_95 rfl (lv_at hl 3 rfl) ?_
          refine lv_iconst (v := nI 2) hx hb dX9_lay_96 (by decide) ?_
          refine lv_icmp_ne (tgt := 109) hx hb dX9_lay_97 (by decide) (fun hc => ?_) (fun hc => ?_)
          · have hM := e_in hc hM
            refine lv_iload_n hx hb dX9_lay_109 rfl (lv_at hl 4 rfl) ?_
            exact mX9_lay_b110x1 E l0 l1 l2 l3 v3 l3 l1 a9 h7 hM J (lv_sub hl [1, 2, 3, 4, 0] rfl)
          · have hM := e_ip hc hM
            refine lv_aload_n hx hb dX9_lay_100 rfl (lv_at hl 1 rfl) ?_
            obtain ⟨v15, hv, hM⟩ := e_bs hM
            refine e_getR (C := RX9) (T := TX9) (N := 40) E J hv rfl inX9 (by decide) q_5_41 dX9_lay_101 ?_
            rcases v15 with _ | a16
            · have hM := e_on0 hM
              refine W.eq (g2 := F0 m 104 ls [.null, .int l1, .ref (e_ad G a9)]) rfl ?_
              refine lv_iload_n hx hb dX9_lay_104 rfl (lv_at hl 4 rfl) ?_
              exact e_no hM
            · have hM := e_on1 hM
              refine W.eq (g2 := F0 m 104 ls [.ref (e_ad G a16), .int l1, .ref (e_ad G a9)]) rfl ?_
              refine lv_iload_n hx hb dX9_lay_104 rfl (lv_at hl 4 rfl) ?_
              obtain ⟨v17, hv, hM⟩ := e_bs hM
              refine e_iald E J hv dX9_lay_105 ?_
              refine lv_goto (tgt := 110) hx hb dX9_lay_106 (by decide) ?_
              exact mX9_lay_b110x1 E l0 l1 l2 l3 v3 v17 l1 a9 h7 hM J (lv_sub hl [1, 2, 3, 4, 0] rfl)
        · have hM := e_ip hc hM
          refine lv_aload_n hx hb dX9_lay_87 rfl (lv_at hl 1 rfl) ?_
          refine lv_iload_n hx hb dX9_lay_88 rfl (lv_at hl 4 rfl) ?_
          obtain ⟨v14, hv, hM⟩ := e_bs hM
          obtain ⟨fs_, hk, -⟩ := e_bs hv
          refine e_callV (ci := 9) (As := [.int l3]) (rest := [.int l1, .ref (e_ad G a9)]) (n := 1) E J hk rfl (mX9_kindOf (l := l) (G := G) l0 l3 h7 _ hv) q_5_168 q_5_170 q_p_18 q_1_9 q_5_171 (by decide +kernel) rfl ⟨Nat.le_of_ble_eq_true rfl, Nat.le_of_ble_eq_true rfl⟩ (st0 := [.int l3, .ref (e_ad G l0), .int l1, .ref (e_ad G a9)]) (st1 := [.int v14, .int l1, .ref (e_ad G a9)]) rfl rfl hl.1 (Nat.le_of_ble_eq_true rfl) dX9_lay_89 ⟨Nat.le_refl _, Nat.le_refl _⟩ (fun H locs J => ?_)
          refine lv_goto (tgt := 110) hx hb dX9_lay_92 (by decide) ?_
          exact mX9_lay_b110x1 E l0 l1 l2 l3 v3 v14 l1 a9 h7 hM J (lv_sub hl [1, 2, 3, 4, 0] rfl)
set_option maxRecDepth 100000 in
set_option maxHeartbeats 4000000 in
theorem mX9_lay_b44 {p : Program} {l : Launch} {e : Env} {s : State} {m : MethodId} {args : Array Value} {below : List Frame} {meth : Method} {c : Code} {G : e_G} {res : (Int32 × e_H)} (E : e_M G p s args m meth c cX9_lay 6 (some FieldType.int) RX9) (l0 : Nat) (l1 : Int32) (l2 : Int32) (l3 : Int32) (h : e_H) (hM : fX9_lay_b44 l0 l1 l2 l3 h = some res) {H : Heap} {locs : List Loc} (J : e_J G s h H locs) {ls : Array Slot} (hl : lv_has ls 6 [(0, .ref (e_ad G l0)), (1, .int l1), (2, .int l2), (3, .int l3)]) : W p l e (e_rm 2 46) s m args below meth c H locs 0 0 (MQ below (e_Q G res.2 (some (.int res.1))) args s 0 0 (e_A G)) (F0 m 44 ls []) := by
  obtain ⟨hx, hb, hr, hml, hown, hts, hlocks, hES, hbs⟩ := id E
  unfold fX9_lay_b44 at hM
  refine lv_iload_n hx hb dX9_lay_44 rfl (lv_at hl 2 rfl) ?_
  refine lv_iconst (v := nI 2) hx hb dX9_lay_45 (by decide) ?_
  refine lv_icmp_ne (tgt := 62) hx hb dX9_lay_46 (by decide) (fun hc => ?_) (fun hc => ?_)
  · have hM := e_in hc hM
    exact mX9_lay_b62 E l0 l1 l2 l3 h hM J (lv_sub hl [0, 1, 2, 3] rfl)
  · have hM := e_ip hc hM
    refine lv_aload_n hx hb dX9_lay_49 rfl (lv_at hl 0 rfl) ?_
    obtain ⟨v1, hv, hM⟩ := e_bs hM
    refine e_getR (C := RX9) (T := TX9) (N := 40) E J hv rfl inX9 (by decide) q_5_40 dX9_lay_50 ?_
    rcases v1 with _ | a2
    · have hM := e_on0 hM
      refine W.eq (g2 := F0 m 53 ls [.null]) rfl ?_
      refine lv_iload_n hx hb dX9_lay_53 rfl (lv_at hl 3 rfl) ?_
      exact e_no hM
    · have hM := e_on1 hM
      refine W.eq (g2 := F0 m 53 ls [.ref (e_ad G a2)]) rfl ?_
      refine lv_iload_n hx hb dX9_lay_53 rfl (lv_at hl 3 rfl) ?_
      obtain ⟨v3, hv, hM⟩ := e_bs hM
      refine e_iald E J hv dX9_lay_54 ?_
      refine lv_if_ge (tgt := 62) hx hb dX9_lay_55 (by decide) (fun hc => ?_) (fun hc => ?_)
      · have hM := e_ip hc hM
        exact mX9_lay_b62 E l0 l1 l2 l3 h hM J (lv_sub hl [0, 1, 2, 3] rfl)
      · have hM := e_in hc hM
        refine lv_ldcw (v := -1000000011) hx hb hown (hts _ q_6_193) dX9_lay_58 ?_
        obtain rfl := e_so hM
        exact e_iret E J dX9_lay_61
set_option maxRecDepth 100000 in
set_option maxHeartbeats 4000000 in
theorem mX9_lay_b29 {p : Program} {l : Launch} {e : Env} {s : State} {m : MethodId} {args : Array Value} {below : List Frame} {meth : Method} {c : Code} {G : e_G} {res : (Int32 × e_H)} (E : e_M G p s args m meth c cX9_lay 6 (some FieldType.int) RX9) (l0 : Nat) (l1 : Int32) (l2 : Int32) (l3 : Int32) (h : e_H) (hM : fX9_lay_b29 l0 l1 l2 l3 h = some res) {H : Heap} {locs : List Loc} (J : e_J G s h H locs) {ls : Array Slot} (hl : lv_has ls 6 [(0, .ref (e_ad G l0)), (1, .int l1), (2, .int l2), (3, .int l3)]) : W p l e (e_rm 2 46) s m args below meth c H locs 0 0 (MQ below (e_Q G res.2 (some (.int res.1))) args s 0 0 (e_A G)) (F0 m 29 ls []) := by
  obtain ⟨hx, hb, hr, hml, hown, hts, hlocks, hES, hbs⟩ := id E
  unfold fX9_lay_b29 at hM
  refine lv_iload_n hx hb dX9_lay_29 rfl (lv_at hl 2 rfl) ?_
  refine lv_iconst (v := nI 2) hx hb dX9_lay_30 (by decide) ?_
  refine lv_icmp_ne (tgt := 44) hx hb dX9_lay_31 (by decide) (fun hc => ?_) (fun hc => ?_)
  · have hM := e_in hc hM
    exact mX9_lay_b44 E l0 l1 l2 l3 h hM J (lv_sub hl [0, 1, 2, 3] rfl)
  · have hM := e_ip hc hM
    refine lv_iload_n hx hb dX9_lay_34 rfl (lv_at hl 3 rfl) ?_
    obtain ⟨v1, hv, hM⟩ := e_bs hM
    refine e_callS (As := [.int l3]) (rest := []) (n := 1) E J (mX9_isSheet (l := l) (G := G) l3 h _ hv) q_6_185 q_6_186 q_1_9 q_6_187 (by decide +kernel) rfl ⟨Nat.le_of_ble_eq_true rfl, Nat.le_of_ble_eq_true rfl⟩ (st0 := [.int l3]) (st1 := [.int (e_b v1)]) rfl rfl hl.1 (Nat.le_of_ble_eq_true rfl) dX9_lay_35 ⟨Nat.le_refl _, Nat.le_refl _⟩ (fun H locs J => ?_)
    refine lv_if_ne (tgt := 44) hx hb dX9_lay_38 (by decide) (fun hc => ?_) (fun hc => ?_)
    · have hM := e_in hc hM
      exact mX9_lay_b44 E l0 l1 l2 l3 h hM J (lv_sub hl [0, 1, 2, 3] rfl)
    · have hM := e_ip hc hM
      refine lv_ldc (v := -1000000001) hx hb hown (hts _ q_5_140) dX9_lay_41 ?_
      obtain rfl := e_so hM
      exact e_iret E J dX9_lay_43
set_option maxRecDepth 100000 in
set_option maxHeartbeats 4000000 in
theorem mX9_lay {l : Launch} {G : e_G} (l0 : Nat) (l1 : Int32) (l2 : Int32) (l3 : Int32) (h : e_H) (res : (Int32 × e_H)) (hM : fX9_lay l0 l1 l2 l3 h = some res) : Met l yX9_lay (e_W yX9_lay cX9_lay 6 (some FieldType.int)) (e_rm 2 46) (e_Pc G h [.ref (e_ad G l0), .int l1, .int l2, .int l3]) (e_Q G res.2 (some (.int res.1))) 0 0 (e_A G) := by
  refine Met.ofW (cc := cX9_lay) (maxL := 6) (ret := (some FieldType.int)) (by decide) rfl ?_
  intro p e s m args below meth c s₁ B hml hv
  obtain ⟨rfl, hS, hP⟩ := hv
  have E := e_enter (own := RX9) (ret := (some FieldType.int)) B hml rfl hS hP
  have J : e_J G s h s.heap [] := ⟨hP, va_S.rf⟩
  have hl := lv_entry ([.ref (e_ad G l0), .int l1, .int l2, .int l3]) (n := 6) (Nat.le_of_ble_eq_true rfl)
  rw [lg_entry_eq]
  generalize (lg_sl ([.ref (e_ad G l0), .int l1, .int l2, .int l3]) ++ List.replicate (6 - (lg_sl ([.ref (e_ad G l0), .int l1, .int l2, .int l3])).length) Slot.unset).toArray = ls at hl ⊢
  have hl : lv_has ls 6 [(0, .ref (e_ad G l0)), (1, .int l1), (2, .int l2), (3, .int l3)] := hl
  obtain ⟨hx, hb, hr, hml, hown, hts, hlocks, hES, hbs⟩ := id E
  unfold fX9_lay at hM
  obtain ⟨fs_, hk_, hM⟩ := e_bs hM
  refine lv_iload_n hx hb dX9_lay_0 rfl (lv_at hl 1 rfl) ?_
  obtain ⟨v1, hv, hM⟩ := e_bs hM
  refine e_callS (As := [.int l1]) (rest := []) (n := 1) E J (mX9_isSlot (l := l) (G := G) l1 h _ hv) q_6_209 q_6_210 q_1_9 q_6_211 (by decide +kernel) rfl ⟨Nat.le_of_ble_eq_true rfl, Nat.le_of_ble_eq_true rfl⟩ (st0 := [.int l1]) (st1 := [.int (e_b v1)]) rfl rfl hl.1 (Nat.le_of_ble_eq_true rfl) dX9_lay_1 ⟨Nat.le_refl _, Nat.le_refl _⟩ (fun H locs J => ?_)
  refine lv_if_eq (tgt := 41) hx hb dX9_lay_4 (by decide) (fun hc => ?_) (fun hc => ?_)
  · have hM := e_ip hc hM
    refine lv_ldc (v := -1000000001) hx hb hown (hts _ q_5_140) dX9_lay_41 ?_
    obtain rfl := e_so hM
    exact e_iret E J dX9_lay_43
  · have hM := e_in hc hM
    refine lv_iload_n hx hb dX9_lay_7 rfl (lv_at hl 2 rfl) ?_
    refine lv_iconst (v := nI 0) hx hb dX9_lay_8 (by decide) ?_
    refine lv_iconst (v := nI 3) hx hb dX9_lay_9 (by decide) ?_
    obtain ⟨v2, hv, hM⟩ := e_bs hM
    refine e_callS (As := [.int l2, .int (nI 0), .int (nI 3)]) (rest := []) (n := 3) E J (mX9_in (l := l) (G := G) l2 (nI 0) (nI 3) h _ hv) q_5_137 q_5_138 q_1_9 q_5_139 (by decide +kernel) rfl ⟨Nat.le_of_ble_eq_true rfl, Nat.le_of_ble_eq_true rfl⟩ (st0 := [.int (nI 3), .int (nI 0), .int l2]) (st1 := [.int (e_b v2)]) rfl rfl hl.1 (Nat.le_of_ble_eq_true rfl) dX9_lay_10 ⟨Nat.le_refl _, Nat.le_refl _⟩ (fun H locs J => ?_)
    refine lv_if_eq (tgt := 41) hx hb dX9_lay_13 (by decide) (fun hc => ?_) (fun hc => ?_)
    · have hM := e_ip hc hM
      refine lv_ldc (v := -1000000001) hx hb hown (hts _ q_5_140) dX9_lay_41 ?_
      obtain rfl := e_so hM
      exact e_iret E J dX9_lay_43
    · have hM := e_in hc hM
      refine lv_iload_n hx hb dX9_lay_16 rfl (lv_at hl 2 rfl) ?_
      refine lv_iconst (v := nI 1) hx hb dX9_lay_17 (by decide) ?_
      refine lv_icmp_ne (tgt := 29) hx hb dX9_lay_18 (by decide) (fun hc => ?_) (fun hc => ?_)
      · have hM := e_in hc hM
        exact mX9_lay_b29 E l0 l1 l2 l3 h hM J (lv_sub hl [0, 1, 2, 3] rfl)
      · have hM := e_ip hc hM
        refine lv_aload_n hx hb dX9_lay_21 rfl (lv_at hl 0 rfl) ?_
        refine lv_iload_n hx hb dX9_lay_22 rfl (lv_at hl 3 rfl) ?_
        obtain ⟨v3, hv, hM⟩ := e_bs hM
        obtain ⟨fs_, hk, -⟩ := e_bs hv
        refine e_callV (ci := 9) (As := [.int l3]) (rest := []) (n := 1) E J hk rfl (mX9_isCurve (l := l) (G := G) l0 l3 h _ hv) q_5_150 q_5_152 q_p_16 q_1_9 q_5_153 (by decide +kernel) rfl ⟨Nat.le_of_ble_eq_true rfl, Nat.le_of_ble_eq_true rfl⟩ (st0 := [.int l3, .ref (e_ad G l0)]) (st1 := [.int (e_b v3)]) rfl rfl hl.1 (Nat.le_of_ble_eq_true rfl) dX9_lay_23 ⟨Nat.le_refl _, Nat.le_refl _⟩ (fun H locs J => ?_)
        refine lv_if_eq (tgt := 41) hx hb dX9_lay_26 (by decide) (fun hc => ?_) (fun hc => ?_)
        · have hM := e_ip hc hM
          refine lv_ldc (v := -1000000001) hx hb hown (hts _ q_5_140) dX9_lay_41 ?_
          obtain rfl := e_so hM
          exact e_iret E J dX9_lay_43
        · have hM := e_in hc hM
          exact mX9_lay_b29 E l0 l1 l2 l3 h hM J (lv_sub hl [0, 1, 2, 3] rfl)
set_option maxRecDepth 100000 in
set_option maxHeartbeats 4000000 in
theorem mX9_ask {l : Launch} {G : e_G} (l0 : Nat) (l1 : Int32) (l2 : Int32) (h : e_H) (res : Int32) (hM : fX9_ask l0 l1 l2 h = some res) : Met l yX9_ask (e_W yX9_ask cX9_ask 3 (some FieldType.int)) (e_rm 2 42) (e_Pc G h [.ref (e_ad G l0), .int l1, .int l2]) (e_Q G h (some (.int res))) 0 0 (e_A G) := by
  refine Met.ofW (cc := cX9_ask) (maxL := 3) (ret := (some FieldType.int)) (by decide) rfl ?_
  intro p e s m args below meth c s₁ B hml hv
  obtain ⟨rfl, hS, hP⟩ := hv
  have E := e_enter (own := RX9) (ret := (some FieldType.int)) B hml rfl hS hP
  have J : e_J G s h s.heap [] := ⟨hP, va_S.rf⟩
  have hl := lv_entry ([.ref (e_ad G l0), .int l1, .int l2]) (n := 3) (Nat.le_of_ble_eq_true rfl)
  rw [lg_entry_eq]
  generalize (lg_sl ([.ref (e_ad G l0), .int l1, .int l2]) ++ List.replicate (3 - (lg_sl ([.ref (e_ad G l0), .int l1, .int l2])).length) Slot.unset).toArray = ls at hl ⊢
  have hl : lv_has ls 3 [(0, .ref (e_ad G l0)), (1, .int l1), (2, .int l2)] := hl
  obtain ⟨hx, hb, hr, hml, hown, hts, hlocks, hES, hbs⟩ := id E
  unfold fX9_ask at hM
  obtain ⟨fs_, hk_, hM⟩ := e_bs hM
  refine lv_iload_n hx hb dX9_ask_0 rfl (lv_at hl 1 rfl) ?_
  obtain ⟨v1, hv, hM⟩ := e_bs hM
  refine e_callS (As := [.int l1]) (rest := []) (n := 1) E J (mX9_isSlot (l := l) (G := G) l1 h _ hv) q_6_209 q_6_210 q_1_9 q_6_211 (by decide +kernel) rfl ⟨Nat.le_of_ble_eq_true rfl, Nat.le_of_ble_eq_true rfl⟩ (st0 := [.int l1]) (st1 := [.int (e_b v1)]) rfl rfl hl.1 (Nat.le_of_ble_eq_true rfl) dX9_ask_1 ⟨Nat.le_refl _, Nat.le_refl _⟩ (fun H locs J => ?_)
  refine lv_if_eq (tgt := 16) hx hb dX9_ask_4 (by decide) (fun hc => ?_) (fun hc => ?_)
  · have hM := e_ip hc hM
    refine lv_ldc (v := -1000000001) hx hb hown (hts _ q_5_140) dX9_ask_16 ?_
    obtain rfl := e_so hM
    exact e_iret E J dX9_ask_18
  · have hM := e_in hc hM
    refine lv_iload_n hx hb dX9_ask_7 rfl (lv_at hl 2 rfl) ?_
    refine lv_iconst (v := nI 0) hx hb dX9_ask_8 (by decide) ?_
    refine lv_iconst (v := nI 5) hx hb dX9_ask_9 (by decide) ?_
    obtain ⟨v2, hv, hM⟩ := e_bs hM
    refine e_callS (As := [.int l2, .int (nI 0), .int (nI 5)]) (rest := []) (n := 3) E J (mX9_in (l := l) (G := G) l2 (nI 0) (nI 5) h _ hv) q_5_137 q_5_138 q_1_9 q_5_139 (by decide +kernel) rfl ⟨Nat.le_of_ble_eq_true rfl, Nat.le_of_ble_eq_true rfl⟩ (st0 := [.int (nI 5), .int (nI 0), .int l2]) (st1 := [.int (e_b v2)]) rfl rfl hl.1 (Nat.le_of_ble_eq_true rfl) dX9_ask_10 ⟨Nat.le_refl _, Nat.le_refl _⟩ (fun H locs J => ?_)
    refine lv_if_ne (tgt := 19) hx hb dX9_ask_13 (by decide) (fun hc => ?_) (fun hc => ?_)
    · have hM := e_in hc hM
      refine lv_aload_n hx hb dX9_ask_19 rfl (lv_at hl 0 rfl) ?_
      obtain ⟨v3, hv, hM⟩ := e_bs hM
      refine e_getR (C := RX9) (T := TX9) (N := 40) E J hv rfl inX9 (by decide) q_5_43 dX9_ask_20 ?_
      rcases v3 with _ | a4
      · have hM := e_on0 hM
        refine W.eq (g2 := F0 m 23 ls [.null]) rfl ?_
        refine lv_iload_n hx hb dX9_ask_23 rfl (lv_at hl 1 rfl) ?_
        exact e_no hM
      · have hM := e_on1 hM
        refine W.eq (g2 := F0 m 23 ls [.ref (e_ad G a4)]) rfl ?_
        refine lv_iload_n hx hb dX9_ask_23 rfl (lv_at hl 1 rfl) ?_
        obtain ⟨v5, hv, hM⟩ := e_bs hM
        refine e_iald E J hv dX9_ask_24 ?_
        refine lv_if_ne (tgt := 32) hx hb dX9_ask_25 (by decide) (fun hc => ?_) (fun hc => ?_)
        · have hM := e_in hc hM
          refine lv_aload_n hx hb dX9_ask_32 rfl (lv_at hl 0 rfl) ?_
          obtain ⟨v6, hv, hM⟩ := e_bs hM
          refine e_getR (C := RX9) (T := TX9) (N := 40) E J hv rfl inX9 (by decide) q_5_43 dX9_ask_33 ?_
          rcases v6 with _ | a7
          · have hM := e_on0 hM
            refine W.eq (g2 := F0 m 36 ls [.null]) rfl ?_
            refine lv_iload_n hx hb dX9_ask_36 rfl (lv_at hl 1 rfl) ?_
            exact e_no hM
          · have hM := e_on1 hM
            refine W.eq (g2 := F0 m 36 ls [.ref (e_ad G a7)]) rfl ?_
            refine lv_iload_n hx hb dX9_ask_36 rfl (lv_at hl 1 rfl) ?_
            obtain ⟨v8, hv, hM⟩ := e_bs hM
            refine e_iald E J hv dX9_ask_37 ?_
            refine lv_iconst (v := nI 1) hx hb dX9_ask_38 (by decide) ?_
            refine lv_icmp_ne (tgt := 64) hx hb dX9_ask_39 (by decide) (fun hc => ?_) (fun hc => ?_)
            · have hM := e_in hc hM
              refine lv_ldc (v := -1000000012) hx hb hown (hts _ q_5_217) dX9_ask_64 ?_
              obtain rfl := e_so hM
              exact e_iret E J dX9_ask_66
            · have hM := e_ip hc hM
              refine lv_aload_n hx hb dX9_ask_42 rfl (lv_at hl 0 rfl) ?_
              obtain ⟨v9, hv, hM⟩ := e_bs hM
              refine e_getR (C := RX9) (T := TX9) (N := 40) E J hv rfl inX9 (by decide) q_5_44 dX9_ask_43 ?_
              rcases v9 with _ | a10
              · have hM := e_on0 hM
                refine W.eq (g2 := F0 m 46 ls [.null]) rfl ?_
                refine lv_iload_n hx hb dX9_ask_46 rfl (lv_at hl 1 rfl) ?_
                exact e_no hM
              · have hM := e_on1 hM
                refine W.eq (g2 := F0 m 46 ls [.ref (e_ad G a10)]) rfl ?_
                refine lv_iload_n hx hb dX9_ask_46 rfl (lv_at hl 1 rfl) ?_
                obtain ⟨v11, hv, hM⟩ := e_bs hM
                refine e_iald E J hv dX9_ask_47 ?_
                refine lv_iload_n hx hb dX9_ask_48 rfl (lv_at hl 2 rfl) ?_
                obtain ⟨v12, hv, hM⟩ := e_bs hM
                refine e_callS (As := [.int v11, .int l2]) (rest := []) (n := 2) E J (mX9_isUnder (l := l) (G := G) v11 l2 h _ hv) q_5_214 q_5_215 q_1_9 q_5_216 (by decide +kernel) rfl ⟨Nat.le_of_ble_eq_true rfl, Nat.le_of_ble_eq_true rfl⟩ (st0 := [.int l2, .int v11]) (st1 := [.int (e_b v12)]) rfl rfl hl.1 (Nat.le_of_ble_eq_true rfl) dX9_ask_49 ⟨Nat.le_refl _, Nat.le_refl _⟩ (fun H locs J => ?_)
                refine lv_if_eq (tgt := 64) hx hb dX9_ask_52 (by decide) (fun hc => ?_) (fun hc => ?_)
                · have hM := e_ip hc hM
                  refine lv_ldc (v := -1000000012) hx hb hown (hts _ q_5_217) dX9_ask_64 ?_
                  obtain rfl := e_so hM
                  exact e_iret E J dX9_ask_66
                · have hM := e_in hc hM
                  refine lv_aload_n hx hb dX9_ask_55 rfl (lv_at hl 0 rfl) ?_
                  obtain ⟨v13, hv, hM⟩ := e_bs hM
                  refine e_getR (C := RX9) (T := TX9) (N := 40) E J hv rfl inX9 (by decide) q_5_45 dX9_ask_56 ?_
                  rcases v13 with _ | a14
                  · have hM := e_on0 hM
                    refine W.eq (g2 := F0 m 59 ls [.null]) rfl ?_
                    refine lv_iload_n hx hb dX9_ask_59 rfl (lv_at hl 1 rfl) ?_
                    exact e_no hM
                  · have hM := e_on1 hM
                    refine W.eq (g2 := F0 m 59 ls [.ref (e_ad G a14)]) rfl ?_
                    refine lv_iload_n hx hb dX9_ask_59 rfl (lv_at hl 1 rfl) ?_
                    obtain ⟨v15, hv, hM⟩ := e_bs hM
                    refine e_iald E J hv dX9_ask_60 ?_
                    refine lv_goto (tgt := 66) hx hb dX9_ask_61 (by decide) ?_
                    obtain rfl := e_so hM
                    exact e_iret E J dX9_ask_66
        · have hM := e_ip hc hM
          refine lv_ldcw (v := -1000000011) hx hb hown (hts _ q_6_193) dX9_ask_28 ?_
          obtain rfl := e_so hM
          exact e_iret E J dX9_ask_31
    · have hM := e_ip hc hM
      refine lv_ldc (v := -1000000001) hx hb hown (hts _ q_5_140) dX9_ask_16 ?_
      obtain rfl := e_so hM
      exact e_iret E J dX9_ask_18
set_option maxRecDepth 100000 in
set_option maxHeartbeats 4000000 in
theorem mX9_item {l : Launch} {G : e_G} (l0 : Nat) (l1 : Int32) (l2 : Int32) (h : e_H) (res : Int32) (hM : fX9_item l0 l1 l2 h = some res) : Met l yX9_item (e_W yX9_item cX9_item 4 (some FieldType.int)) (e_rm 2 42) (e_Pc G h [.ref (e_ad G l0), .int l1, .int l2]) (e_Q G h (some (.int res))) 0 0 (e_A G) := by
  refine Met.ofW (cc := cX9_item) (maxL := 4) (ret := (some FieldType.int)) (by decide) rfl ?_
  intro p e s m args below meth c s₁ B hml hv
  obtain ⟨rfl, hS, hP⟩ := hv
  have E := e_enter (own := RX9) (ret := (some FieldType.int)) B hml rfl hS hP
  have J : e_J G s h s.heap [] := ⟨hP, va_S.rf⟩
  have hl := lv_entry ([.ref (e_ad G l0), .int l1, .int l2]) (n := 4) (Nat.le_of_ble_eq_true rfl)
  rw [lg_entry_eq]
  generalize (lg_sl ([.ref (e_ad G l0), .int l1, .int l2]) ++ List.replicate (4 - (lg_sl ([.ref (e_ad G l0), .int l1, .int l2])).length) Slot.unset).toArray = ls at hl ⊢
  have hl : lv_has ls 4 [(0, .ref (e_ad G l0)), (1, .int l1), (2, .int l2)] := hl
  obtain ⟨hx, hb, hr, hml, hown, hts, hlocks, hES, hbs⟩ := id E
  unfold fX9_item at hM
  obtain ⟨fs_, hk_, hM⟩ := e_bs hM
  refine lv_iload_n hx hb dX9_item_0 rfl (lv_at hl 1 rfl) ?_
  obtain ⟨v1, hv, hM⟩ := e_bs hM
  refine e_callS (As := [.int l1]) (rest := []) (n := 1) E J (mX9_isSlot (l := l) (G := G) l1 h _ hv) q_6_209 q_6_210 q_1_9 q_6_211 (by decide +kernel) rfl ⟨Nat.le_of_ble_eq_true rfl, Nat.le_of_ble_eq_true rfl⟩ (st0 := [.int l1]) (st1 := [.int (e_b v1)]) rfl rfl hl.1 (Nat.le_of_ble_eq_true rfl) dX9_item_1 ⟨Nat.le_refl _, Nat.le_refl _⟩ (fun H locs J => ?_)
  refine lv_if_ne (tgt := 10) hx hb dX9_item_4 (by decide) (fun hc => ?_) (fun hc => ?_)
  · have hM := e_in hc hM
    refine lv_aload_n hx hb dX9_item_10 rfl (lv_at hl 0 rfl) ?_
    obtain ⟨v2, hv, hM⟩ := e_bs hM
    refine e_getR (C := RX9) (T := TX9) (N := 40) E J hv rfl inX9 (by decide) q_5_43 dX9_item_11 ?_
    rcases v2 with _ | a3
    · have hM := e_on0 hM
      refine W.eq (g2 := F0 m 14 ls [.null]) rfl ?_
      refine lv_iload_n hx hb dX9_item_14 rfl (lv_at hl 1 rfl) ?_
      exact e_no hM
    · have hM := e_on1 hM
      refine W.eq (g2 := F0 m 14 ls [.ref (e_ad G a3)]) rfl ?_
      refine lv_iload_n hx hb dX9_item_14 rfl (lv_at hl 1 rfl) ?_
      obtain ⟨v4, hv, hM⟩ := e_bs hM
      refine e_iald E J hv dX9_item_15 ?_
      refine lv_if_ne (tgt := 23) hx hb dX9_item_16 (by decide) (fun hc => ?_) (fun hc => ?_)
      · have hM := e_in hc hM
        refine lv_aload_n hx hb dX9_item_23 rfl (lv_at hl 0 rfl) ?_
        obtain ⟨v5, hv, hM⟩ := e_bs hM
        refine e_getR (C := RX9) (T := TX9) (N := 40) E J hv rfl inX9 (by decide) q_5_43 dX9_item_24 ?_
        rcases v5 with _ | a6
        · have hM := e_on0 hM
          refine W.eq (g2 := F0 m 27 ls [.null]) rfl ?_
          refine lv_iload_n hx hb dX9_item_27 rfl (lv_at hl 1 rfl) ?_
          exact e_no hM
        · have hM := e_on1 hM
          refine W.eq (g2 := F0 m 27 ls [.ref (e_ad G a6)]) rfl ?_
          refine lv_iload_n hx hb dX9_item_27 rfl (lv_at hl 1 rfl) ?_
          obtain ⟨v7, hv, hM⟩ := e_bs hM
          refine e_iald E J hv dX9_item_28 ?_
          refine lv_iconst (v := nI 2) hx hb dX9_item_29 (by decide) ?_
          refine lv_icmp_eq (tgt := 36) hx hb dX9_item_30 (by decide) (fun hc => ?_) (fun hc => ?_)
          · have hM := e_ip hc hM
            refine lv_iload_n hx hb dX9_item_36 rfl (lv_at hl 2 rfl) ?_
            refine lv_iconst (v := nI 0) hx hb dX9_item_37 (by decide) ?_
            refine lv_aload_n hx hb dX9_item_38 rfl (lv_at hl 0 rfl) ?_
            obtain ⟨v8, hv, hM⟩ := e_bs hM
            refine e_getR (C := RX9) (T := TX9) (N := 40) E J hv rfl inX9 (by decide) q_5_44 dX9_item_39 ?_
            rcases v8 with _ | a9
            · have hM := e_on0 hM
              refine W.eq (g2 := F0 m 42 ls [.null, .int (nI 0), .int l2]) rfl ?_
              refine lv_iload_n hx hb dX9_item_42 rfl (lv_at hl 1 rfl) ?_
              exact e_no hM
            · have hM := e_on1 hM
              refine W.eq (g2 := F0 m 42 ls [.ref (e_ad G a9), .int (nI 0), .int l2]) rfl ?_
              refine lv_iload_n hx hb dX9_item_42 rfl (lv_at hl 1 rfl) ?_
              obtain ⟨v10, hv, hM⟩ := e_bs hM
              refine e_iald E J hv dX9_item_43 ?_
              refine lv_iconst (v := nI 1) hx hb dX9_item_44 (by decide) ?_
              refine lv_isub hx hb dX9_item_45 ?_
              obtain ⟨v11, hv, hM⟩ := e_bs hM
              refine e_callS (As := [.int l2, .int (nI 0), .int (v10 - (nI 1))]) (rest := []) (n := 3) E J (mX9_in (l := l) (G := G) l2 (nI 0) (v10 - (nI 1)) h _ hv) q_5_137 q_5_138 q_1_9 q_5_139 (by decide +kernel) rfl ⟨Nat.le_of_ble_eq_true rfl, Nat.le_of_ble_eq_true rfl⟩ (st0 := [.int (v10 - (nI 1)), .int (nI 0), .int l2]) (st1 := [.int (e_b v11)]) rfl rfl hl.1 (Nat.le_of_ble_eq_true rfl) dX9_item_46 ⟨Nat.le_refl _, Nat.le_refl _⟩ (fun H locs J => ?_)
              refine lv_if_ne (tgt := 56) hx hb dX9_item_49 (by decide) (fun hc => ?_) (fun hc => ?_)
              · have hM := e_in hc hM
                refine lv_aload_n hx hb dX9_item_56 rfl (lv_at hl 0 rfl) ?_
                obtain ⟨v12, hv, hM⟩ := e_bs hM
                refine e_getR (C := RX9) (T := TX9) (N := 40) E J hv rfl inX9 (by decide) q_5_46 dX9_item_57 ?_
                rcases v12 with _ | a13
                · have hM := e_on0 hM
                  refine W.eq (g2 := F0 m 60 ls [.null]) rfl ?_
                  refine lv_bipush (v := nI 24) hx hb dX9_item_60 (by decide) ?_
                  refine lv_iload_n hx hb dX9_item_62 rfl (lv_at hl 1 rfl) ?_
                  refine lv_imul hx hb dX9_item_63 ?_
                  refine lv_iload_n hx hb dX9_item_64 rfl (lv_at hl 2 rfl) ?_
                  refine lv_iadd hx hb dX9_item_65 ?_
                  exact e_no hM
                · have hM := e_on1 hM
                  refine W.eq (g2 := F0 m 60 ls [.ref (e_ad G a13)]) rfl ?_
                  refine lv_bipush (v := nI 24) hx hb dX9_item_60 (by decide) ?_
                  refine lv_iload_n hx hb dX9_item_62 rfl (lv_at hl 1 rfl) ?_
                  refine lv_imul hx hb dX9_item_63 ?_
                  refine lv_iload_n hx hb dX9_item_64 rfl (lv_at hl 2 rfl) ?_
                  refine lv_iadd hx hb dX9_item_65 ?_
                  obtain ⟨v14, hv, hM⟩ := e_bs hM
                  refine e_iald E J hv dX9_item_66 ?_
                  refine lv_istore_n (lv' := [(3, .int v14), (0, .ref (e_ad G l0)), (1, .int l1), (2, .int l2)]) hx hb dX9_item_67 rfl hl (by decide) rfl (fun ls hl => ?_)
                  refine lv_iload_n hx hb dX9_item_68 rfl (lv_at hl 0 rfl) ?_
                  refine lv_ldc (v := -1000000005) hx hb hown (hts _ q_6_90) dX9_item_69 ?_
                  refine lv_icmp_ne (tgt := 79) hx hb dX9_item_71 (by decide) (fun hc => ?_) (fun hc => ?_)
                  · have hM := e_in hc hM
                    refine lv_iload_n hx hb dX9_item_79 rfl (lv_at hl 0 rfl) ?_
                    obtain rfl := e_so hM
                    exact e_iret E J dX9_item_80
                  · have hM := e_ip hc hM
                    refine lv_ldc (v := -1000000012) hx hb hown (hts _ q_5_217) dX9_item_74 ?_
                    refine lv_goto (tgt := 80) hx hb dX9_item_76 (by decide) ?_
                    obtain rfl := e_so hM
                    exact e_iret E J dX9_item_80
              · have hM := e_ip hc hM
                refine lv_ldcw (v := -1000000013) hx hb hown (hts _ q_6_194) dX9_item_52 ?_
                obtain rfl := e_so hM
                exact e_iret E J dX9_item_55
          · have hM := e_in hc hM
            refine lv_ldc (v := -1000000012) hx hb hown (hts _ q_5_217) dX9_item_33 ?_
            obtain rfl := e_so hM
            exact e_iret E J dX9_item_35
      · have hM := e_ip hc hM
        refine lv_ldcw (v := -1000000011) hx hb hown (hts _ q_6_193) dX9_item_19 ?_
        obtain rfl := e_so hM
        exact e_iret E J dX9_item_22
  · have hM := e_ip hc hM
    refine lv_ldc (v := -1000000001) hx hb hown (hts _ q_5_140) dX9_item_7 ?_
    obtain rfl := e_so hM
    exact e_iret E J dX9_item_9
set_option maxRecDepth 100000 in
set_option maxHeartbeats 4000000 in
theorem mX9_rest {l : Launch} {G : e_G} (l0 : Nat) (l1 : Int32) (l2 : Int32) (h : e_H) (res : Int32) (hM : fX9_rest l0 l1 l2 h = some res) : Met l yX9_rest (e_W yX9_rest cX9_rest 3 (some FieldType.int)) (e_rm 2 42) (e_Pc G h [.ref (e_ad G l0), .int l1, .int l2]) (e_Q G h (some (.int res))) 0 0 (e_A G) := by
  refine Met.ofW (cc := cX9_rest) (maxL := 3) (ret := (some FieldType.int)) (by decide) rfl ?_
  intro p e s m args below meth c s₁ B hml hv
  obtain ⟨rfl, hS, hP⟩ := hv
  have E := e_enter (own := RX9) (ret := (some FieldType.int)) B hml rfl hS hP
  have J : e_J G s h s.heap [] := ⟨hP, va_S.rf⟩
  have hl := lv_entry ([.ref (e_ad G l0), .int l1, .int l2]) (n := 3) (Nat.le_of_ble_eq_true rfl)
  rw [lg_entry_eq]
  generalize (lg_sl ([.ref (e_ad G l0), .int l1, .int l2]) ++ List.replicate (3 - (lg_sl ([.ref (e_ad G l0), .int l1, .int l2])).length) Slot.unset).toArray = ls at hl ⊢
  have hl : lv_has ls 3 [(0, .ref (e_ad G l0)), (1, .int l1), (2, .int l2)] := hl
  obtain ⟨hx, hb, hr, hml, hown, hts, hlocks, hES, hbs⟩ := id E
  unfold fX9_rest at hM
  obtain ⟨fs_, hk_, hM⟩ := e_bs hM
  refine lv_iload_n hx hb dX9_rest_0 rfl (lv_at hl 1 rfl) ?_
  obtain ⟨v1, hv, hM⟩ := e_bs hM
  refine e_callS (As := [.int l1]) (rest := []) (n := 1) E J (mX9_isSlot (l := l) (G := G) l1 h _ hv) q_6_209 q_6_210 q_1_9 q_6_211 (by decide +kernel) rfl ⟨Nat.le_of_ble_eq_true rfl, Nat.le_of_ble_eq_true rfl⟩ (st0 := [.int l1]) (st1 := [.int (e_b v1)]) rfl rfl hl.1 (Nat.le_of_ble_eq_true rfl) dX9_rest_1 ⟨Nat.le_refl _, Nat.le_refl _⟩ (fun H locs J => ?_)
  refine lv_if_ne (tgt := 10) hx hb dX9_rest_4 (by decide) (fun hc => ?_) (fun hc => ?_)
  · have hM := e_in hc hM
    refine lv_aload_n hx hb dX9_rest_10 rfl (lv_at hl 0 rfl) ?_
    obtain ⟨v2, hv, hM⟩ := e_bs hM
    refine e_getR (C := RX9) (T := TX9) (N := 40) E J hv rfl inX9 (by decide) q_5_43 dX9_rest_11 ?_
    rcases v2 with _ | a3
    · have hM := e_on0 hM
      refine W.eq (g2 := F0 m 14 ls [.null]) rfl ?_
      refine lv_iload_n hx hb dX9_rest_14 rfl (lv_at hl 1 rfl) ?_
      exact e_no hM
    · have hM := e_on1 hM
      refine W.eq (g2 := F0 m 14 ls [.ref (e_ad G a3)]) rfl ?_
      refine lv_iload_n hx hb dX9_rest_14 rfl (lv_at hl 1 rfl) ?_
      obtain ⟨v4, hv, hM⟩ := e_bs hM
      refine e_iald E J hv dX9_rest_15 ?_
      refine lv_if_ne (tgt := 23) hx hb dX9_rest_16 (by decide) (fun hc => ?_) (fun hc => ?_)
      · have hM := e_in hc hM
        refine lv_aload_n hx hb dX9_rest_23 rfl (lv_at hl 0 rfl) ?_
        obtain ⟨v5, hv, hM⟩ := e_bs hM
        refine e_getR (C := RX9) (T := TX9) (N := 40) E J hv rfl inX9 (by decide) q_5_43 dX9_rest_24 ?_
        rcases v5 with _ | a6
        · have hM := e_on0 hM
          refine W.eq (g2 := F0 m 27 ls [.null]) rfl ?_
          refine lv_iload_n hx hb dX9_rest_27 rfl (lv_at hl 1 rfl) ?_
          exact e_no hM
        · have hM := e_on1 hM
          refine W.eq (g2 := F0 m 27 ls [.ref (e_ad G a6)]) rfl ?_
          refine lv_iload_n hx hb dX9_rest_27 rfl (lv_at hl 1 rfl) ?_
          obtain ⟨v7, hv, hM⟩ := e_bs hM
          refine e_iald E J hv dX9_rest_28 ?_
          refine lv_iconst (v := nI 3) hx hb dX9_rest_29 (by decide) ?_
          refine lv_icmp_eq (tgt := 36) hx hb dX9_rest_30 (by decide) (fun hc => ?_) (fun hc => ?_)
          · have hM := e_ip hc hM
            refine lv_iload_n hx hb dX9_rest_36 rfl (lv_at hl 2 rfl) ?_
            refine lv_if_ne (tgt := 45) hx hb dX9_rest_37 (by decide) (fun hc => ?_) (fun hc => ?_)
            · have hM := e_in hc hM
              refine lv_iload_n hx hb dX9_rest_45 rfl (lv_at hl 2 rfl) ?_
              refine lv_iconst (v := -1) hx hb dX9_rest_46 (by decide) ?_
              refine lv_icmp_ne (tgt := 54) hx hb dX9_rest_47 (by decide) (fun hc => ?_) (fun hc => ?_)
              · have hM := e_in hc hM
                refine lv_aload_n hx hb dX9_rest_54 rfl (lv_at hl 0 rfl) ?_
                obtain ⟨v8, hv, hM⟩ := e_bs hM
                refine e_getR (C := RX9) (T := TX9) (N := 40) E J hv rfl inX9 (by decide) q_5_44 dX9_rest_55 ?_
                rcases v8 with _ | a9
                · have hM := e_on0 hM
                  refine W.eq (g2 := F0 m 58 ls [.null]) rfl ?_
                  refine lv_iload_n hx hb dX9_rest_58 rfl (lv_at hl 1 rfl) ?_
                  exact e_no hM
                · have hM := e_on1 hM
                  refine W.eq (g2 := F0 m 58 ls [.ref (e_ad G a9)]) rfl ?_
                  refine lv_iload_n hx hb dX9_rest_58 rfl (lv_at hl 1 rfl) ?_
                  obtain ⟨v10, hv, hM⟩ := e_bs hM
                  refine e_iald E J hv dX9_rest_59 ?_
                  refine lv_iload_n hx hb dX9_rest_60 rfl (lv_at hl 2 rfl) ?_
                  obtain ⟨hz, hM⟩ := e_if0 hM
                  refine lv_irem hx hb dX9_rest_61 hz ?_
                  obtain rfl := e_so hM
                  exact e_iret E J dX9_rest_62
              · have hM := e_ip hc hM
                refine lv_iconst (v := nI 0) hx hb dX9_rest_50 (by decide) ?_
                refine lv_goto (tgt := 62) hx hb dX9_rest_51 (by decide) ?_
                obtain rfl := e_so hM
                exact e_iret E J dX9_rest_62
            · have hM := e_ip hc hM
              refine lv_ldc (v := -1000000002) hx hb hown (hts _ q_6_49) dX9_rest_40 ?_
              refine lv_goto (tgt := 62) hx hb dX9_rest_42 (by decide) ?_
              obtain rfl := e_so hM
              exact e_iret E J dX9_rest_62
          · have hM := e_in hc hM
            refine lv_ldc (v := -1000000012) hx hb hown (hts _ q_5_217) dX9_rest_33 ?_
            obtain rfl := e_so hM
            exact e_iret E J dX9_rest_35
      · have hM := e_ip hc hM
        refine lv_ldcw (v := -1000000011) hx hb hown (hts _ q_6_193) dX9_rest_19 ?_
        obtain rfl := e_so hM
        exact e_iret E J dX9_rest_22
  · have hM := e_ip hc hM
    refine lv_ldc (v := -1000000001) hx hb hown (hts _ q_5_140) dX9_rest_7 ?_
    obtain rfl := e_so hM
    exact e_iret E J dX9_rest_9
set_option maxRecDepth 100000 in
set_option maxHeartbeats 4000000 in
theorem mX9_tell {l : Launch} {G : e_G} (l0 : Nat) (l1 : Int32) (h : e_H) (res : (Int32 × e_H)) (hM : fX9_tell l0 l1 h = some res) : Met l yX9_tell (e_W yX9_tell cX9_tell 2 (some FieldType.int)) (e_rm 0 0) (e_Pc G h [.ref (e_ad G l0), .int l1]) (e_Q G res.2 (some (.int res.1))) 0 0 (e_A G) := by
  refine Met.ofW (cc := cX9_tell) (maxL := 2) (ret := (some FieldType.int)) (by decide) rfl ?_
  intro p e s m args below meth c s₁ B hml hv
  obtain ⟨rfl, hS, hP⟩ := hv
  have E := e_enter (own := RX9) (ret := (some FieldType.int)) B hml rfl hS hP
  have J : e_J G s h s.heap [] := ⟨hP, va_S.rf⟩
  have hl := lv_entry ([.ref (e_ad G l0), .int l1]) (n := 2) (Nat.le_of_ble_eq_true rfl)
  rw [lg_entry_eq]
  generalize (lg_sl ([.ref (e_ad G l0), .int l1]) ++ List.replicate (2 - (lg_sl ([.ref (e_ad G l0), .int l1])).length) Slot.unset).toArray = ls at hl ⊢
  have hl : lv_has ls 2 [(0, .ref (e_ad G l0)), (1, .int l1)] := hl
  obtain ⟨hx, hb, hr, hml, hown, hts, hlocks, hES, hbs⟩ := id E
  unfold fX9_tell at hM
  obtain ⟨fs_, hk_, hM⟩ := e_bs hM
  refine lv_aload_n hx hb dX9_tell_0 rfl (lv_at hl 0 rfl) ?_
  obtain ⟨v1, hv, hM⟩ := e_bs hM
  refine e_getI (C := RX9) (T := TX9) (N := 40) E J hv rfl inX9 (by decide) q_5_49 dX9_tell_1 ?_
  refine lv_bipush (v := nI 60) hx hb dX9_tell_4 (by decide) ?_
  refine lv_icmp_ne (tgt := 12) hx hb dX9_tell_6 (by decide) (fun hc => ?_) (fun hc => ?_)
  · have hM := e_in hc hM
    refine lv_aload_n hx hb dX9_tell_12 rfl (lv_at hl 0 rfl) ?_
    obtain ⟨v2, hv, hM⟩ := e_bs hM
    refine e_getR (C := RX9) (T := TX9) (N := 40) E J hv rfl inX9 (by decide) q_5_48 dX9_tell_13 ?_
    rcases v2 with _ | a3
    · have hM := e_on0 hM
      refine W.eq (g2 := F0 m 16 ls [.null]) rfl ?_
      refine lv_aload_n hx hb dX9_tell_16 rfl (lv_at hl 0 rfl) ?_
      obtain ⟨v4, hv, hM⟩ := e_bs hM
      refine e_getI (C := RX9) (T := TX9) (N := 40) E J hv rfl inX9 (by decide) q_5_49 dX9_tell_17 ?_
      refine lv_iload_n hx hb dX9_tell_20 rfl (lv_at hl 1 rfl) ?_
      exact e_no hM
    · have hM := e_on1 hM
      refine W.eq (g2 := F0 m 16 ls [.ref (e_ad G a3)]) rfl ?_
      refine lv_aload_n hx hb dX9_tell_16 rfl (lv_at hl 0 rfl) ?_
      obtain ⟨v6, hv, hM⟩ := e_bs hM
      refine e_getI (C := RX9) (T := TX9) (N := 40) E J hv rfl inX9 (by decide) q_5_49 dX9_tell_17 ?_
      refine lv_iload_n hx hb dX9_tell_20 rfl (lv_at hl 1 rfl) ?_
      obtain ⟨h7, hv, hM⟩ := e_bs hM
      refine e_iast E J hv dX9_tell_21 (fun H locs J => ?_)
      refine lv_aload_n hx hb dX9_tell_22 rfl (lv_at hl 0 rfl) ?_
      refine lv_dup hx hb dX9_tell_23 rfl ?_
      obtain ⟨v8, hv, hM⟩ := e_bs hM
      refine e_getI (C := RX9) (T := TX9) (N := 40) E J hv rfl inX9 (by decide) q_5_49 dX9_tell_24 ?_
      refine lv_iconst (v := nI 1) hx hb dX9_tell_27 (by decide) ?_
      refine lv_iadd hx hb dX9_tell_28 ?_
      obtain ⟨h9, hv, hM⟩ := e_bs hM
      refine e_putv (C := RX9) (T := TX9) (N := 40) E J hv rfl rfl inX9 tyX9 tyX9_ok nmX9 (by decide) q_5_49 rfl rfl rfl rfl dX9_tell_29 (fun H locs J => ?_)
      refine lv_aload_n hx hb dX9_tell_32 rfl (lv_at hl 0 rfl) ?_
      obtain ⟨v10, hv, hM⟩ := e_bs hM
      refine e_getI (C := RX9) (T := TX9) (N := 40) E J hv rfl inX9 (by decide) q_5_49 dX9_tell_33 ?_
      obtain rfl := e_so hM
      exact e_iret E J dX9_tell_36
  · have hM := e_ip hc hM
    refine lv_ldc (v := -1000000003) hx hb hown (hts _ q_5_141) dX9_tell_9 ?_
    obtain rfl := e_so hM
    exact e_iret E J dX9_tell_11
set_option maxRecDepth 100000 in
set_option maxHeartbeats 4000000 in
theorem mX9_copyAll_b2 {p : Program} {l : Launch} {e : Env} {s : State} {m : MethodId} {args : Array Value} {below : List Frame} {meth : Method} {c : Code} {G : e_G} {res : e_H} {k2 : Nat → Nat → Int32 → e_H → Option e_H} (E : e_M G p s args m meth c cX9_copyAll 3 none RX9) (K2 : ∀ (l0 : Nat) (l1 : Nat) (l2 : Int32) (h : e_H), k2 l0 l1 l2 h = some res → ∀ (H : Heap) (locs : List Loc), e_J G s h H locs → ∀ (ls : Array Slot), lv_has ls 3 [(0, .ref (e_ad G l0)), (1, .ref (e_ad G l1)), (2, .int l2)] → W p l e (e_rm 0 0) s m args below meth c H locs 0 0 (MQ below (e_Q G res (none)) args s 0 0 (e_A G)) (F0 m 2 ls [])) (l0 : Nat) (l1 : Nat) (l2 : Int32) (h : e_H) (hM : fX9_copyAll_b2 k2 l0 l1 l2 h = some res) {H : Heap} {locs : List Loc} (J : e_J G s h H locs) {ls : Array Slot} (hl : lv_has ls 3 [(0, .ref (e_ad G l0)), (1, .ref (e_ad G l1)), (2, .int l2)]) : W p l e (e_rm 0 0) s m args below meth c H locs 0 0 (MQ below (e_Q G res (none)) args s 0 0 (e_A G)) (F0 m 2 ls []) := by
  obtain ⟨hx, hb, hr, hml, hown, hts, hlocks, hES, hbs⟩ := id E
  unfold fX9_copyAll_b2 at hM
  refine lv_iload_n hx hb dX9_copyAll_2 rfl (lv_at hl 2 rfl) ?_
  refine lv_sipush (v := nI 1471) hx hb dX9_copyAll_3 (by decide) ?_
  refine lv_icmp_ge (tgt := 21) hx hb dX9_copyAll_6 (by decide) (fun hc => ?_) (fun hc => ?_)
  · have hM := e_ip hc hM
    obtain rfl := e_so hM
    exact e_vret E J dX9_copyAll_21
  · have hM := e_in hc hM
    refine lv_aload_n hx hb dX9_copyAll_9 rfl (lv_at hl 1 rfl) ?_
    refine lv_iload_n hx hb dX9_copyAll_10 rfl (lv_at hl 2 rfl) ?_
    refine lv_aload_n hx hb dX9_copyAll_11 rfl (lv_at hl 0 rfl) ?_
    refine lv_iload_n hx hb dX9_copyAll_12 rfl (lv_at hl 2 rfl) ?_
    obtain ⟨v1, hv, hM⟩ := e_bs hM
    refine e_iald E J hv dX9_copyAll_13 ?_
    obtain ⟨h2, hv, hM⟩ := e_bs hM
    refine e_iast E J hv dX9_copyAll_14 (fun H locs J => ?_)
    refine lv_iinc (v := (l2 + (nI 1))) (lv' := [(2, .int (l2 + (nI 1))), (0, .ref (e_ad G l0)), (1, .ref (e_ad G l1))]) hx hb dX9_copyAll_15 hl (k := 2) rfl rfl (by decide) rfl (fun ls hl => ?_)
    refine lv_goto (tgt := 2) hx hb dX9_copyAll_18 (by decide) ?_
    exact K2 l0 l1 (l2 + (nI 1)) h2 hM _ _ J _ (lv_sub hl [1, 2, 0] rfl)
set_option maxRecDepth 100000 in
set_option maxHeartbeats 4000000 in
theorem mX9_copyAll_L2 {p : Program} {l : Launch} {e : Env} {s : State} {m : MethodId} {args : Array Value} {below : List Frame} {meth : Method} {c : Code} {G : e_G} {res : e_H} (E : e_M G p s args m meth c cX9_copyAll 3 none RX9) (n : Nat) (l0 : Nat) (l1 : Nat) (l2 : Int32) (h : e_H) (hM : fX9_copyAll_L2 n l0 l1 l2 h = some res) {H : Heap} {locs : List Loc} (J : e_J G s h H locs) {ls : Array Slot} (hl : lv_has ls 3 [(0, .ref (e_ad G l0)), (1, .ref (e_ad G l1)), (2, .int l2)]) : W p l e (e_rm 0 0) s m args below meth c H locs 0 0 (MQ below (e_Q G res (none)) args s 0 0 (e_A G)) (F0 m 2 ls []) := by
  induction n generalizing l0 l1 l2 h H locs ls with
  | zero => exact e_no hM
  | succ n ih => exact mX9_copyAll_b2 (k2 := (fX9_copyAll_L2 n)) E   (fun l0 l1 l2 h hM H locs J ls hl => ih l0 l1 l2 h hM J hl) l0 l1 l2 h hM J hl
set_option maxRecDepth 100000 in
set_option maxHeartbeats 4000000 in
theorem mX9_copyAll {l : Launch} {G : e_G} (l0 : Nat) (l1 : Nat) (h : e_H) (res : e_H) (hM : fX9_copyAll l0 l1 h = some res) : Met l yX9_copyAll (e_W yX9_copyAll cX9_copyAll 3 none) (e_rm 0 0) (e_Pc G h [.ref (e_ad G l0), .ref (e_ad G l1)]) (e_Q G res (none)) 0 0 (e_A G) := by
  refine Met.ofW (cc := cX9_copyAll) (maxL := 3) (ret := none) (by decide) rfl ?_
  intro p e s m args below meth c s₁ B hml hv
  obtain ⟨rfl, hS, hP⟩ := hv
  have E := e_enter (own := RX9) (ret := none) B hml rfl hS hP
  have J : e_J G s h s.heap [] := ⟨hP, va_S.rf⟩
  have hl := lv_entry ([.ref (e_ad G l0), .ref (e_ad G l1)]) (n := 3) (Nat.le_of_ble_eq_true rfl)
  rw [lg_entry_eq]
  generalize (lg_sl ([.ref (e_ad G l0), .ref (e_ad G l1)]) ++ List.replicate (3 - (lg_sl ([.ref (e_ad G l0), .ref (e_ad G l1)])).length) Slot.unset).toArray = ls at hl ⊢
  have hl : lv_has ls 3 [(0, .ref (e_ad G l0)), (1, .ref (e_ad G l1))] := hl
  obtain ⟨hx, hb, hr, hml, hown, hts, hlocks, hES, hbs⟩ := id E
  unfold fX9_copyAll at hM
  refine lv_iconst (v := nI 0) hx hb dX9_copyAll_0 (by decide) ?_
  refine lv_istore_n (lv' := [(2, .int (nI 0)), (0, .ref (e_ad G l0)), (1, .ref (e_ad G l1))]) hx hb dX9_copyAll_1 rfl hl (by decide) rfl (fun ls hl => ?_)
  exact mX9_copyAll_L2 E 1600 l0 l1 (nI 0) h hM J (lv_sub hl [1, 2, 0] rfl)
set_option maxRecDepth 100000 in
set_option maxHeartbeats 4000000 in
theorem mX9_check_b228 {p : Program} {l : Launch} {e : Env} {s : State} {m : MethodId} {args : Array Value} {below : List Frame} {meth : Method} {c : Code} {G : e_G} {res : (Int32 × e_H)} (E : e_M G p s args m meth c cX9_check 9 (some FieldType.int) RX9) (l0 : Nat) (l3 : Int32) (l5 : Int32) (l6 : Int32) (h : e_H) (hM : fX9_check_b228 l0 l3 l5 l6 h = some res) {H : Heap} {locs : List Loc} (J : e_J G s h H locs) {ls : Array Slot} (hl : lv_has ls 9 [(0, .ref (e_ad G l0)), (3, .int l3), (5, .int l5), (6, .int l6)]) : W p l e (e_rm 5 119) s m args below meth c H locs 0 0 (MQ below (e_Q G res.2 (some (.int res.1))) args s 0 0 (e_A G)) (F0 m 228 ls []) := by
  obtain ⟨hx, hb, hr, hml, hown, hts, hlocks, hES, hbs⟩ := id E
  unfold fX9_check_b228 at hM
  refine lv_aload_n hx hb dX9_check_228 rfl (lv_at hl 0 rfl) ?_
  obtain ⟨v1, hv, hM⟩ := e_bs hM
  refine e_getR (C := RX9) (T := TX9) (N := 40) E J hv rfl inX9 (by decide) q_5_12 dX9_check_229 ?_
  rcases v1 with _ | a2
  · have hM := e_on0 hM
    refine W.eq (g2 := F0 m 232 ls [.null]) rfl ?_
    refine lv_aload_n hx hb dX9_check_232 rfl (lv_at hl 0 rfl) ?_
    obtain ⟨v3, hv, hM⟩ := e_bs hM
    refine e_getR (C := RX9) (T := TX9) (N := 40) E J hv rfl inX9 (by decide) q_5_10 dX9_check_233 ?_
    rcases v3 with _ | a4
    · have hM := e_on0 hM
      refine W.eq (g2 := F0 m 236 ls [.null, .null]) rfl ?_
      exact e_no hM
    · have hM := e_on1 hM
      refine W.eq (g2 := F0 m 236 ls [.ref (e_ad G a4), .null]) rfl ?_
      exact e_no hM
  · have hM := e_on1 hM
    refine W.eq (g2 := F0 m 232 ls [.ref (e_ad G a2)]) rfl ?_
    refine lv_aload_n hx hb dX9_check_232 rfl (lv_at hl 0 rfl) ?_
    obtain ⟨v5, hv, hM⟩ := e_bs hM
    refine e_getR (C := RX9) (T := TX9) (N := 40) E J hv rfl inX9 (by decide) q_5_10 dX9_check_233 ?_
    rcases v5 with _ | a6
    · have hM := e_on0 hM
      refine W.eq (g2 := F0 m 236 ls [.null, .ref (e_ad G a2)]) rfl ?_
      exact e_no hM
    · have hM := e_on1 hM
      refine W.eq (g2 := F0 m 236 ls [.ref (e_ad G a6), .ref (e_ad G a2)]) rfl ?_
      obtain ⟨h7, hv, hM⟩ := e_bs hM
      refine e_callS (As := [.ref (e_ad G a2), .ref (e_ad G a6)]) (rest := []) (n := 2) E J (mX9_copyAll (l := l) (G := G) a2 a6 h _ hv) q_6_232 q_6_233 q_1_9 q_6_234 (by decide +kernel) rfl ⟨Nat.le_of_ble_eq_true rfl, Nat.le_of_ble_eq_true rfl⟩ (st0 := [.ref (e_ad G a6), .ref (e_ad G a2)]) (st1 := []) rfl rfl hl.1 (Nat.le_of_ble_eq_true rfl) dX9_check_236 ⟨Nat.le_refl _, Nat.le_refl _⟩ (fun H locs J => ?_)
      refine lv_iload hx hb dX9_check_239 (lv_at hl 3 rfl) ?_
      refine lv_iload_n hx hb dX9_check_241 rfl (lv_at hl 1 rfl) ?_
      refine lv_icmp_ne (tgt := 256) hx hb dX9_check_242 (by decide) (fun hc => ?_) (fun hc => ?_)
      · have hM := e_in hc hM
        refine lv_iconst (v := nI 1) hx hb dX9_check_256 (by decide) ?_
        refine lv_iload hx hb dX9_check_257 (lv_at hl 3 rfl) ?_
        refine lv_iadd hx hb dX9_check_259 ?_
        obtain rfl := e_so hM
        exact e_iret E J dX9_check_260
      · have hM := e_ip hc hM
        refine lv_iload hx hb dX9_check_245 (lv_at hl 3 rfl) ?_
        refine lv_iload hx hb dX9_check_247 (lv_at hl 2 rfl) ?_
        refine lv_icmp_ne (tgt := 256) hx hb dX9_check_249 (by decide) (fun hc => ?_) (fun hc => ?_)
        · have hM := e_in hc hM
          refine lv_iconst (v := nI 1) hx hb dX9_check_256 (by decide) ?_
          refine lv_iload hx hb dX9_check_257 (lv_at hl 3 rfl) ?_
          refine lv_iadd hx hb dX9_check_259 ?_
          obtain rfl := e_so hM
          exact e_iret E J dX9_check_260
        · have hM := e_ip hc hM
          refine lv_iconst (v := nI 0) hx hb dX9_check_252 (by decide) ?_
          refine lv_goto (tgt := 260) hx hb dX9_check_253 (by decide) ?_
          obtain rfl := e_so hM
          exact e_iret E J dX9_check_260
set_option maxRecDepth 100000 in
set_option maxHeartbeats 4000000 in
theorem mX9_check_b222 {p : Program} {l : Launch} {e : Env} {s : State} {m : MethodId} {args : Array Value} {below : List Frame} {meth : Method} {c : Code} {G : e_G} {res : (Int32 × e_H)} {k90 : Nat → Int32 → Int32 → Int32 → Int32 → Int32 → e_H → Option (Int32 × e_H)} (E : e_M G p s args m meth c cX9_check 9 (some FieldType.int) RX9) (K90 : ∀ (l0 : Nat) (l2 : Int32) (l3 : Int32) (l5 : Int32) (l6 : Int32) (l7 : Int32) (h : e_H), k90 l0 l2 l3 l5 l6 l7 h = some res → ∀ (H : Heap) (locs : List Loc), e_J G s h H locs → ∀ (ls : Array Slot), lv_has ls 9 [(0, .ref (e_ad G l0)), (2, .int l2), (3, .int l3), (5, .int l5), (6, .int l6), (7, .int l7)] → W p l e (e_rm 5 119) s m args below meth c H locs 0 0 (MQ below (e_Q G res.2 (some (.int res.1))) args s 0 0 (e_A G)) (F0 m 90 ls [])) (l0 : Nat) (l2 : Int32) (l3 : Int32) (l5 : Int32) (l6 : Int32) (l7 : Int32) (h : e_H) (hM : fX9_check_b222 k90 l0 l2 l3 l5 l6 l7 h = some res) {H : Heap} {locs : List Loc} (J : e_J G s h H locs) {ls : Array Slot} (hl : lv_has ls 9 [(0, .ref (e_ad G l0)), (2, .int l2), (3, .int l3), (5, .int l5), (6, .int l6), (7, .int l7)]) : W p l e (e_rm 5 119) s m args below meth c H locs 0 0 (MQ below (e_Q G res.2 (some (.int res.1))) args s 0 0 (e_A G)) (F0 m 222 ls []) := by
  obtain ⟨hx, hb, hr, hml, hown, hts, hlocks, hES, hbs⟩ := id E
  unfold fX9_check_b222 at hM
  refine lv_iinc (v := (l7 + (nI 1))) (lv' := [(7, .int (l7 + (nI 1))), (0, .ref (e_ad G l0)), (2, .int l2), (3, .int l3), (5, .int l5), (6, .int l6)]) hx hb dX9_check_222 hl (k := 5) rfl rfl (by decide) rfl (fun ls hl => ?_)
  refine lv_goto (tgt := 90) hx hb dX9_check_225 (by decide) ?_
  exact K90 l0 l2 l3 l5 l6 (l7 + (nI 1)) h hM _ _ J _ (lv_sub hl [1, 2, 3, 4, 5, 0] rfl)
set_option maxRecDepth 100000 in
set_option maxHeartbeats 4000000 in
theorem mX9_check_b216 {p : Program} {l : Launch} {e : Env} {s : State} {m : MethodId} {args : Array Value} {below : List Frame} {meth : Method} {c : Code} {G : e_G} {res : (Int32 × e_H)} {k90 : Nat → Int32 → Int32 → Int32 → Int32 → Int32 → e_H → Option (Int32 × e_H)} (E : e_M G p s args m meth c cX9_check 9 (some FieldType.int) RX9) (K90 : ∀ (l0 : Nat) (l2 : Int32) (l3 : Int32) (l5 : Int32) (l6 : Int32) (l7 : Int32) (h : e_H), k90 l0 l2 l3 l5 l6 l7 h = some res → ∀ (H : Heap) (locs : List Loc), e_J G s h H locs → ∀ (ls : Array Slot), lv_has ls 9 [(0, .ref (e_ad G l0)), (2, .int l2), (3, .int l3), (5, .int l5), (6, .int l6), (7, .int l7)] → W p l e (e_rm 5 119) s m args below meth c H locs 0 0 (MQ below (e_Q G res.2 (some (.int res.1))) args s 0 0 (e_A G)) (F0 m 90 ls [])) (l0 : Nat) (l2 : Int32) (l3 : Int32) (l5 : Int32) (l7 : Int32) (t0 : Int32) (t1 : Int32) (h : e_H) (hM : fX9_check_b216 k90 l0 l2 l3 l5 l7 t0 t1 h = some res) {H : Heap} {locs : List Loc} (J : e_J G s h H locs) {ls : Array Slot} (hl : lv_has ls 9 [(0, .ref (e_ad G l0)), (2, .int l2), (3, .int l3), (5, .int l5), (7, .int l7)]) : W p l e (e_rm 5 119) s m args below meth c H locs 0 0 (MQ below (e_Q G res.2 (some (.int res.1))) args s 0 0 (e_A G)) (F0 m 216 ls [.int t0, .int t1]) := by
  obtain ⟨hx, hb, hr, hml, hown, hts, hlocks, hES, hbs⟩ := id E
  unfold fX9_check_b216 at hM
  refine lv_iadd hx hb dX9_check_216 ?_
  refine lv_istore (lv' := [(6, .int (t1 + t0)), (0, .ref (e_ad G l0)), (2, .int l2), (3, .int l3), (5, .int l5), (7, .int l7)]) hx hb dX9_check_217 hl (by decide) rfl (fun ls hl => ?_)
  refine lv_iinc (v := (l5 + (nI 2))) (lv' := [(5, .int (l5 + (nI 2))), (6, .int (t1 + t0)), (0, .ref (e_ad G l0)), (2, .int l2), (3, .int l3), (7, .int l7)]) hx hb dX9_check_219 hl (k := 4) rfl rfl (by decide) rfl (fun ls hl => ?_)
  exact mX9_check_b222 E K90 l0 l2 l3 (l5 + (nI 2)) (t1 + t0) l7 h hM J (lv_sub hl [2, 3, 4, 0, 1, 5] rfl)
set_option maxRecDepth 100000 in
set_option maxHeartbeats 4000000 in
theorem mX9_check_b215 {p : Program} {l : Launch} {e : Env} {s : State} {m : MethodId} {args : Array Value} {below : List Frame} {meth : Method} {c : Code} {G : e_G} {res : (Int32 × e_H)} {k90 : Nat → Int32 → Int32 → Int32 → Int32 → Int32 → e_H → Option (Int32 × e_H)} (E : e_M G p s args m meth c cX9_check 9 (some FieldType.int) RX9) (K90 : ∀ (l0 : Nat) (l2 : Int32) (l3 : Int32) (l5 : Int32) (l6 : Int32) (l7 : Int32) (h : e_H), k90 l0 l2 l3 l5 l6 l7 h = some res → ∀ (H : Heap) (locs : List Loc), e_J G s h H locs → ∀ (ls : Array Slot), lv_has ls 9 [(0, .ref (e_ad G l0)), (2, .int l2), (3, .int l3), (5, .int l5), (6, .int l6), (7, .int l7)] → W p l e (e_rm 5 119) s m args below meth c H locs 0 0 (MQ below (e_Q G res.2 (some (.int res.1))) args s 0 0 (e_A G)) (F0 m 90 ls [])) (l0 : Nat) (l2 : Int32) (l3 : Int32) (l5 : Int32) (l7 : Int32) (t0 : Int32) (h : e_H) (hM : fX9_check_b215 k90 l0 l2 l3 l5 l7 t0 h = some res) {H : Heap} {locs : List Loc} (J : e_J G s h H locs) {ls : Array Slot} (hl : lv_has ls 9 [(0, .ref (e_ad G l0)), (2, .int l2), (3, .int l3), (5, .int l5), (7, .int l7)]) : W p l e (e_rm 5 119) s m args below meth c H locs 0 0 (MQ below (e_Q G res.2 (some (.int res.1))) args s 0 0 (e_A G)) (F0 m 215 ls [.int t0]) := by
  obtain ⟨hx, hb, hr, hml, hown, hts, hlocks, hES, hbs⟩ := id E
  unfold fX9_check_b215 at hM
  refine lv_iconst (v := nI 0) hx hb dX9_check_215 (by decide) ?_
  exact mX9_check_b216 E K90 l0 l2 l3 l5 l7 (nI 0) t0 h hM J (lv_sub hl [0, 1, 2, 3, 4] rfl)
set_option maxRecDepth 100000 in
set_option maxHeartbeats 4000000 in
theorem mX9_check_b179 {p : Program} {l : Launch} {e : Env} {s : State} {m : MethodId} {args : Array Value} {below : List Frame} {meth : Method} {c : Code} {G : e_G} {res : (Int32 × e_H)} {k90 : Nat → Int32 → Int32 → Int32 → Int32 → Int32 → e_H → Option (Int32 × e_H)} (E : e_M G p s args m meth c cX9_check 9 (some FieldType.int) RX9) (K90 : ∀ (l0 : Nat) (l2 : Int32) (l3 : Int32) (l5 : Int32) (l6 : Int32) (l7 : Int32) (h : e_H), k90 l0 l2 l3 l5 l6 l7 h = some res → ∀ (H : Heap) (locs : List Loc), e_J G s h H locs → ∀ (ls : Array Slot), lv_has ls 9 [(0, .ref (e_ad G l0)), (2, .int l2), (3, .int l3), (5, .int l5), (6, .int l6), (7, .int l7)] → W p l e (e_rm 5 119) s m args below meth c H locs 0 0 (MQ below (e_Q G res.2 (some (.int res.1))) args s 0 0 (e_A G)) (F0 m 90 ls [])) (l0 : Nat) (l2 : Int32) (l3 : Int32) (l5 : Int32) (l7 : Int32) (l8 : Int32) (t0 : Int32) (t1 : Int32) (h : e_H) (hM : fX9_check_b179 k90 l0 l2 l3 l5 l7 l8 t0 t1 h = some res) {H : Heap} {locs : List Loc} (J : e_J G s h H locs) {ls : Array Slot} (hl : lv_has ls 9 [(0, .ref (e_ad G l0)), (2, .int l2), (3, .int l3), (5, .int l5), (7, .int l7), (8, .int l8)]) : W p l e (e_rm 5 119) s m args below meth c H locs 0 0 (MQ below (e_Q G res.2 (some (.int res.1))) args s 0 0 (e_A G)) (F0 m 179 ls [.int t0, .int t1]) := by
  obtain ⟨hx, hb, hr, hml, hown, hts, hlocks, hES, hbs⟩ := id E
  unfold fX9_check_b179 at hM
  refine lv_iadd hx hb dX9_check_179 ?_
  refine lv_istore (lv' := [(6, .int (t1 + t0)), (0, .ref (e_ad G l0)), (2, .int l2), (3, .int l3), (5, .int l5), (7, .int l7), (8, .int l8)]) hx hb dX9_check_180 hl (by decide) rfl (fun ls hl => ?_)
  refine lv_iload hx hb dX9_check_182 (lv_at hl 0 rfl) ?_
  refine lv_iload hx hb dX9_check_184 (lv_at hl 0 rfl) ?_
  refine lv_iload hx hb dX9_check_186 (lv_at hl 4 rfl) ?_
  refine lv_iconst (v := nI 1) hx hb dX9_check_188 (by decide) ?_
  refine lv_iadd hx hb dX9_check_189 ?_
  refine lv_icmp_ne (tgt := 215) hx hb dX9_check_190 (by decide) (fun hc => ?_) (fun hc => ?_)
  · have hM := e_in hc hM
    exact mX9_check_b215 E K90 l0 l2 l3 l5 l7 (t1 + t0) h hM J (lv_sub hl [1, 2, 3, 4, 5] rfl)
  · have hM := e_ip hc hM
    refine lv_iload hx hb dX9_check_193 (lv_at hl 0 rfl) ?_
    refine lv_iload_n hx hb dX9_check_195 rfl (lv_at hl 3 rfl) ?_
    refine lv_icmp_ge (tgt := 215) hx hb dX9_check_196 (by decide) (fun hc => ?_) (fun hc => ?_)
    · have hM := e_ip hc hM
      exact mX9_check_b215 E K90 l0 l2 l3 l5 l7 (t1 + t0) h hM J (lv_sub hl [1, 2, 3, 4, 5] rfl)
    · have hM := e_in hc hM
      refine lv_aload_n hx hb dX9_check_199 rfl (lv_at hl 1 rfl) ?_
      obtain ⟨v1, hv, hM⟩ := e_bs hM
      refine e_getR (C := RX9) (T := TX9) (N := 40) E J hv rfl inX9 (by decide) q_5_48 dX9_check_200 ?_
      rcases v1 with _ | a2
      · have hM := e_on0 hM
        refine W.eq (g2 := F0 m 203 ls [.null, .int (t1 + t0)]) rfl ?_
        refine lv_iload hx hb dX9_check_203 (lv_at hl 0 rfl) ?_
        exact e_no hM
      · have hM := e_on1 hM
        refine W.eq (g2 := F0 m 203 ls [.ref (e_ad G a2), .int (t1 + t0)]) rfl ?_
        refine lv_iload hx hb dX9_check_203 (lv_at hl 0 rfl) ?_
        obtain ⟨v3, hv, hM⟩ := e_bs hM
        refine e_iald E J hv dX9_check_205 ?_
        refine lv_iload hx hb dX9_check_206 (lv_at hl 6 rfl) ?_
        refine lv_icmp_ne (tgt := 215) hx hb dX9_check_208 (by decide) (fun hc => ?_) (fun hc => ?_)
        · have hM := e_in hc hM
          exact mX9_check_b215 E K90 l0 l2 l3 l5 l7 (t1 + t0) h hM J (lv_sub hl [1, 2, 3, 4, 5] rfl)
        · have hM := e_ip hc hM
          refine lv_iconst (v := nI 1) hx hb dX9_check_211 (by decide) ?_
          refine lv_goto (tgt := 216) hx hb dX9_check_212 (by decide) ?_
          exact mX9_check_b216 E K90 l0 l2 l3 l5 l7 (nI 1) (t1 + t0) h hM J (lv_sub hl [1, 2, 3, 4, 5] rfl)
set_option maxRecDepth 100000 in
set_option maxHeartbeats 4000000 in
theorem mX9_check_b178 {p : Program} {l : Launch} {e : Env} {s : State} {m : MethodId} {args : Array Value} {below : List Frame} {meth : Method} {c : Code} {G : e_G} {res : (Int32 × e_H)} {k90 : Nat → Int32 → Int32 → Int32 → Int32 → Int32 → e_H → Option (Int32 × e_H)} (E : e_M G p s args m meth c cX9_check 9 (some FieldType.int) RX9) (K90 : ∀ (l0 : Nat) (l2 : Int32) (l3 : Int32) (l5 : Int32) (l6 : Int32) (l7 : Int32) (h : e_H), k90 l0 l2 l3 l5 l6 l7 h = some res → ∀ (H : Heap) (locs : List Loc), e_J G s h H locs → ∀ (ls : Array Slot), lv_has ls 9 [(0, .ref (e_ad G l0)), (2, .int l2), (3, .int l3), (5, .int l5), (6, .int l6), (7, .int l7)] → W p l e (e_rm 5 119) s m args below meth c H locs 0 0 (MQ below (e_Q G res.2 (some (.int res.1))) args s 0 0 (e_A G)) (F0 m 90 ls [])) (l0 : Nat) (l2 : Int32) (l3 : Int32) (l5 : Int32) (l7 : Int32) (l8 : Int32) (t0 : Int32) (h : e_H) (hM : fX9_check_b178 k90 l0 l2 l3 l5 l7 l8 t0 h = some res) {H : Heap} {locs : List Loc} (J : e_J G s h H locs) {ls : Array Slot} (hl : lv_has ls 9 [(0, .ref (e_ad G l0)), (2, .int l2), (3, .int l3), (5, .int l5), (7, .int l7), (8, .int l8)]) : W p l e (e_rm 5 119) s m args below meth c H locs 0 0 (MQ below (e_Q G res.2 (some (.int res.1))) args s 0 0 (e_A G)) (F0 m 178 ls [.int t0]) := by
  obtain ⟨hx, hb, hr, hml, hown, hts, hlocks, hES, hbs⟩ := id E
  unfold fX9_check_b178 at hM
  refine lv_iconst (v := nI 0) hx hb dX9_check_178 (by decide) ?_
  exact mX9_check_b179 E K90 l0 l2 l3 l5 l7 l8 (nI 0) t0 h hM J (lv_sub hl [0, 1, 2, 3, 4, 5] rfl)
set_option maxRecDepth 100000 in
set_option maxHeartbeats 4000000 in
theorem mX9_check_b90 {p : Program} {l : Launch} {e : Env} {s : State} {m : MethodId} {args : Array Value} {below : List Frame} {meth : Method} {c : Code} {G : e_G} {res : (Int32 × e_H)} {k90 : Nat → Int32 → Int32 → Int32 → Int32 → Int32 → e_H → Option (Int32 × e_H)} (E : e_M G p s args m meth c cX9_check 9 (some FieldType.int) RX9) (K90 : ∀ (l0 : Nat) (l2 : Int32) (l3 : Int32) (l5 : Int32) (l6 : Int32) (l7 : Int32) (h : e_H), k90 l0 l2 l3 l5 l6 l7 h = some res → ∀ (H : Heap) (locs : List Loc), e_J G s h H locs → ∀ (ls : Array Slot), lv_has ls 9 [(0, .ref (e_ad G l0)), (2, .int l2), (3, .int l3), (5, .int l5), (6, .int l6), (7, .int l7)] → W p l e (e_rm 5 119) s m args below meth c H locs 0 0 (MQ below (e_Q G res.2 (some (.int res.1))) args s 0 0 (e_A G)) (F0 m 90 ls [])) (l0 : Nat) (l2 : Int32) (l3 : Int32) (l5 : Int32) (l6 : Int32) (l7 : Int32) (h : e_H) (hM : fX9_check_b90 k90 l0 l2 l3 l5 l6 l7 h = some res) {H : Heap} {locs : List Loc} (J : e_J G s h H locs) {ls : Array Slot} (hl : lv_has ls 9 [(0, .ref (e_ad G l0)), (2, .int l2), (3, .int l3), (5, .int l5), (6, .int l6), (7, .int l7)]) : W p l e (e_rm 5 119) s m args below meth c H locs 0 0 (MQ below (e_Q G res.2 (some (.int res.1))) args s 0 0 (e_A G)) (F0 m 90 ls []) := by
  obtain ⟨hx, hb, hr, hml, hown, hts, hlocks, hES, hbs⟩ := id E
  unfold fX9_check_b90 at hM
  refine lv_iload hx hb dX9_check_90 (lv_at hl 5 rfl) ?_
  refine lv_bipush (v := nI 121) hx hb dX9_check_92 (by decide) ?_
  refine lv_icmp_ge (tgt := 228) hx hb dX9_check_94 (by decide) (fun hc => ?_) (fun hc => ?_)
  · have hM := e_ip hc hM
    exact mX9_check_b228 E l0 l3 l5 l6 h hM J (lv_sub hl [0, 2, 3, 4] rfl)
  · have hM := e_in hc hM
    refine lv_iload hx hb dX9_check_97 (lv_at hl 3 rfl) ?_
    refine lv_iconst (v := nI 2) hx hb dX9_check_99 (by decide) ?_
    refine lv_iload_n hx hb dX9_check_100 rfl (lv_at hl 1 rfl) ?_
    refine lv_imul hx hb dX9_check_101 ?_
    refine lv_icmp_ge (tgt := 228) hx hb dX9_check_102 (by decide) (fun hc => ?_) (fun hc => ?_)
    · have hM := e_ip hc hM
      exact mX9_check_b228 E l0 l3 l5 l6 h hM J (lv_sub hl [0, 2, 3, 4] rfl)
    · have hM := e_in hc hM
      refine lv_aload_n hx hb dX9_check_105 rfl (lv_at hl 0 rfl) ?_
      refine lv_iload hx hb dX9_check_106 (lv_at hl 5 rfl) ?_
      refine lv_bipush (v := nI 11) hx hb dX9_check_108 (by decide) ?_
      refine lv_idiv hx hb dX9_check_110 (by decide) ?_
      refine lv_iconst (v := nI 5) hx hb dX9_check_111 (by decide) ?_
      refine lv_isub hx hb dX9_check_112 ?_
      refine lv_iload hx hb dX9_check_113 (lv_at hl 5 rfl) ?_
      refine lv_bipush (v := nI 11) hx hb dX9_check_115 (by decide) ?_
      refine lv_irem hx hb dX9_check_117 (by decide) ?_
      refine lv_iconst (v := nI 5) hx hb dX9_check_118 (by decide) ?_
      refine lv_isub hx hb dX9_check_119 ?_
      obtain ⟨h1, hv, hM⟩ := e_bs hM
      obtain ⟨fs_, hk, -⟩ := e_bs hv
      refine e_callV (ci := 9) (As := [.int ((l7 / (nI 11)) - (nI 5)), .int ((l7 - l7 / (nI 11) * (nI 11)) - (nI 5))]) (rest := []) (n := 2) E J hk rfl (mX9_findShape (l := l) (G := G) l0 ((l7 / (nI 11)) - (nI 5)) ((l7 - l7 / (nI 11) * (nI 11)) - (nI 5)) h _ hv) q_6_18 q_6_20 q_p_28 q_1_9 q_6_21 (by decide +kernel) rfl ⟨Nat.le_of_ble_eq_true rfl, Nat.le_of_ble_eq_true rfl⟩ (st0 := [.int ((l7 - l7 / (nI 11) * (nI 11)) - (nI 5)), .int ((l7 / (nI 11)) - (nI 5)), .ref (e_ad G l0)]) (st1 := []) rfl rfl hl.1 (Nat.le_of_ble_eq_true rfl) dX9_check_120 ⟨Nat.le_refl _, Nat.le_refl _⟩ (fun H locs J => ?_)
      refine lv_aload_n hx hb dX9_check_123 rfl (lv_at hl 0 rfl) ?_
      refine lv_iconst (v := nI 0) hx hb dX9_check_124 (by decide) ?_
      obtain ⟨v2, hv, hM⟩ := e_bs hM
      obtain ⟨fs_, hk, -⟩ := e_bs hv
      refine e_callV (ci := 9) (As := [.int (nI 0)]) (rest := []) (n := 1) E J hk rfl (mX9_timesOf (l := l) (G := G) l0 (nI 0) h1 _ hv) q_6_25 q_6_27 q_p_29 q_1_9 q_6_28 (by decide +kernel) rfl ⟨Nat.le_of_ble_eq_true rfl, Nat.le_of_ble_eq_true rfl⟩ (st0 := [.int (nI 0), .ref (e_ad G l0)]) (st1 := [.int v2]) rfl rfl hl.1 (Nat.le_of_ble_eq_true rfl) dX9_check_125 ⟨Nat.le_refl _, Nat.le_refl _⟩ (fun H locs J => ?_)
      refine lv_istore (lv' := [(8, .int v2), (0, .ref (e_ad G l0)), (2, .int l2), (3, .int l3), (5, .int l5), (6, .int l6), (7, .int l7)]) hx hb dX9_check_128 hl (by decide) rfl (fun ls hl => ?_)
      refine lv_iload hx hb dX9_check_130 (lv_at hl 0 rfl) ?_
      refine lv_if_le (tgt := 222) hx hb dX9_check_132 (by decide) (fun hc => ?_) (fun hc => ?_)
      · have hM := e_ip hc hM
        exact mX9_check_b222 E K90 l0 l2 l3 l5 l6 l7 h1 hM J (lv_sub hl [1, 2, 3, 4, 5, 6] rfl)
      · have hM := e_in hc hM
        refine lv_iload hx hb dX9_check_135 (lv_at hl 5 rfl) ?_
        refine lv_iload hx hb dX9_check_137 (lv_at hl 5 rfl) ?_
        refine lv_iload hx hb dX9_check_139 (lv_at hl 4 rfl) ?_
        refine lv_icmp_ne (tgt := 178) hx hb dX9_check_141 (by decide) (fun hc => ?_) (fun hc => ?_)
        · have hM := e_in hc hM
          exact mX9_check_b178 E K90 l0 l2 l3 l5 l7 v2 l6 h1 hM J (lv_sub hl [1, 2, 3, 4, 6, 0] rfl)
        · have hM := e_ip hc hM
          refine lv_iload hx hb dX9_check_144 (lv_at hl 5 rfl) ?_
          refine lv_iload_n hx hb dX9_check_146 rfl (lv_at hl 3 rfl) ?_
          refine lv_icmp_ge (tgt := 178) hx hb dX9_check_147 (by decide) (fun hc => ?_) (fun hc => ?_)
          · have hM := e_ip hc hM
            exact mX9_check_b178 E K90 l0 l2 l3 l5 l7 v2 l6 h1 hM J (lv_sub hl [1, 2, 3, 4, 6, 0] rfl)
          · have hM := e_in hc hM
            refine lv_aload_n hx hb dX9_check_150 rfl (lv_at hl 1 rfl) ?_
            obtain ⟨v3, hv, hM⟩ := e_bs hM
            refine e_getR (C := RX9) (T := TX9) (N := 40) E J hv rfl inX9 (by decide) q_5_48 dX9_check_151 ?_
            rcases v3 with _ | a4
            · have hM := e_on0 hM
              refine W.eq (g2 := F0 m 154 ls [.null, .int l6]) rfl ?_
              refine lv_iload hx hb dX9_check_154 (lv_at hl 5 rfl) ?_
              exact e_no hM
            · have hM := e_on1 hM
              refine W.eq (g2 := F0 m 154 ls [.ref (e_ad G a4), .int l6]) rfl ?_
              refine lv_iload hx hb dX9_check_154 (lv_at hl 5 rfl) ?_
              obtain ⟨v5, hv, hM⟩ := e_bs hM
              refine e_iald E J hv dX9_check_156 ?_
              refine lv_bipush (v := nI 100) hx hb dX9_check_157 (by decide) ?_
              refine lv_iload hx hb dX9_check_159 (lv_at hl 6 rfl) ?_
              refine lv_bipush (v := nI 11) hx hb dX9_check_161 (by decide) ?_
              refine lv_idiv hx hb dX9_check_163 (by decide) ?_
              refine lv_imul hx hb dX9_check_164 ?_
              refine lv_iload hx hb dX9_check_165 (lv_at hl 6 rfl) ?_
              refine lv_bipush (v := nI 11) hx hb dX9_check_167 (by decide) ?_
              refine lv_irem hx hb dX9_check_169 (by decide) ?_
              refine lv_iadd hx hb dX9_check_170 ?_
              refine lv_icmp_ne (tgt := 178) hx hb dX9_check_171 (by decide) (fun hc => ?_) (fun hc => ?_)
              · have hM := e_in hc hM
                exact mX9_check_b178 E K90 l0 l2 l3 l5 l7 v2 l6 h1 hM J (lv_sub hl [1, 2, 3, 4, 6, 0] rfl)
              · have hM := e_ip hc hM
                refine lv_iconst (v := nI 1) hx hb dX9_check_174 (by decide) ?_
                refine lv_goto (tgt := 179) hx hb dX9_check_175 (by decide) ?_
                exact mX9_check_b179 E K90 l0 l2 l3 l5 l7 v2 (nI 1) l6 h1 hM J (lv_sub hl [1, 2, 3, 4, 6, 0] rfl)
set_option maxRecDepth 100000 in
set_option maxHeartbeats 4000000 in
theorem mX9_check_L90 {p : Program} {l : Launch} {e : Env} {s : State} {m : MethodId} {args : Array Value} {below : List Frame} {meth : Method} {c : Code} {G : e_G} {res : (Int32 × e_H)} (E : e_M G p s args m meth c cX9_check 9 (some FieldType.int) RX9) (n : Nat) (l0 : Nat) (l2 : Int32) (l3 : Int32) (l5 : Int32) (l6 : Int32) (l7 : Int32) (h : e_H) (hM : fX9_check_L90 n l0 l2 l3 l5 l6 l7 h = some res) {H : Heap} {locs : List Loc} (J : e_J G s h H locs) {ls : Array Slot} (hl : lv_has ls 9 [(0, .ref (e_ad G l0)), (2, .int l2), (3, .int l3), (5, .int l5), (6, .int l6), (7, .int l7)]) : W p l e (e_rm 5 119) s m args below meth c H locs 0 0 (MQ below (e_Q G res.2 (some (.int res.1))) args s 0 0 (e_A G)) (F0 m 90 ls []) := by
  induction n generalizing l0 l2 l3 l5 l6 l7 h H locs ls with
  | zero => exact e_no hM
  | succ n ih => exact mX9_check_b90 (k90 := (fX9_check_L90 n)) E   (fun l0 l2 l3 l5 l6 l7 h hM H locs J ls hl => ih l0 l2 l3 l5 l6 l7 h hM J hl) l0 l2 l3 l5 l6 l7 h hM J hl
set_option maxRecDepth 100000 in
set_option maxHeartbeats 4000000 in
theorem mX9_check {l : Launch} {G : e_G} (l0 : Nat) (l1 : Int32) (l2 : Int32) (h : e_H) (res : (Int32 × e_H)) (hM : fX9_check l0 l1 l2 h = some res) : Met l yX9_check (e_W yX9_check cX9_check 9 (some FieldType.int)) (e_rm 5 119) (e_Pc G h [.ref (e_ad G l0), .int l1, .int l2]) (e_Q G res.2 (some (.int res.1))) 0 0 (e_A G) := by
  refine Met.ofW (cc := cX9_check) (maxL := 9) (ret := (some FieldType.int)) (by decide) rfl ?_
  intro p e s m args below meth c s₁ B hml hv
  obtain ⟨rfl, hS, hP⟩ := hv
  have E := e_enter (own := RX9) (ret := (some FieldType.int)) B hml rfl hS hP
  have J : e_J G s h s.heap [] := ⟨hP, va_S.rf⟩
  have hl := lv_entry ([.ref (e_ad G l0), .int l1, .int l2]) (n := 9) (Nat.le_of_ble_eq_true rfl)
  rw [lg_entry_eq]
  generalize (lg_sl ([.ref (e_ad G l0), .int l1, .int l2]) ++ List.replicate (9 - (lg_sl ([.ref (e_ad G l0), .int l1, .int l2])).length) Slot.unset).toArray = ls at hl ⊢
  have hl : lv_has ls 9 [(0, .ref (e_ad G l0)), (1, .int l1), (2, .int l2)] := hl
  obtain ⟨hx, hb, hr, hml, hown, hts, hlocks, hES, hbs⟩ := id E
  unfold fX9_check at hM
  obtain ⟨fs_, hk_, hM⟩ := e_bs hM
  refine lv_aload_n hx hb dX9_check_0 rfl (lv_at hl 0 rfl) ?_
  obtain ⟨v1, hv, hM⟩ := e_bs hM
  refine e_getI (C := RX9) (T := TX9) (N := 40) E J hv rfl inX9 (by decide) q_5_49 dX9_check_1 ?_
  refine lv_istore_n (lv' := [(3, .int v1), (0, .ref (e_ad G l0)), (1, .int l1), (2, .int l2)]) hx hb dX9_check_4 rfl hl (by decide) rfl (fun ls hl => ?_)
  refine lv_aload_n hx hb dX9_check_5 rfl (lv_at hl 1 rfl) ?_
  refine lv_iconst (v := nI 0) hx hb dX9_check_6 (by decide) ?_
  obtain ⟨h2, hv, hM⟩ := e_bs hM
  refine e_putv (C := RX9) (T := TX9) (N := 40) E J hv rfl rfl inX9 tyX9 tyX9_ok nmX9 (by decide) q_5_49 rfl rfl rfl rfl dX9_check_7 (fun H locs J => ?_)
  refine lv_iload_n hx hb dX9_check_10 rfl (lv_at hl 3 rfl) ?_
  refine lv_iconst (v := nI 1) hx hb dX9_check_11 (by decide) ?_
  refine lv_bipush (v := nI 30) hx hb dX9_check_12 (by decide) ?_
  obtain ⟨v3, hv, hM⟩ := e_bs hM
  refine e_callS (As := [.int l2, .int (nI 1), .int (nI 30)]) (rest := []) (n := 3) E J (mX9_in (l := l) (G := G) l2 (nI 1) (nI 30) h2 _ hv) q_5_137 q_5_138 q_1_9 q_5_139 (by decide +kernel) rfl ⟨Nat.le_of_ble_eq_true rfl, Nat.le_of_ble_eq_true rfl⟩ (st0 := [.int (nI 30), .int (nI 1), .int l2]) (st1 := [.int (e_b v3)]) rfl rfl hl.1 (Nat.le_of_ble_eq_true rfl) dX9_check_14 ⟨Nat.le_refl _, Nat.le_refl _⟩ (fun H locs J => ?_)
  refine lv_if_ne (tgt := 23) hx hb dX9_check_17 (by decide) (fun hc => ?_) (fun hc => ?_)
  · have hM := e_in hc hM
    refine lv_aload_n hx hb dX9_check_23 rfl (lv_at hl 1 rfl) ?_
    obtain ⟨v4, hv, hM⟩ := e_bs hM
    refine e_getI (C := RX9) (T := TX9) (N := 40) E J hv rfl inX9 (by decide) q_5_13 dX9_check_24 ?_
    refine lv_if_ne (tgt := 33) hx hb dX9_check_27 (by decide) (fun hc => ?_) (fun hc => ?_)
    · have hM := e_in hc hM
      refine lv_iload_n hx hb dX9_check_33 rfl (lv_at hl 2 rfl) ?_
      refine lv_iconst (v := nI 0) hx hb dX9_check_34 (by decide) ?_
      refine lv_aload_n hx hb dX9_check_35 rfl (lv_at hl 1 rfl) ?_
      obtain ⟨v5, hv, hM⟩ := e_bs hM
      refine e_getR (C := RX9) (T := TX9) (N := 40) E J hv rfl inX9 (by decide) q_5_11 dX9_check_36 ?_
      rcases v5 with _ | a6
      · have hM := e_on0 hM
        refine W.eq (g2 := F0 m 39 ls [.null, .int (nI 0), .int l1]) rfl ?_
        refine lv_iconst (v := nI 1) hx hb dX9_check_39 (by decide) ?_
        exact e_no hM
      · have hM := e_on1 hM
        refine W.eq (g2 := F0 m 39 ls [.ref (e_ad G a6), .int (nI 0), .int l1]) rfl ?_
        refine lv_iconst (v := nI 1) hx hb dX9_check_39 (by decide) ?_
        obtain ⟨v7, hv, hM⟩ := e_bs hM
        refine e_iald E J hv dX9_check_40 ?_
        refine lv_iconst (v := nI 1) hx hb dX9_check_41 (by decide) ?_
        refine lv_isub hx hb dX9_check_42 ?_
        obtain ⟨v8, hv, hM⟩ := e_bs hM
        refine e_callS (As := [.int l1, .int (nI 0), .int (v7 - (nI 1))]) (rest := []) (n := 3) E J (mX9_in (l := l) (G := G) l1 (nI 0) (v7 - (nI 1)) h2 _ hv) q_5_137 q_5_138 q_1_9 q_5_139 (by decide +kernel) rfl ⟨Nat.le_of_ble_eq_true rfl, Nat.le_of_ble_eq_true rfl⟩ (st0 := [.int (v7 - (nI 1)), .int (nI 0), .int l1]) (st1 := [.int (e_b v8)]) rfl rfl hl.1 (Nat.le_of_ble_eq_true rfl) dX9_check_43 ⟨Nat.le_refl _, Nat.le_refl _⟩ (fun H locs J => ?_)
        refine lv_if_ne (tgt := 52) hx hb dX9_check_46 (by decide) (fun hc => ?_) (fun hc => ?_)
        · have hM := e_in hc hM
          refine lv_aload_n hx hb dX9_check_52 rfl (lv_at hl 1 rfl) ?_
          obtain ⟨v9, hv, hM⟩ := e_bs hM
          refine e_getR (C := RX9) (T := TX9) (N := 40) E J hv rfl inX9 (by decide) q_5_10 dX9_check_53 ?_
          rcases v9 with _ | a10
          · have hM := e_on0 hM
            refine W.eq (g2 := F0 m 56 ls [.null]) rfl ?_
            refine lv_aload_n hx hb dX9_check_56 rfl (lv_at hl 1 rfl) ?_
            obtain ⟨v11, hv, hM⟩ := e_bs hM
            refine e_getR (C := RX9) (T := TX9) (N := 40) E J hv rfl inX9 (by decide) q_5_12 dX9_check_57 ?_
            rcases v11 with _ | a12
            · have hM := e_on0 hM
              refine W.eq (g2 := F0 m 60 ls [.null, .null]) rfl ?_
              exact e_no hM
            · have hM := e_on1 hM
              refine W.eq (g2 := F0 m 60 ls [.ref (e_ad G a12), .null]) rfl ?_
              exact e_no hM
          · have hM := e_on1 hM
            refine W.eq (g2 := F0 m 56 ls [.ref (e_ad G a10)]) rfl ?_
            refine lv_aload_n hx hb dX9_check_56 rfl (lv_at hl 1 rfl) ?_
            obtain ⟨v13, hv, hM⟩ := e_bs hM
            refine e_getR (C := RX9) (T := TX9) (N := 40) E J hv rfl inX9 (by decide) q_5_12 dX9_check_57 ?_
            rcases v13 with _ | a14
            · have hM := e_on0 hM
              refine W.eq (g2 := F0 m 60 ls [.null, .ref (e_ad G a10)]) rfl ?_
              exact e_no hM
            · have hM := e_on1 hM
              refine W.eq (g2 := F0 m 60 ls [.ref (e_ad G a14), .ref (e_ad G a10)]) rfl ?_
              obtain ⟨h15, hv, hM⟩ := e_bs hM
              refine e_callS (As := [.ref (e_ad G a10), .ref (e_ad G a14)]) (rest := []) (n := 2) E J (mX9_copyAll (l := l) (G := G) a10 a14 h2 _ hv) q_6_232 q_6_233 q_1_9 q_6_234 (by decide +kernel) rfl ⟨Nat.le_of_ble_eq_true rfl, Nat.le_of_ble_eq_true rfl⟩ (st0 := [.ref (e_ad G a14), .ref (e_ad G a10)]) (st1 := []) rfl rfl hl.1 (Nat.le_of_ble_eq_true rfl) dX9_check_60 ⟨Nat.le_refl _, Nat.le_refl _⟩ (fun H locs J => ?_)
              refine lv_aload_n hx hb dX9_check_63 rfl (lv_at hl 1 rfl) ?_
              obtain ⟨v16, hv, hM⟩ := e_bs hM
              refine e_getR (C := RX9) (T := TX9) (N := 40) E J hv rfl inX9 (by decide) q_5_11 dX9_check_64 ?_
              rcases v16 with _ | a17
              · have hM := e_on0 hM
                refine W.eq (g2 := F0 m 67 ls [.null]) rfl ?_
                refine lv_aload_n hx hb dX9_check_67 rfl (lv_at hl 1 rfl) ?_
                obtain ⟨v18, hv, hM⟩ := e_bs hM
                refine e_getR (C := RX9) (T := TX9) (N := 40) E J hv rfl inX9 (by decide) q_5_10 dX9_check_68 ?_
                rcases v18 with _ | a19
                · have hM := e_on0 hM
                  refine W.eq (g2 := F0 m 71 ls [.null, .null]) rfl ?_
                  exact e_no hM
                · have hM := e_on1 hM
                  refine W.eq (g2 := F0 m 71 ls [.ref (e_ad G a19), .null]) rfl ?_
                  exact e_no hM
              · have hM := e_on1 hM
                refine W.eq (g2 := F0 m 67 ls [.ref (e_ad G a17)]) rfl ?_
                refine lv_aload_n hx hb dX9_check_67 rfl (lv_at hl 1 rfl) ?_
                obtain ⟨v20, hv, hM⟩ := e_bs hM
                refine e_getR (C := RX9) (T := TX9) (N := 40) E J hv rfl inX9 (by decide) q_5_10 dX9_check_68 ?_
                rcases v20 with _ | a21
                · have hM := e_on0 hM
                  refine W.eq (g2 := F0 m 71 ls [.null, .ref (e_ad G a17)]) rfl ?_
                  exact e_no hM
                · have hM := e_on1 hM
                  refine W.eq (g2 := F0 m 71 ls [.ref (e_ad G a21), .ref (e_ad G a17)]) rfl ?_
                  obtain ⟨h22, hv, hM⟩ := e_bs hM
                  refine e_callS (As := [.ref (e_ad G a17), .ref (e_ad G a21)]) (rest := []) (n := 2) E J (mX9_copyAll (l := l) (G := G) a17 a21 h15 _ hv) q_6_232 q_6_233 q_1_9 q_6_234 (by decide +kernel) rfl ⟨Nat.le_of_ble_eq_true rfl, Nat.le_of_ble_eq_true rfl⟩ (st0 := [.ref (e_ad G a21), .ref (e_ad G a17)]) (st1 := []) rfl rfl hl.1 (Nat.le_of_ble_eq_true rfl) dX9_check_71 ⟨Nat.le_refl _, Nat.le_refl _⟩ (fun H locs J => ?_)
                  refine lv_aload_n hx hb dX9_check_74 rfl (lv_at hl 1 rfl) ?_
                  refine lv_iload_n hx hb dX9_check_75 rfl (lv_at hl 2 rfl) ?_
                  obtain ⟨p23, hv, hM⟩ := e_bs hM
                  obtain ⟨fs_, hk, -⟩ := e_bs hv
                  refine e_callV (ci := 9) (As := [.int l1]) (rest := []) (n := 1) E J hk rfl (mX9_findTerms (l := l) (G := G) l0 l1 h22 _ hv) q_5_202 q_5_204 q_p_24 q_1_9 q_5_205 (by decide +kernel) rfl ⟨Nat.le_of_ble_eq_true rfl, Nat.le_of_ble_eq_true rfl⟩ (st0 := [.int l1, .ref (e_ad G l0)]) (st1 := [.int p23.1]) rfl rfl hl.1 (Nat.le_of_ble_eq_true rfl) dX9_check_76 ⟨Nat.le_refl _, Nat.le_refl _⟩ (fun H locs J => ?_)
                  refine lv_istore (lv' := [(4, .int p23.1), (3, .int v1), (0, .ref (e_ad G l0)), (1, .int l1), (2, .int l2)]) hx hb dX9_check_79 hl (by decide) rfl (fun ls hl => ?_)
                  refine lv_iconst (v := nI 0) hx hb dX9_check_81 (by decide) ?_
                  refine lv_istore (lv' := [(5, .int (nI 0)), (4, .int p23.1), (3, .int v1), (0, .ref (e_ad G l0)), (1, .int l1), (2, .int l2)]) hx hb dX9_check_82 hl (by decide) rfl (fun ls hl => ?_)
                  refine lv_iconst (v := nI 0) hx hb dX9_check_84 (by decide) ?_
                  refine lv_istore (lv' := [(6, .int (nI 0)), (5, .int (nI 0)), (4, .int p23.1), (3, .int v1), (0, .ref (e_ad G l0)), (1, .int l1), (2, .int l2)]) hx hb dX9_check_85 hl (by decide) rfl (fun ls hl => ?_)
                  refine lv_iconst (v := nI 0) hx hb dX9_check_87 (by decide) ?_
                  refine lv_istore (lv' := [(7, .int (nI 0)), (6, .int (nI 0)), (5, .int (nI 0)), (4, .int p23.1), (3, .int v1), (0, .ref (e_ad G l0)), (1, .int l1), (2, .int l2)]) hx hb dX9_check_88 hl (by decide) rfl (fun ls hl => ?_)
                  exact mX9_check_L90 E 200 l0 l2 v1 (nI 0) (nI 0) (nI 0) p23.2 hM J (lv_sub hl [5, 7, 4, 2, 1, 0] rfl)
        · have hM := e_ip hc hM
          refine lv_ldc (v := -1000000001) hx hb hown (hts _ q_5_140) dX9_check_49 ?_
          obtain rfl := e_so hM
          exact e_iret E J dX9_check_51
    · have hM := e_ip hc hM
      refine lv_ldc (v := -1000000002) hx hb hown (hts _ q_6_49) dX9_check_30 ?_
      obtain rfl := e_so hM
      exact e_iret E J dX9_check_32
  · have hM := e_ip hc hM
    refine lv_ldc (v := -1000000001) hx hb hown (hts _ q_5_140) dX9_check_20 ?_
    obtain rfl := e_so hM
    exact e_iret E J dX9_check_22
set_option maxRecDepth 100000 in
set_option maxHeartbeats 4000000 in
theorem mX9_keep {l : Launch} {G : e_G} (l0 : Nat) (h : e_H) (res : (Int32 × e_H)) (hM : fX9_keep l0 h = some res) : Met l yX9_keep (e_W yX9_keep cX9_keep 1 (some FieldType.int)) (e_rm 1 22) (e_Pc G h [.ref (e_ad G l0)]) (e_Q G res.2 (some (.int res.1))) 0 0 (e_A G) := by
  refine Met.ofW (cc := cX9_keep) (maxL := 1) (ret := (some FieldType.int)) (by decide) rfl ?_
  intro p e s m args below meth c s₁ B hml hv
  obtain ⟨rfl, hS, hP⟩ := hv
  have E := e_enter (own := RX9) (ret := (some FieldType.int)) B hml rfl hS hP
  have J : e_J G s h s.heap [] := ⟨hP, va_S.rf⟩
  have hl := lv_entry ([.ref (e_ad G l0)]) (n := 1) (Nat.le_of_ble_eq_true rfl)
  rw [lg_entry_eq]
  generalize (lg_sl ([.ref (e_ad G l0)]) ++ List.replicate (1 - (lg_sl ([.ref (e_ad G l0)])).length) Slot.unset).toArray = ls at hl ⊢
  have hl : lv_has ls 1 [(0, .ref (e_ad G l0))] := hl
  obtain ⟨hx, hb, hr, hml, hown, hts, hlocks, hES, hbs⟩ := id E
  unfold fX9_keep at hM
  obtain ⟨fs_, hk_, hM⟩ := e_bs hM
  refine lv_aload_n hx hb dX9_keep_0 rfl (lv_at hl 0 rfl) ?_
  obtain ⟨v1, hv, hM⟩ := e_bs hM
  refine e_getR (C := RX9) (T := TX9) (N := 40) E J hv rfl inX9 (by decide) q_5_10 dX9_keep_1 ?_
  rcases v1 with _ | a2
  · have hM := e_on0 hM
    refine W.eq (g2 := F0 m 4 ls [.null]) rfl ?_
    refine lv_aload_n hx hb dX9_keep_4 rfl (lv_at hl 0 rfl) ?_
    obtain ⟨v3, hv, hM⟩ := e_bs hM
    refine e_getR (C := RX9) (T := TX9) (N := 40) E J hv rfl inX9 (by decide) q_5_11 dX9_keep_5 ?_
    rcases v3 with _ | a4
    · have hM := e_on0 hM
      refine W.eq (g2 := F0 m 8 ls [.null, .null]) rfl ?_
      exact e_no hM
    · have hM := e_on1 hM
      refine W.eq (g2 := F0 m 8 ls [.ref (e_ad G a4), .null]) rfl ?_
      exact e_no hM
  · have hM := e_on1 hM
    refine W.eq (g2 := F0 m 4 ls [.ref (e_ad G a2)]) rfl ?_
    refine lv_aload_n hx hb dX9_keep_4 rfl (lv_at hl 0 rfl) ?_
    obtain ⟨v5, hv, hM⟩ := e_bs hM
    refine e_getR (C := RX9) (T := TX9) (N := 40) E J hv rfl inX9 (by decide) q_5_11 dX9_keep_5 ?_
    rcases v5 with _ | a6
    · have hM := e_on0 hM
      refine W.eq (g2 := F0 m 8 ls [.null, .ref (e_ad G a2)]) rfl ?_
      exact e_no hM
    · have hM := e_on1 hM
      refine W.eq (g2 := F0 m 8 ls [.ref (e_ad G a6), .ref (e_ad G a2)]) rfl ?_
      obtain ⟨h7, hv, hM⟩ := e_bs hM
      refine e_callS (As := [.ref (e_ad G a2), .ref (e_ad G a6)]) (rest := []) (n := 2) E J (mX9_copyAll (l := l) (G := G) a2 a6 h _ hv) q_6_232 q_6_233 q_1_9 q_6_234 (by decide +kernel) rfl ⟨Nat.le_of_ble_eq_true rfl, Nat.le_of_ble_eq_true rfl⟩ (st0 := [.ref (e_ad G a6), .ref (e_ad G a2)]) (st1 := []) rfl rfl hl.1 (Nat.le_of_ble_eq_true rfl) dX9_keep_8 ⟨Nat.le_refl _, Nat.le_refl _⟩ (fun H locs J => ?_)
      refine lv_aload_n hx hb dX9_keep_11 rfl (lv_at hl 0 rfl) ?_
      refine lv_iconst (v := nI 1) hx hb dX9_keep_12 (by decide) ?_
      obtain ⟨h8, hv, hM⟩ := e_bs hM
      refine e_putv (C := RX9) (T := TX9) (N := 40) E J hv rfl rfl inX9 tyX9 tyX9_ok nmX9 (by decide) q_5_13 rfl rfl (by decide) (by decide) dX9_keep_13 (fun H locs J => ?_)
      refine lv_aload_n hx hb dX9_keep_16 rfl (lv_at hl 0 rfl) ?_
      obtain ⟨v9, hv, hM⟩ := e_bs hM
      refine e_getR (C := RX9) (T := TX9) (N := 40) E J hv rfl inX9 (by decide) q_5_10 dX9_keep_17 ?_
      rcases v9 with _ | a10
      · have hM := e_on0 hM
        refine W.eq (g2 := F0 m 20 ls [.null]) rfl ?_
        refine lv_iconst (v := nI 1) hx hb dX9_keep_20 (by decide) ?_
        exact e_no hM
      · have hM := e_on1 hM
        refine W.eq (g2 := F0 m 20 ls [.ref (e_ad G a10)]) rfl ?_
        refine lv_iconst (v := nI 1) hx hb dX9_keep_20 (by decide) ?_
        obtain ⟨v11, hv, hM⟩ := e_bs hM
        refine e_iald E J hv dX9_keep_21 ?_
        obtain rfl := e_so hM
        exact e_iret E J dX9_keep_22
set_option maxRecDepth 100000 in
set_option maxHeartbeats 4000000 in
theorem mX9_back {l : Launch} {G : e_G} (l0 : Nat) (h : e_H) (res : (Int32 × e_H)) (hM : fX9_back l0 h = some res) : Met l yX9_back (e_W yX9_back cX9_back 1 (some FieldType.int)) (e_rm 1 22) (e_Pc G h [.ref (e_ad G l0)]) (e_Q G res.2 (some (.int res.1))) 0 0 (e_A G) := by
  refine Met.ofW (cc := cX9_back) (maxL := 1) (ret := (some FieldType.int)) (by decide) rfl ?_
  intro p e s m args below meth c s₁ B hml hv
  obtain ⟨rfl, hS, hP⟩ := hv
  have E := e_enter (own := RX9) (ret := (some FieldType.int)) B hml rfl hS hP
  have J : e_J G s h s.heap [] := ⟨hP, va_S.rf⟩
  have hl := lv_entry ([.ref (e_ad G l0)]) (n := 1) (Nat.le_of_ble_eq_true rfl)
  rw [lg_entry_eq]
  generalize (lg_sl ([.ref (e_ad G l0)]) ++ List.replicate (1 - (lg_sl ([.ref (e_ad G l0)])).length) Slot.unset).toArray = ls at hl ⊢
  have hl : lv_has ls 1 [(0, .ref (e_ad G l0))] := hl
  obtain ⟨hx, hb, hr, hml, hown, hts, hlocks, hES, hbs⟩ := id E
  unfold fX9_back at hM
  obtain ⟨fs_, hk_, hM⟩ := e_bs hM
  refine lv_aload_n hx hb dX9_back_0 rfl (lv_at hl 0 rfl) ?_
  obtain ⟨v1, hv, hM⟩ := e_bs hM
  refine e_getI (C := RX9) (T := TX9) (N := 40) E J hv rfl inX9 (by decide) q_5_13 dX9_back_1 ?_
  refine lv_if_ne (tgt := 10) hx hb dX9_back_4 (by decide) (fun hc => ?_) (fun hc => ?_)
  · have hM := e_in hc hM
    refine lv_aload_n hx hb dX9_back_10 rfl (lv_at hl 0 rfl) ?_
    obtain ⟨v2, hv, hM⟩ := e_bs hM
    refine e_getR (C := RX9) (T := TX9) (N := 40) E J hv rfl inX9 (by decide) q_5_11 dX9_back_11 ?_
    rcases v2 with _ | a3
    · have hM := e_on0 hM
      refine W.eq (g2 := F0 m 14 ls [.null]) rfl ?_
      refine lv_aload_n hx hb dX9_back_14 rfl (lv_at hl 0 rfl) ?_
      obtain ⟨v4, hv, hM⟩ := e_bs hM
      refine e_getR (C := RX9) (T := TX9) (N := 40) E J hv rfl inX9 (by decide) q_5_10 dX9_back_15 ?_
      rcases v4 with _ | a5
      · have hM := e_on0 hM
        refine W.eq (g2 := F0 m 18 ls [.null, .null]) rfl ?_
        exact e_no hM
      · have hM := e_on1 hM
        refine W.eq (g2 := F0 m 18 ls [.ref (e_ad G a5), .null]) rfl ?_
        exact e_no hM
    · have hM := e_on1 hM
      refine W.eq (g2 := F0 m 14 ls [.ref (e_ad G a3)]) rfl ?_
      refine lv_aload_n hx hb dX9_back_14 rfl (lv_at hl 0 rfl) ?_
      obtain ⟨v6, hv, hM⟩ := e_bs hM
      refine e_getR (C := RX9) (T := TX9) (N := 40) E J hv rfl inX9 (by decide) q_5_10 dX9_back_15 ?_
      rcases v6 with _ | a7
      · have hM := e_on0 hM
        refine W.eq (g2 := F0 m 18 ls [.null, .ref (e_ad G a3)]) rfl ?_
        exact e_no hM
      · have hM := e_on1 hM
        refine W.eq (g2 := F0 m 18 ls [.ref (e_ad G a7), .ref (e_ad G a3)]) rfl ?_
        obtain ⟨h8, hv, hM⟩ := e_bs hM
        refine e_callS (As := [.ref (e_ad G a3), .ref (e_ad G a7)]) (rest := []) (n := 2) E J (mX9_copyAll (l := l) (G := G) a3 a7 h _ hv) q_6_232 q_6_233 q_1_9 q_6_234 (by decide +kernel) rfl ⟨Nat.le_of_ble_eq_true rfl, Nat.le_of_ble_eq_true rfl⟩ (st0 := [.ref (e_ad G a7), .ref (e_ad G a3)]) (st1 := []) rfl rfl hl.1 (Nat.le_of_ble_eq_true rfl) dX9_back_18 ⟨Nat.le_refl _, Nat.le_refl _⟩ (fun H locs J => ?_)
        refine lv_aload_n hx hb dX9_back_21 rfl (lv_at hl 0 rfl) ?_
        obtain ⟨v9, hv, hM⟩ := e_bs hM
        refine e_getR (C := RX9) (T := TX9) (N := 40) E J hv rfl inX9 (by decide) q_5_10 dX9_back_22 ?_
        rcases v9 with _ | a10
        · have hM := e_on0 hM
          refine W.eq (g2 := F0 m 25 ls [.null]) rfl ?_
          refine lv_iconst (v := nI 1) hx hb dX9_back_25 (by decide) ?_
          exact e_no hM
        · have hM := e_on1 hM
          refine W.eq (g2 := F0 m 25 ls [.ref (e_ad G a10)]) rfl ?_
          refine lv_iconst (v := nI 1) hx hb dX9_back_25 (by decide) ?_
          obtain ⟨v11, hv, hM⟩ := e_bs hM
          refine e_iald E J hv dX9_back_26 ?_
          obtain rfl := e_so hM
          exact e_iret E J dX9_back_27
  · have hM := e_ip hc hM
    refine lv_ldc (v := -1000000002) hx hb hown (hts _ q_6_49) dX9_back_7 ?_
    obtain rfl := e_so hM
    exact e_iret E J dX9_back_9
set_option maxRecDepth 100000 in
set_option maxHeartbeats 4000000 in
theorem mX9_count {l : Launch} {G : e_G} (l0 : Nat) (l1 : Int32) (h : e_H) (res : Int32) (hM : fX9_count l0 l1 h = some res) : Met l yX9_count (e_W yX9_count cX9_count 2 (some FieldType.int)) (e_rm 0 0) (e_Pc G h [.ref (e_ad G l0), .int l1]) (e_Q G h (some (.int res))) 0 0 (e_A G) := by
  refine Met.ofW (cc := cX9_count) (maxL := 2) (ret := (some FieldType.int)) (by decide) rfl ?_
  intro p e s m args below meth c s₁ B hml hv
  obtain ⟨rfl, hS, hP⟩ := hv
  have E := e_enter (own := RX9) (ret := (some FieldType.int)) B hml rfl hS hP
  have J : e_J G s h s.heap [] := ⟨hP, va_S.rf⟩
  have hl := lv_entry ([.ref (e_ad G l0), .int l1]) (n := 2) (Nat.le_of_ble_eq_true rfl)
  rw [lg_entry_eq]
  generalize (lg_sl ([.ref (e_ad G l0), .int l1]) ++ List.replicate (2 - (lg_sl ([.ref (e_ad G l0), .int l1])).length) Slot.unset).toArray = ls at hl ⊢
  have hl : lv_has ls 2 [(0, .ref (e_ad G l0)), (1, .int l1)] := hl
  obtain ⟨hx, hb, hr, hml, hown, hts, hlocks, hES, hbs⟩ := id E
  unfold fX9_count at hM
  obtain ⟨fs_, hk_, hM⟩ := e_bs hM
  refine lv_iload_n hx hb dX9_count_0 rfl (lv_at hl 1 rfl) ?_
  by_cases hc0 : l1 = nI 0
  · have hM := e_ip hc0 hM
    refine e_tin (y := nI 0) (off := 35) (tgt := 36) hx hb dX9_count_1 hc0 (by decide) (by decide) (by decide +kernel) (by decide) ?_
    refine lv_aload_n hx hb dX9_count_36 rfl (lv_at hl 0 rfl) ?_
    obtain ⟨v1, hv, hM⟩ := e_bs hM
    refine e_getR (C := RX9) (T := TX9) (N := 40) E J hv rfl inX9 (by decide) q_5_10 dX9_count_37 ?_
    rcases v1 with _ | a2
    · have hM := e_on0 hM
      refine W.eq (g2 := F0 m 40 ls [.null]) rfl ?_
      refine lv_iconst (v := nI 1) hx hb dX9_count_40 (by decide) ?_
      exact e_no hM
    · have hM := e_on1 hM
      refine W.eq (g2 := F0 m 40 ls [.ref (e_ad G a2)]) rfl ?_
      refine lv_iconst (v := nI 1) hx hb dX9_count_40 (by decide) ?_
      obtain ⟨v3, hv, hM⟩ := e_bs hM
      refine e_iald E J hv dX9_count_41 ?_
      obtain rfl := e_so hM
      exact e_iret E J dX9_count_42
  have hM := e_in hc0 hM
  by_cases hc1 : l1 = nI 1
  · have hM := e_ip hc1 hM
    refine e_tin (y := nI 1) (off := 42) (tgt := 43) hx hb dX9_count_1 hc1 (by decide) (by decide) (by decide +kernel) (by decide) ?_
    refine lv_aload_n hx hb dX9_count_43 rfl (lv_at hl 0 rfl) ?_
    obtain ⟨v4, hv, hM⟩ := e_bs hM
    refine e_getR (C := RX9) (T := TX9) (N := 40) E J hv rfl inX9 (by decide) q_5_10 dX9_count_44 ?_
    rcases v4 with _ | a5
    · have hM := e_on0 hM
      refine W.eq (g2 := F0 m 47 ls [.null]) rfl ?_
      refine lv_iconst (v := nI 2) hx hb dX9_count_47 (by decide) ?_
      exact e_no hM
    · have hM := e_on1 hM
      refine W.eq (g2 := F0 m 47 ls [.ref (e_ad G a5)]) rfl ?_
      refine lv_iconst (v := nI 2) hx hb dX9_count_47 (by decide) ?_
      obtain ⟨v6, hv, hM⟩ := e_bs hM
      refine e_iald E J hv dX9_count_48 ?_
      obtain rfl := e_so hM
      exact e_iret E J dX9_count_49
  have hM := e_in hc1 hM
  by_cases hc2 : l1 = nI 2
  · have hM := e_ip hc2 hM
    refine e_tin (y := nI 2) (off := 49) (tgt := 50) hx hb dX9_count_1 hc2 (by decide) (by decide) (by decide +kernel) (by decide) ?_
    refine lv_aload_n hx hb dX9_count_50 rfl (lv_at hl 0 rfl) ?_
    obtain ⟨v7, hv, hM⟩ := e_bs hM
    refine e_getI (C := RX9) (T := TX9) (N := 40) E J hv rfl inX9 (by decide) q_5_49 dX9_count_51 ?_
    obtain rfl := e_so hM
    exact e_iret E J dX9_count_54
  have hM := e_in hc2 hM
  by_cases hc3 : l1 = nI 3
  · have hM := e_ip hc3 hM
    refine e_tin (y := nI 3) (off := 54) (tgt := 55) hx hb dX9_count_1 hc3 (by decide) (by decide) (by decide +kernel) (by decide) ?_
    refine lv_aload_n hx hb dX9_count_55 rfl (lv_at hl 0 rfl) ?_
    obtain ⟨v8, hv, hM⟩ := e_bs hM
    refine e_getI (C := RX9) (T := TX9) (N := 40) E J hv rfl inX9 (by decide) q_5_23 dX9_count_56 ?_
    obtain rfl := e_so hM
    exact e_iret E J dX9_count_59
  have hM := e_in hc3 hM
  by_cases hc4 : l1 = nI 4
  · have hM := e_ip hc4 hM
    refine e_tin (y := nI 4) (off := 59) (tgt := 60) hx hb dX9_count_1 hc4 (by decide) (by decide) (by decide +kernel) (by decide) ?_
    refine lv_aload_n hx hb dX9_count_60 rfl (lv_at hl 0 rfl) ?_
    obtain ⟨v9, hv, hM⟩ := e_bs hM
    refine e_getR (C := RX9) (T := TX9) (N := 40) E J hv rfl inX9 (by decide) q_5_10 dX9_count_61 ?_
    rcases v9 with _ | a10
    · have hM := e_on0 hM
      refine W.eq (g2 := F0 m 64 ls [.null]) rfl ?_
      refine lv_iconst (v := nI 0) hx hb dX9_count_64 (by decide) ?_
      exact e_no hM
    · have hM := e_on1 hM
      refine W.eq (g2 := F0 m 64 ls [.ref (e_ad G a10)]) rfl ?_
      refine lv_iconst (v := nI 0) hx hb dX9_count_64 (by decide) ?_
      obtain ⟨v11, hv, hM⟩ := e_bs hM
      refine e_iald E J hv dX9_count_65 ?_
      obtain rfl := e_so hM
      exact e_iret E J dX9_count_66
  have hM := e_in hc4 hM
  refine lv_tableOut (tgt := 67) hx hb dX9_count_1 (Classical.byContradiction fun hn => by
      have h9 : l1.toInt = 0 ∨ l1.toInt = 1 ∨ l1.toInt = 2 ∨ l1.toInt = 3 ∨ l1.toInt = 4 := by omega
      rcases h9 with h9 | h9 | h9 | h9 | h9
      · exact hc0 (e_i32 (h9.trans (by decide)))
      · exact hc1 (e_i32 (h9.trans (by decide)))
      · exact hc2 (e_i32 (h9.trans (by decide)))
      · exact hc3 (e_i32 (h9.trans (by decide)))
      · exact hc4 (e_i32 (h9.trans (by decide)))) (by decide) ?_
  refine lv_ldc (v := -1000000001) hx hb hown (hts _ q_5_140) dX9_count_67 ?_
  obtain rfl := e_so hM
  exact e_iret E J dX9_count_69
