set_option maxRecDepth 100000 in
set_option maxHeartbeats 4000000 in
theorem mX0_init {l : Launch} {G : e_G} (l0 : Nat) (h : e_H) (res : e_H) (hM : fX0_init l0 h = some res) : Met l yX0_init (e_W yX0_init cX0_init 1 none) (e_rc 1 40 1 15) (e_Pc G h [.ref (e_ad G l0)]) (e_Q G res (none)) 1 15 (e_A G) := by
  refine Met.ofW (cc := cX0_init) (maxL := 1) (ret := none) (by decide) rfl ?_
  intro p e s m args below meth c s₁ B hml hv
  obtain ⟨rfl, hS, hP⟩ := hv
  have E := e_enter (own := RX0) (ret := none) B hml rfl hS hP
  have J : e_J G s h s.heap [] := ⟨hP, va_S.rf⟩
  have hin0 : meth.name = "<init>" := (name_of_methodNamed B.named B.method).1
  have hl := lv_entry ([.ref (e_ad G l0)]) (n := 1) (Nat.le_of_ble_eq_true rfl)
  rw [lg_entry_eq]
  generalize (lg_sl ([.ref (e_ad G l0)]) ++ List.replicate (1 - (lg_sl ([.ref (e_ad G l0)])).length) Slot.unset).toArray = ls at hl ⊢
  have hl : lv_has ls 1 [(0, .ref (e_ad G l0))] := hl
  obtain ⟨hx, hb, hr, hml, hown, hts, hlocks, hES, hbs⟩ := id E
  unfold fX0_init at hM
  obtain ⟨fs_, hk_, hM⟩ := e_bs hM
  refine lv_aload_n hx hb dX0_init_0 rfl (lv_at hl 0 rfl) ?_
  refine e_oinit E q_1_41 q_1_25 q_1_26 hl.1 (Nat.le_of_ble_eq_true rfl) (Nat.le_of_ble_eq_true rfl) dX0_init_1 ?_
  refine lv_aload_n hx hb dX0_init_4 rfl (lv_at hl 0 rfl) ?_
  refine lv_iconst (v := nI 0) hx hb dX0_init_5 (by decide) ?_
  obtain ⟨h1, hv, hM⟩ := e_bs hM
  refine e_putv (C := RX0) (T := TX0) (N := 2) E J hv rfl rfl inX0 tyX0 tyX0_ok nmX0 (by decide) q_1_42 rfl rfl rfl rfl dX0_init_6 (fun H locs J => ?_)
  refine lv_aload_n hx hb dX0_init_9 rfl (lv_at hl 0 rfl) ?_
  refine lv_bipush (v := nI 15) hx hb dX0_init_10 (by decide) ?_
  obtain ⟨p2, hv, hM⟩ := e_bs hM
  refine e_newA (top := 15) (atype := .int) (ty := .int) E J hv rfl rfl (fun _ => rfl) (fun _ => ⟨_, rfl⟩) (fun h => h) q_1_50 (Nat.le_of_ble_eq_true rfl) (e_rcc (by omega)) (e_rcs (by omega)) dX0_init_12 (fun H J => ?_)
  obtain ⟨h3, hv, hM⟩ := e_bs hM
  refine e_putF (C := RX0) (T := TX0) (N := 2) E J hv rfl rfl inX0 tyX0 tyX0_ok nmX0 (by decide) q_1_44 rfl hin0 rfl rfl rfl rfl dX0_init_14 (fun H locs J => ?_)
  obtain rfl := e_so hM
  refine W.widen (k := 1) (n := 15) (by omega) (by omega) ?_
  exact e_vret E J dX0_init_17
set_option maxRecDepth 100000 in
set_option maxHeartbeats 4000000 in
theorem mX7_init_b47 {p : Program} {l : Launch} {e : Env} {s : State} {m : MethodId} {args : Array Value} {below : List Frame} {meth : Method} {c : Code} {G : e_G} {res : e_H} {k47 : Nat → Int32 → e_H → Option e_H} (E : e_M G p s args m meth c cX7_init 2 none RX7) (hin0 : meth.name = "<init>") {n9 : Nat} (K47 : ∀ (l0 : Nat) (l1 : Int32) (h : e_H), k47 l0 l1 h = some res → ∀ (cells slots : Nat), cells + (n9 * 2 + 0) ≤ 23 → slots + (n9 * 17 + 0) ≤ 286 → ∀ (H : Heap) (locs : List Loc), e_J G s h H locs → ∀ (ls : Array Slot), lv_has ls 2 [(0, .ref (e_ad G l0)), (1, .int l1)] → W p l e (e_rc 2 60 23 286) s m args below meth c H locs cells slots (MQ below (e_Q G res (none)) args s 23 286 (e_A G)) (F0 m 47 ls [])) (l0 : Nat) (l1 : Int32) (h : e_H) (hM : fX7_init_b47 k47 l0 l1 h = some res) {cells slots : Nat} (hb1 : cells + 0 ≤ 23) (hb2 : slots + 0 ≤ 286) (hb3 : cells + 2 + (n9 * 2 + 0) ≤ 23) (hb4 : slots + 17 + (n9 * 17 + 0) ≤ 286) {H : Heap} {locs : List Loc} (J : e_J G s h H locs) {ls : Array Slot} (hl : lv_has ls 2 [(0, .ref (e_ad G l0)), (1, .int l1)]) : W p l e (e_rc 2 60 23 286) s m args below meth c H locs cells slots (MQ below (e_Q G res (none)) args s 23 286 (e_A G)) (F0 m 47 ls []) := by
  obtain ⟨hx, hb, hr, hml, hown, hts, hlocks, hES, hbs⟩ := id E
  unfold fX7_init_b47 at hM
  refine lv_iload_n hx hb dX7_init_47 rfl (lv_at hl 1 rfl) ?_
  refine lv_aload_n hx hb dX7_init_48 rfl (lv_at hl 0 rfl) ?_
  obtain ⟨v1, hv, hM⟩ := e_bs hM
  refine e_getR (C := RX7) (T := TX7) (N := 6) E J hv rfl inX7 (by decide) q_1_57 dX7_init_49 ?_
  rcases v1 with _ | a2
  · have hM := e_on0 hM
    refine W.eq (g2 := F0 m 52 ls [.null, .int l1]) rfl ?_
    exact e_no hM
  · have hM := e_on1 hM
    refine W.eq (g2 := F0 m 52 ls [.ref (e_ad G a2), .int l1]) rfl ?_
    obtain ⟨v3, hv, hM⟩ := e_bs hM
    refine e_alen E J hv rfl rfl dX7_init_52 ?_
    refine lv_icmp_ge (tgt := 75) hx hb dX7_init_53 (by decide) (fun hc => ?_) (fun hc => ?_)
    · have hM := e_ip hc hM
      obtain rfl := e_so hM
      refine W.widen (k := 23) (n := 286) (by omega) (by omega) ?_
      exact e_vret E J dX7_init_75
    · have hM := e_in hc hM
      refine lv_aload_n hx hb dX7_init_56 rfl (lv_at hl 0 rfl) ?_
      obtain ⟨v4, hv, hM⟩ := e_bs hM
      refine e_getR (C := RX7) (T := TX7) (N := 6) E J hv rfl inX7 (by decide) q_1_57 dX7_init_57 ?_
      rcases v4 with _ | a5
      · have hM := e_on0 hM
        refine W.eq (g2 := F0 m 60 ls [.null]) rfl ?_
        refine lv_iload_n hx hb dX7_init_60 rfl (lv_at hl 1 rfl) ?_
        obtain ⟨p6, hv, hM⟩ := e_bs hM
        refine e_new (C := RX0) (T := TX0) (N := 2) E J hv rfl inX0 tyX0 tyX0_ok q_1_33 q_1_37 q_1_3 rfl (by decide +kernel) (e_rcc (by omega)) (e_rcs (by omega)) dX7_init_61 (fun H J => ?_)
        refine lv_dup hx hb dX7_init_64 rfl ?_
        obtain ⟨h7, hv, hM⟩ := e_bs hM
        refine e_callIN (As := []) (rest := [.ref (e_ad G p6.1), .int l1, .null]) (n := 0) (host := RX8) E J (mX0_init (l := l) (G := G) p6.1 p6.2 _ hv) (List.mem_of_getElem? (i := 0) rfl) q_1_39 q_1_3 q_1_40 rfl (by decide +kernel) rfl ⟨Nat.le_of_ble_eq_true rfl, Nat.le_of_ble_eq_true rfl⟩ (st0 := [.ref (e_ad G p6.1), .ref (e_ad G p6.1), .int l1, .null]) rfl hl.1 (Nat.le_of_ble_eq_true rfl) dX7_init_65 ⟨e_rcc (by omega), e_rcs (by omega)⟩ (fun H locs J => ?_)
        exact e_no hM
      · have hM := e_on1 hM
        refine W.eq (g2 := F0 m 60 ls [.ref (e_ad G a5)]) rfl ?_
        refine lv_iload_n hx hb dX7_init_60 rfl (lv_at hl 1 rfl) ?_
        obtain ⟨p9, hv, hM⟩ := e_bs hM
        refine e_new (C := RX0) (T := TX0) (N := 2) E J hv rfl inX0 tyX0 tyX0_ok q_1_33 q_1_37 q_1_3 rfl (by decide +kernel) (e_rcc (by omega)) (e_rcs (by omega)) dX7_init_61 (fun H J => ?_)
        refine lv_dup hx hb dX7_init_64 rfl ?_
        obtain ⟨h10, hv, hM⟩ := e_bs hM
        refine e_callIN (As := []) (rest := [.ref (e_ad G p9.1), .int l1, .ref (e_ad G a5)]) (n := 0) (host := RX8) E J (mX0_init (l := l) (G := G) p9.1 p9.2 _ hv) (List.mem_of_getElem? (i := 0) rfl) q_1_39 q_1_3 q_1_40 rfl (by decide +kernel) rfl ⟨Nat.le_of_ble_eq_true rfl, Nat.le_of_ble_eq_true rfl⟩ (st0 := [.ref (e_ad G p9.1), .ref (e_ad G p9.1), .int l1, .ref (e_ad G a5)]) rfl hl.1 (Nat.le_of_ble_eq_true rfl) dX7_init_65 ⟨e_rcc (by omega), e_rcs (by omega)⟩ (fun H locs J => ?_)
        obtain ⟨h11, hv, hM⟩ := e_bs hM
        refine e_aastQ E J hv rfl rfl dX7_init_68 (fun H locs J => ?_)
        refine lv_iinc (v := (l1 + (nI 1))) (lv' := [(1, .int (l1 + (nI 1))), (0, .ref (e_ad G l0))]) hx hb dX7_init_69 hl (k := 1) rfl rfl (by decide) rfl (fun ls hl => ?_)
        refine lv_goto (tgt := 47) hx hb dX7_init_72 (by decide) ?_
        exact K47 l0 (l1 + (nI 1)) h11 hM _ _ (by omega) (by omega) _ _ J _ (lv_sub hl [1, 0] rfl)
set_option maxRecDepth 100000 in
set_option maxHeartbeats 4000000 in
theorem mX7_init_L47 {p : Program} {l : Launch} {e : Env} {s : State} {m : MethodId} {args : Array Value} {below : List Frame} {meth : Method} {c : Code} {G : e_G} {res : e_H} (E : e_M G p s args m meth c cX7_init 2 none RX7) (hin0 : meth.name = "<init>") (n : Nat) (l0 : Nat) (l1 : Int32) (h : e_H) (hM : fX7_init_L47 n l0 l1 h = some res) {cells slots : Nat} (hb1 : cells + (n * 2 + 0) ≤ 23) (hb2 : slots + (n * 17 + 0) ≤ 286) {H : Heap} {locs : List Loc} (J : e_J G s h H locs) {ls : Array Slot} (hl : lv_has ls 2 [(0, .ref (e_ad G l0)), (1, .int l1)]) : W p l e (e_rc 2 60 23 286) s m args below meth c H locs cells slots (MQ below (e_Q G res (none)) args s 23 286 (e_A G)) (F0 m 47 ls []) := by
  induction n generalizing l0 l1 h H locs ls cells slots with
  | zero => exact e_no hM
  | succ n ih => exact mX7_init_b47 (k47 := (fX7_init_L47 n)) E hin0 (n9 := n)   (fun l0 l1 h hM cells slots hc1 hc2 H locs J ls hl => ih l0 l1 h hM hc1 hc2 J hl) l0 l1 h hM (by omega) (by omega) (by omega) (by omega) J hl
set_option maxRecDepth 100000 in
set_option maxHeartbeats 4000000 in
theorem mX7_init {l : Launch} {G : e_G} (l0 : Nat) (h : e_H) (res : e_H) (hM : fX7_init l0 h = some res) : Met l yX7_init (e_W yX7_init cX7_init 2 none) (e_rc 2 60 23 286) (e_Pc G h [.ref (e_ad G l0)]) (e_Q G res (none)) 23 286 (e_A G) := by
  refine Met.ofW (cc := cX7_init) (maxL := 2) (ret := none) (by decide) rfl ?_
  intro p e s m args below meth c s₁ B hml hv
  obtain ⟨rfl, hS, hP⟩ := hv
  have E := e_enter (own := RX7) (ret := none) B hml rfl hS hP
  have J : e_J G s h s.heap [] := ⟨hP, va_S.rf⟩
  have hin0 : meth.name = "<init>" := (name_of_methodNamed B.named B.method).1
  have hl := lv_entry ([.ref (e_ad G l0)]) (n := 2) (Nat.le_of_ble_eq_true rfl)
  rw [lg_entry_eq]
  generalize (lg_sl ([.ref (e_ad G l0)]) ++ List.replicate (2 - (lg_sl ([.ref (e_ad G l0)])).length) Slot.unset).toArray = ls at hl ⊢
  have hl : lv_has ls 2 [(0, .ref (e_ad G l0))] := hl
  obtain ⟨hx, hb, hr, hml, hown, hts, hlocks, hES, hbs⟩ := id E
  unfold fX7_init at hM
  obtain ⟨fs_, hk_, hM⟩ := e_bs hM
  refine lv_aload_n hx hb dX7_init_0 rfl (lv_at hl 0 rfl) ?_
  refine e_oinit E q_1_32 q_1_25 q_1_26 hl.1 (Nat.le_of_ble_eq_true rfl) (Nat.le_of_ble_eq_true rfl) dX7_init_1 ?_
  refine lv_aload_n hx hb dX7_init_4 rfl (lv_at hl 0 rfl) ?_
  refine lv_iconst (v := nI 0) hx hb dX7_init_5 (by decide) ?_
  obtain ⟨h1, hv, hM⟩ := e_bs hM
  refine e_putv (C := RX7) (T := TX7) (N := 6) E J hv rfl rfl inX7 tyX7 tyX7_ok nmX7 (by decide) q_1_51 rfl rfl rfl rfl dX7_init_6 (fun H locs J => ?_)
  refine lv_aload_n hx hb dX7_init_9 rfl (lv_at hl 0 rfl) ?_
  refine lv_iconst (v := nI 0) hx hb dX7_init_10 (by decide) ?_
  obtain ⟨h2, hv, hM⟩ := e_bs hM
  refine e_putv (C := RX7) (T := TX7) (N := 6) E J hv rfl rfl inX7 tyX7 tyX7_ok nmX7 (by decide) q_1_53 rfl rfl rfl rfl dX7_init_11 (fun H locs J => ?_)
  refine lv_aload_n hx hb dX7_init_14 rfl (lv_at hl 0 rfl) ?_
  refine lv_iconst (v := nI 1) hx hb dX7_init_15 (by decide) ?_
  obtain ⟨h3, hv, hM⟩ := e_bs hM
  refine e_putv (C := RX7) (T := TX7) (N := 6) E J hv rfl rfl inX7 tyX7 tyX7_ok nmX7 (by decide) q_1_55 rfl rfl rfl rfl dX7_init_16 (fun H locs J => ?_)
  refine lv_aload_n hx hb dX7_init_19 rfl (lv_at hl 0 rfl) ?_
  refine lv_bipush (v := nI 6) hx hb dX7_init_20 (by decide) ?_
  obtain ⟨p4, hv, hM⟩ := e_bs hM
  refine e_newQ (top := 6) (C := RX0) E J hv rfl (by decide) (by decide +kernel) q_1_33 (Nat.le_of_ble_eq_true rfl) (e_rcc (by omega)) (e_rcs (by omega)) dX7_init_22 (fun H J => ?_)
  obtain ⟨h5, hv, hM⟩ := e_bs hM
  refine e_putF (C := RX7) (T := TX7) (N := 6) E J hv rfl rfl inX7 tyX7 tyX7_ok nmX7 (by decide) q_1_57 rfl hin0 rfl rfl rfl rfl dX7_init_25 (fun H locs J => ?_)
  refine lv_aload_n hx hb dX7_init_28 rfl (lv_at hl 0 rfl) ?_
  refine lv_bipush (v := nI 14) hx hb dX7_init_29 (by decide) ?_
  obtain ⟨p6, hv, hM⟩ := e_bs hM
  refine e_newQ (top := 14) (C := RX1) E J hv rfl (by decide) (by decide +kernel) q_1_35 (Nat.le_of_ble_eq_true rfl) (e_rcc (by omega)) (e_rcs (by omega)) dX7_init_31 (fun H J => ?_)
  obtain ⟨h7, hv, hM⟩ := e_bs hM
  refine e_putF (C := RX7) (T := TX7) (N := 6) E J hv rfl rfl inX7 tyX7 tyX7_ok nmX7 (by decide) q_1_58 rfl hin0 rfl rfl rfl rfl dX7_init_34 (fun H locs J => ?_)
  refine lv_aload_n hx hb dX7_init_37 rfl (lv_at hl 0 rfl) ?_
  refine lv_bipush (v := nI 96) hx hb dX7_init_38 (by decide) ?_
  obtain ⟨p8, hv, hM⟩ := e_bs hM
  refine e_newA (top := 96) (atype := .int) (ty := .int) E J hv rfl rfl (fun _ => rfl) (fun _ => ⟨_, rfl⟩) (fun h => h) q_1_50 (Nat.le_of_ble_eq_true rfl) (e_rcc (by omega)) (e_rcs (by omega)) dX7_init_40 (fun H J => ?_)
  obtain ⟨h9, hv, hM⟩ := e_bs hM
  refine e_putF (C := RX7) (T := TX7) (N := 6) E J hv rfl rfl inX7 tyX7 tyX7_ok nmX7 (by decide) q_1_59 rfl hin0 rfl rfl rfl rfl dX7_init_42 (fun H locs J => ?_)
  refine lv_iconst (v := nI 0) hx hb dX7_init_45 (by decide) ?_
  refine lv_istore_n (lv' := [(1, .int (nI 0)), (0, .ref (e_ad G l0))]) hx hb dX7_init_46 rfl hl (by decide) rfl (fun ls hl => ?_)
  exact mX7_init_L47 E hin0 10 l0 (nI 0) h9 hM (by omega) (by omega) J (lv_sub hl [1, 0] rfl)
set_option maxRecDepth 100000 in
set_option maxHeartbeats 4000000 in
theorem mX3_init {l : Launch} {G : e_G} (l0 : Nat) (h : e_H) (res : e_H) (hM : fX3_init l0 h = some res) : Met l yX3_init (e_W yX3_init cX3_init 1 none) (e_rc 1 40 1 85) (e_Pc G h [.ref (e_ad G l0)]) (e_Q G res (none)) 1 85 (e_A G) := by
  refine Met.ofW (cc := cX3_init) (maxL := 1) (ret := none) (by decide) rfl ?_
  intro p e s m args below meth c s₁ B hml hv
  obtain ⟨rfl, hS, hP⟩ := hv
  have E := e_enter (own := RX3) (ret := none) B hml rfl hS hP
  have J : e_J G s h s.heap [] := ⟨hP, va_S.rf⟩
  have hin0 : meth.name = "<init>" := (name_of_methodNamed B.named B.method).1
  have hl := lv_entry ([.ref (e_ad G l0)]) (n := 1) (Nat.le_of_ble_eq_true rfl)
  rw [lg_entry_eq]
  generalize (lg_sl ([.ref (e_ad G l0)]) ++ List.replicate (1 - (lg_sl ([.ref (e_ad G l0)])).length) Slot.unset).toArray = ls at hl ⊢
  have hl : lv_has ls 1 [(0, .ref (e_ad G l0))] := hl
  obtain ⟨hx, hb, hr, hml, hown, hts, hlocks, hES, hbs⟩ := id E
  unfold fX3_init at hM
  obtain ⟨fs_, hk_, hM⟩ := e_bs hM
  refine lv_aload_n hx hb dX3_init_0 rfl (lv_at hl 0 rfl) ?_
  refine e_oinit E q_1_85 q_1_25 q_1_26 hl.1 (Nat.le_of_ble_eq_true rfl) (Nat.le_of_ble_eq_true rfl) dX3_init_1 ?_
  refine lv_aload_n hx hb dX3_init_4 rfl (lv_at hl 0 rfl) ?_
  refine lv_bipush (v := nI 85) hx hb dX3_init_5 (by decide) ?_
  obtain ⟨p1, hv, hM⟩ := e_bs hM
  refine e_newA (top := 85) (atype := .long) (ty := .long) E J hv rfl rfl (fun _ => rfl) (fun _ => ⟨_, rfl⟩) (fun h => h) q_1_90 (Nat.le_of_ble_eq_true rfl) (e_rcc (by omega)) (e_rcs (by omega)) dX3_init_7 (fun H J => ?_)
  obtain ⟨h2, hv, hM⟩ := e_bs hM
  refine e_putF (C := RX3) (T := TX3) (N := 1) E J hv rfl rfl inX3 tyX3 tyX3_ok nmX3 (by decide) q_1_86 rfl hin0 rfl rfl rfl rfl dX3_init_9 (fun H locs J => ?_)
  obtain rfl := e_so hM
  refine W.widen (k := 1) (n := 85) (by omega) (by omega) ?_
  exact e_vret E J dX3_init_12
set_option maxRecDepth 100000 in
set_option maxHeartbeats 4000000 in
theorem mX6_init_b65 {p : Program} {l : Launch} {e : Env} {s : State} {m : MethodId} {args : Array Value} {below : List Frame} {meth : Method} {c : Code} {G : e_G} {res : e_H} {k65 : Nat → Int32 → e_H → Option e_H} (E : e_M G p s args m meth c cX6_init 3 none RX6) (hin0 : meth.name = "<init>") {n9 : Nat} (K65 : ∀ (l0 : Nat) (l2 : Int32) (h : e_H), k65 l0 l2 h = some res → ∀ (cells slots : Nat), cells + (n9 * 2 + 0) ≤ 25 → slots + (n9 * 86 + 0) ≤ 1125 → ∀ (H : Heap) (locs : List Loc), e_J G s h H locs → ∀ (ls : Array Slot), lv_has ls 3 [(0, .ref (e_ad G l0)), (2, .int l2)] → W p l e (e_rc 2 60 25 1125) s m args below meth c H locs cells slots (MQ below (e_Q G res (none)) args s 25 1125 (e_A G)) (F0 m 65 ls [])) (l0 : Nat) (l2 : Int32) (h : e_H) (hM : fX6_init_b65 k65 l0 l2 h = some res) {cells slots : Nat} (hb1 : cells + 0 ≤ 25) (hb2 : slots + 0 ≤ 1125) (hb3 : cells + 2 + (n9 * 2 + 0) ≤ 25) (hb4 : slots + 86 + (n9 * 86 + 0) ≤ 1125) {H : Heap} {locs : List Loc} (J : e_J G s h H locs) {ls : Array Slot} (hl : lv_has ls 3 [(0, .ref (e_ad G l0)), (2, .int l2)]) : W p l e (e_rc 2 60 25 1125) s m args below meth c H locs cells slots (MQ below (e_Q G res (none)) args s 25 1125 (e_A G)) (F0 m 65 ls []) := by
  obtain ⟨hx, hb, hr, hml, hown, hts, hlocks, hES, hbs⟩ := id E
  unfold fX6_init_b65 at hM
  refine lv_iload_n hx hb dX6_init_65 rfl (lv_at hl 1 rfl) ?_
  refine lv_aload_n hx hb dX6_init_66 rfl (lv_at hl 0 rfl) ?_
  obtain ⟨v1, hv, hM⟩ := e_bs hM
  refine e_getR (C := RX6) (T := TX6) (N := 9) E J hv rfl inX6 (by decide) q_1_101 dX6_init_67 ?_
  rcases v1 with _ | a2
  · have hM := e_on0 hM
    refine W.eq (g2 := F0 m 70 ls [.null, .int l2]) rfl ?_
    exact e_no hM
  · have hM := e_on1 hM
    refine W.eq (g2 := F0 m 70 ls [.ref (e_ad G a2), .int l2]) rfl ?_
    obtain ⟨v3, hv, hM⟩ := e_bs hM
    refine e_alen E J hv rfl rfl dX6_init_70 ?_
    refine lv_icmp_ge (tgt := 93) hx hb dX6_init_71 (by decide) (fun hc => ?_) (fun hc => ?_)
    · have hM := e_ip hc hM
      obtain rfl := e_so hM
      refine W.widen (k := 25) (n := 1125) (by omega) (by omega) ?_
      exact e_vret E J dX6_init_93
    · have hM := e_in hc hM
      refine lv_aload_n hx hb dX6_init_74 rfl (lv_at hl 0 rfl) ?_
      obtain ⟨v4, hv, hM⟩ := e_bs hM
      refine e_getR (C := RX6) (T := TX6) (N := 9) E J hv rfl inX6 (by decide) q_1_101 dX6_init_75 ?_
      rcases v4 with _ | a5
      · have hM := e_on0 hM
        refine W.eq (g2 := F0 m 78 ls [.null]) rfl ?_
        refine lv_iload_n hx hb dX6_init_78 rfl (lv_at hl 1 rfl) ?_
        obtain ⟨p6, hv, hM⟩ := e_bs hM
        refine e_new (C := RX3) (T := TX3) (N := 1) E J hv rfl inX3 tyX3 tyX3_ok q_1_79 q_1_81 q_1_5 rfl (by decide +kernel) (e_rcc (by omega)) (e_rcs (by omega)) dX6_init_79 (fun H J => ?_)
        refine lv_dup hx hb dX6_init_82 rfl ?_
        obtain ⟨h7, hv, hM⟩ := e_bs hM
        refine e_callIN (As := []) (rest := [.ref (e_ad G p6.1), .int l2, .null]) (n := 0) (host := RX8) E J (mX3_init (l := l) (G := G) p6.1 p6.2 _ hv) (List.mem_of_getElem? (i := 8) rfl) q_1_83 q_1_5 q_1_84 rfl (by decide +kernel) rfl ⟨Nat.le_of_ble_eq_true rfl, Nat.le_of_ble_eq_true rfl⟩ (st0 := [.ref (e_ad G p6.1), .ref (e_ad G p6.1), .int l2, .null]) rfl hl.1 (Nat.le_of_ble_eq_true rfl) dX6_init_83 ⟨e_rcc (by omega), e_rcs (by omega)⟩ (fun H locs J => ?_)
        exact e_no hM
      · have hM := e_on1 hM
        refine W.eq (g2 := F0 m 78 ls [.ref (e_ad G a5)]) rfl ?_
        refine lv_iload_n hx hb dX6_init_78 rfl (lv_at hl 1 rfl) ?_
        obtain ⟨p9, hv, hM⟩ := e_bs hM
        refine e_new (C := RX3) (T := TX3) (N := 1) E J hv rfl inX3 tyX3 tyX3_ok q_1_79 q_1_81 q_1_5 rfl (by decide +kernel) (e_rcc (by omega)) (e_rcs (by omega)) dX6_init_79 (fun H J => ?_)
        refine lv_dup hx hb dX6_init_82 rfl ?_
        obtain ⟨h10, hv, hM⟩ := e_bs hM
        refine e_callIN (As := []) (rest := [.ref (e_ad G p9.1), .int l2, .ref (e_ad G a5)]) (n := 0) (host := RX8) E J (mX3_init (l := l) (G := G) p9.1 p9.2 _ hv) (List.mem_of_getElem? (i := 8) rfl) q_1_83 q_1_5 q_1_84 rfl (by decide +kernel) rfl ⟨Nat.le_of_ble_eq_true rfl, Nat.le_of_ble_eq_true rfl⟩ (st0 := [.ref (e_ad G p9.1), .ref (e_ad G p9.1), .int l2, .ref (e_ad G a5)]) rfl hl.1 (Nat.le_of_ble_eq_true rfl) dX6_init_83 ⟨e_rcc (by omega), e_rcs (by omega)⟩ (fun H locs J => ?_)
        obtain ⟨h11, hv, hM⟩ := e_bs hM
        refine e_aastQ E J hv rfl rfl dX6_init_86 (fun H locs J => ?_)
        refine lv_iinc (v := (l2 + (nI 1))) (lv' := [(2, .int (l2 + (nI 1))), (0, .ref (e_ad G l0))]) hx hb dX6_init_87 hl (k := 1) rfl rfl (by decide) rfl (fun ls hl => ?_)
        refine lv_goto (tgt := 65) hx hb dX6_init_90 (by decide) ?_
        exact K65 l0 (l2 + (nI 1)) h11 hM _ _ (by omega) (by omega) _ _ J _ (lv_sub hl [1, 0] rfl)
set_option maxRecDepth 100000 in
set_option maxHeartbeats 4000000 in
theorem mX6_init_L65 {p : Program} {l : Launch} {e : Env} {s : State} {m : MethodId} {args : Array Value} {below : List Frame} {meth : Method} {c : Code} {G : e_G} {res : e_H} (E : e_M G p s args m meth c cX6_init 3 none RX6) (hin0 : meth.name = "<init>") (n : Nat) (l0 : Nat) (l2 : Int32) (h : e_H) (hM : fX6_init_L65 n l0 l2 h = some res) {cells slots : Nat} (hb1 : cells + (n * 2 + 0) ≤ 25) (hb2 : slots + (n * 86 + 0) ≤ 1125) {H : Heap} {locs : List Loc} (J : e_J G s h H locs) {ls : Array Slot} (hl : lv_has ls 3 [(0, .ref (e_ad G l0)), (2, .int l2)]) : W p l e (e_rc 2 60 25 1125) s m args below meth c H locs cells slots (MQ below (e_Q G res (none)) args s 25 1125 (e_A G)) (F0 m 65 ls []) := by
  induction n generalizing l0 l2 h H locs ls cells slots with
  | zero => exact e_no hM
  | succ n ih => exact mX6_init_b65 (k65 := (fX6_init_L65 n)) E hin0 (n9 := n)   (fun l0 l2 h hM cells slots hc1 hc2 H locs J ls hl => ih l0 l2 h hM hc1 hc2 J hl) l0 l2 h hM (by omega) (by omega) (by omega) (by omega) J hl
set_option maxRecDepth 100000 in
set_option maxHeartbeats 4000000 in
theorem mX6_init {l : Launch} {G : e_G} (l0 : Nat) (l1 : Nat) (h : e_H) (res : e_H) (hM : fX6_init l0 l1 h = some res) : Met l yX6_init (e_W yX6_init cX6_init 3 none) (e_rc 2 60 25 1125) (e_Pc G h [.ref (e_ad G l0), .ref (e_ad G l1)]) (e_Q G res (none)) 25 1125 (e_A G) := by
  refine Met.ofW (cc := cX6_init) (maxL := 3) (ret := none) (by decide) rfl ?_
  intro p e s m args below meth c s₁ B hml hv
  obtain ⟨rfl, hS, hP⟩ := hv
  have E := e_enter (own := RX6) (ret := none) B hml rfl hS hP
  have J : e_J G s h s.heap [] := ⟨hP, va_S.rf⟩
  have hin0 : meth.name = "<init>" := (name_of_methodNamed B.named B.method).1
  have hl := lv_entry ([.ref (e_ad G l0), .ref (e_ad G l1)]) (n := 3) (Nat.le_of_ble_eq_true rfl)
  rw [lg_entry_eq]
  generalize (lg_sl ([.ref (e_ad G l0), .ref (e_ad G l1)]) ++ List.replicate (3 - (lg_sl ([.ref (e_ad G l0), .ref (e_ad G l1)])).length) Slot.unset).toArray = ls at hl ⊢
  have hl : lv_has ls 3 [(0, .ref (e_ad G l0)), (1, .ref (e_ad G l1))] := hl
  obtain ⟨hx, hb, hr, hml, hown, hts, hlocks, hES, hbs⟩ := id E
  unfold fX6_init at hM
  obtain ⟨fs_, hk_, hM⟩ := e_bs hM
  refine lv_aload_n hx hb dX6_init_0 rfl (lv_at hl 0 rfl) ?_
  refine e_oinit E q_1_78 q_1_25 q_1_26 hl.1 (Nat.le_of_ble_eq_true rfl) (Nat.le_of_ble_eq_true rfl) dX6_init_1 ?_
  refine lv_aload_n hx hb dX6_init_4 rfl (lv_at hl 0 rfl) ?_
  refine lv_iconst (v := nI 0) hx hb dX6_init_5 (by decide) ?_
  obtain ⟨h1, hv, hM⟩ := e_bs hM
  refine e_putv (C := RX6) (T := TX6) (N := 9) E J hv rfl rfl inX6 tyX6 tyX6_ok nmX6 (by decide) q_1_91 rfl rfl rfl rfl dX6_init_6 (fun H locs J => ?_)
  refine lv_aload_n hx hb dX6_init_9 rfl (lv_at hl 0 rfl) ?_
  refine lv_iconst (v := nI 0) hx hb dX6_init_10 (by decide) ?_
  obtain ⟨h2, hv, hM⟩ := e_bs hM
  refine e_putv (C := RX6) (T := TX6) (N := 9) E J hv rfl rfl inX6 tyX6 tyX6_ok nmX6 (by decide) q_1_93 rfl rfl rfl rfl dX6_init_11 (fun H locs J => ?_)
  refine lv_aload_n hx hb dX6_init_14 rfl (lv_at hl 0 rfl) ?_
  refine lv_iconst (v := nI 0) hx hb dX6_init_15 (by decide) ?_
  obtain ⟨h3, hv, hM⟩ := e_bs hM
  refine e_putv (C := RX6) (T := TX6) (N := 9) E J hv rfl rfl inX6 tyX6 tyX6_ok nmX6 (by decide) q_1_95 rfl rfl rfl rfl dX6_init_16 (fun H locs J => ?_)
  refine lv_aload_n hx hb dX6_init_19 rfl (lv_at hl 0 rfl) ?_
  refine lv_bipush (v := nI 15) hx hb dX6_init_20 (by decide) ?_
  obtain ⟨p4, hv, hM⟩ := e_bs hM
  refine e_newA (top := 15) (atype := .int) (ty := .int) E J hv rfl rfl (fun _ => rfl) (fun _ => ⟨_, rfl⟩) (fun h => h) q_1_50 (Nat.le_of_ble_eq_true rfl) (e_rcc (by omega)) (e_rcs (by omega)) dX6_init_22 (fun H J => ?_)
  obtain ⟨h5, hv, hM⟩ := e_bs hM
  refine e_putF (C := RX6) (T := TX6) (N := 9) E J hv rfl rfl inX6 tyX6 tyX6_ok nmX6 (by decide) q_1_98 rfl hin0 rfl rfl rfl rfl dX6_init_24 (fun H locs J => ?_)
  refine lv_aload_n hx hb dX6_init_27 rfl (lv_at hl 0 rfl) ?_
  refine lv_bipush (v := nI 121) hx hb dX6_init_28 (by decide) ?_
  obtain ⟨p6, hv, hM⟩ := e_bs hM
  refine e_newA (top := 121) (atype := .int) (ty := .int) E J hv rfl rfl (fun _ => rfl) (fun _ => ⟨_, rfl⟩) (fun h => h) q_1_50 (Nat.le_of_ble_eq_true rfl) (e_rcc (by omega)) (e_rcs (by omega)) dX6_init_30 (fun H J => ?_)
  obtain ⟨h7, hv, hM⟩ := e_bs hM
  refine e_putF (C := RX6) (T := TX6) (N := 9) E J hv rfl rfl inX6 tyX6 tyX6_ok nmX6 (by decide) q_1_99 rfl hin0 rfl rfl rfl rfl dX6_init_32 (fun H locs J => ?_)
  refine lv_aload_n hx hb dX6_init_35 rfl (lv_at hl 0 rfl) ?_
  refine lv_bipush (v := nI 121) hx hb dX6_init_36 (by decide) ?_
  obtain ⟨p8, hv, hM⟩ := e_bs hM
  refine e_newA (top := 121) (atype := .int) (ty := .int) E J hv rfl rfl (fun _ => rfl) (fun _ => ⟨_, rfl⟩) (fun h => h) q_1_50 (Nat.le_of_ble_eq_true rfl) (e_rcc (by omega)) (e_rcs (by omega)) dX6_init_38 (fun H J => ?_)
  obtain ⟨h9, hv, hM⟩ := e_bs hM
  refine e_putF (C := RX6) (T := TX6) (N := 9) E J hv rfl rfl inX6 tyX6 tyX6_ok nmX6 (by decide) q_1_100 rfl hin0 rfl rfl rfl rfl dX6_init_40 (fun H locs J => ?_)
  refine lv_aload_n hx hb dX6_init_43 rfl (lv_at hl 0 rfl) ?_
  refine lv_iconst (v := nI 3) hx hb dX6_init_44 (by decide) ?_
  obtain ⟨p10, hv, hM⟩ := e_bs hM
  refine e_newQ (top := 3) (C := RX3) E J hv rfl (by decide) (by decide +kernel) q_1_79 (Nat.le_of_ble_eq_true rfl) (e_rcc (by omega)) (e_rcs (by omega)) dX6_init_45 (fun H J => ?_)
  obtain ⟨h11, hv, hM⟩ := e_bs hM
  refine e_putF (C := RX6) (T := TX6) (N := 9) E J hv rfl rfl inX6 tyX6 tyX6_ok nmX6 (by decide) q_1_101 rfl hin0 rfl rfl rfl rfl dX6_init_48 (fun H locs J => ?_)
  refine lv_aload_n hx hb dX6_init_51 rfl (lv_at hl 0 rfl) ?_
  refine lv_iconst (v := nI 5) hx hb dX6_init_52 (by decide) ?_
  obtain ⟨p12, hv, hM⟩ := e_bs hM
  refine e_newA (top := 5) (atype := .long) (ty := .long) E J hv rfl rfl (fun _ => rfl) (fun _ => ⟨_, rfl⟩) (fun h => h) q_1_90 (Nat.le_of_ble_eq_true rfl) (e_rcc (by omega)) (e_rcs (by omega)) dX6_init_53 (fun H J => ?_)
  obtain ⟨h13, hv, hM⟩ := e_bs hM
  refine e_putF (C := RX6) (T := TX6) (N := 9) E J hv rfl rfl inX6 tyX6 tyX6_ok nmX6 (by decide) q_1_102 rfl hin0 rfl rfl rfl rfl dX6_init_55 (fun H locs J => ?_)
  refine lv_aload_n hx hb dX6_init_58 rfl (lv_at hl 0 rfl) ?_
  refine lv_aload_n hx hb dX6_init_59 rfl (lv_at hl 1 rfl) ?_
  obtain ⟨h14, hv, hM⟩ := e_bs hM
  refine e_putF (C := RX6) (T := TX6) (N := 9) E J hv rfl rfl inX6 tyX6 tyX6_ok nmX6 (by decide) q_1_97 rfl hin0 rfl rfl rfl rfl dX6_init_60 (fun H locs J => ?_)
  refine lv_iconst (v := nI 0) hx hb dX6_init_63 (by decide) ?_
  refine lv_istore_n (lv' := [(2, .int (nI 0)), (0, .ref (e_ad G l0)), (1, .ref (e_ad G l1))]) hx hb dX6_init_64 rfl hl (by decide) rfl (fun ls hl => ?_)
  exact mX6_init_L65 E hin0 10 l0 (nI 0) h14 hM (by omega) (by omega) J (lv_sub hl [1, 0] rfl)
set_option maxRecDepth 100000 in
set_option maxHeartbeats 4000000 in
theorem mX5_init {l : Launch} {G : e_G} (l0 : Nat) (h : e_H) (res : e_H) (hM : fX5_init l0 h = some res) : Met l yX5_init (e_W yX5_init cX5_init 1 none) (e_rc 1 40 2 192) (e_Pc G h [.ref (e_ad G l0)]) (e_Q G res (none)) 2 192 (e_A G) := by
  refine Met.ofW (cc := cX5_init) (maxL := 1) (ret := none) (by decide) rfl ?_
  intro p e s m args below meth c s₁ B hml hv
  obtain ⟨rfl, hS, hP⟩ := hv
  have E := e_enter (own := RX5) (ret := none) B hml rfl hS hP
  have J : e_J G s h s.heap [] := ⟨hP, va_S.rf⟩
  have hin0 : meth.name = "<init>" := (name_of_methodNamed B.named B.method).1
  have hl := lv_entry ([.ref (e_ad G l0)]) (n := 1) (Nat.le_of_ble_eq_true rfl)
  rw [lg_entry_eq]
  generalize (lg_sl ([.ref (e_ad G l0)]) ++ List.replicate (1 - (lg_sl ([.ref (e_ad G l0)])).length) Slot.unset).toArray = ls at hl ⊢
  have hl : lv_has ls 1 [(0, .ref (e_ad G l0))] := hl
  obtain ⟨hx, hb, hr, hml, hown, hts, hlocks, hES, hbs⟩ := id E
  unfold fX5_init at hM
  obtain ⟨fs_, hk_, hM⟩ := e_bs hM
  refine lv_aload_n hx hb dX5_init_0 rfl (lv_at hl 0 rfl) ?_
  refine e_oinit E q_1_127 q_1_25 q_1_26 hl.1 (Nat.le_of_ble_eq_true rfl) (Nat.le_of_ble_eq_true rfl) dX5_init_1 ?_
  refine lv_aload_n hx hb dX5_init_4 rfl (lv_at hl 0 rfl) ?_
  refine lv_iconst (v := nI 0) hx hb dX5_init_5 (by decide) ?_
  obtain ⟨h1, hv, hM⟩ := e_bs hM
  refine e_putv (C := RX5) (T := TX5) (N := 7) E J hv rfl rfl inX5 tyX5 tyX5_ok nmX5 (by decide) q_1_128 rfl rfl rfl rfl dX5_init_6 (fun H locs J => ?_)
  refine lv_aload_n hx hb dX5_init_9 rfl (lv_at hl 0 rfl) ?_
  refine lv_bipush (v := nI 96) hx hb dX5_init_10 (by decide) ?_
  obtain ⟨p2, hv, hM⟩ := e_bs hM
  refine e_newA (top := 96) (atype := .int) (ty := .int) E J hv rfl rfl (fun _ => rfl) (fun _ => ⟨_, rfl⟩) (fun h => h) q_1_50 (Nat.le_of_ble_eq_true rfl) (e_rcc (by omega)) (e_rcs (by omega)) dX5_init_12 (fun H J => ?_)
  obtain ⟨h3, hv, hM⟩ := e_bs hM
  refine e_putF (C := RX5) (T := TX5) (N := 7) E J hv rfl rfl inX5 tyX5 tyX5_ok nmX5 (by decide) q_1_130 rfl hin0 rfl rfl rfl rfl dX5_init_14 (fun H locs J => ?_)
  refine lv_aload_n hx hb dX5_init_17 rfl (lv_at hl 0 rfl) ?_
  refine lv_bipush (v := nI 96) hx hb dX5_init_18 (by decide) ?_
  obtain ⟨p4, hv, hM⟩ := e_bs hM
  refine e_newA (top := 96) (atype := .int) (ty := .int) E J hv rfl rfl (fun _ => rfl) (fun _ => ⟨_, rfl⟩) (fun h => h) q_1_50 (Nat.le_of_ble_eq_true rfl) (e_rcc (by omega)) (e_rcs (by omega)) dX5_init_20 (fun H J => ?_)
  obtain ⟨h5, hv, hM⟩ := e_bs hM
  refine e_putF (C := RX5) (T := TX5) (N := 7) E J hv rfl rfl inX5 tyX5 tyX5_ok nmX5 (by decide) q_1_131 rfl hin0 rfl rfl rfl rfl dX5_init_22 (fun H locs J => ?_)
  refine lv_aload_n hx hb dX5_init_25 rfl (lv_at hl 0 rfl) ?_
  refine lv_iconst (v := nI 0) hx hb dX5_init_26 (by decide) ?_
  obtain ⟨h6, hv, hM⟩ := e_bs hM
  refine e_putv (C := RX5) (T := TX5) (N := 7) E J hv rfl rfl inX5 tyX5 tyX5_ok nmX5 (by decide) q_1_132 rfl rfl rfl rfl dX5_init_27 (fun H locs J => ?_)
  refine lv_aload_n hx hb dX5_init_30 rfl (lv_at hl 0 rfl) ?_
  refine lv_iconst (v := nI 0) hx hb dX5_init_31 (by decide) ?_
  obtain ⟨h7, hv, hM⟩ := e_bs hM
  refine e_putv (C := RX5) (T := TX5) (N := 7) E J hv rfl rfl inX5 tyX5 tyX5_ok nmX5 (by decide) q_1_133 rfl rfl rfl rfl dX5_init_32 (fun H locs J => ?_)
  refine lv_aload_n hx hb dX5_init_35 rfl (lv_at hl 0 rfl) ?_
  refine lv_iconst (v := -1) hx hb dX5_init_36 (by decide) ?_
  obtain ⟨h8, hv, hM⟩ := e_bs hM
  refine e_putv (C := RX5) (T := TX5) (N := 7) E J hv rfl rfl inX5 tyX5 tyX5_ok nmX5 (by decide) q_1_134 rfl rfl rfl rfl dX5_init_37 (fun H locs J => ?_)
  refine lv_aload_n hx hb dX5_init_40 rfl (lv_at hl 0 rfl) ?_
  refine lv_iconst (v := nI 0) hx hb dX5_init_41 (by decide) ?_
  obtain ⟨h9, hv, hM⟩ := e_bs hM
  refine e_putv (C := RX5) (T := TX5) (N := 7) E J hv rfl rfl inX5 tyX5 tyX5_ok nmX5 (by decide) q_1_135 rfl rfl rfl rfl dX5_init_42 (fun H locs J => ?_)
  obtain rfl := e_so hM
  refine W.widen (k := 2) (n := 192) (by omega) (by omega) ?_
  exact e_vret E J dX5_init_45
set_option maxRecDepth 100000 in
set_option maxHeartbeats 4000000 in
theorem mX2_init {l : Launch} {G : e_G} (l0 : Nat) (h : e_H) (res : e_H) (hM : fX2_init l0 h = some res) : Met l yX2_init (e_W yX2_init cX2_init 1 none) (e_rc 1 40 1 24) (e_Pc G h [.ref (e_ad G l0)]) (e_Q G res (none)) 1 24 (e_A G) := by
  refine Met.ofW (cc := cX2_init) (maxL := 1) (ret := none) (by decide) rfl ?_
  intro p e s m args below meth c s₁ B hml hv
  obtain ⟨rfl, hS, hP⟩ := hv
  have E := e_enter (own := RX2) (ret := none) B hml rfl hS hP
  have J : e_J G s h s.heap [] := ⟨hP, va_S.rf⟩
  have hin0 : meth.name = "<init>" := (name_of_methodNamed B.named B.method).1
  have hl := lv_entry ([.ref (e_ad G l0)]) (n := 1) (Nat.le_of_ble_eq_true rfl)
  rw [lg_entry_eq]
  generalize (lg_sl ([.ref (e_ad G l0)]) ++ List.replicate (1 - (lg_sl ([.ref (e_ad G l0)])).length) Slot.unset).toArray = ls at hl ⊢
  have hl : lv_has ls 1 [(0, .ref (e_ad G l0))] := hl
  obtain ⟨hx, hb, hr, hml, hown, hts, hlocks, hES, hbs⟩ := id E
  unfold fX2_init at hM
  obtain ⟨fs_, hk_, hM⟩ := e_bs hM
  refine lv_aload_n hx hb dX2_init_0 rfl (lv_at hl 0 rfl) ?_
  refine e_oinit E q_1_159 q_1_25 q_1_26 hl.1 (Nat.le_of_ble_eq_true rfl) (Nat.le_of_ble_eq_true rfl) dX2_init_1 ?_
  refine lv_aload_n hx hb dX2_init_4 rfl (lv_at hl 0 rfl) ?_
  refine lv_iconst (v := -1) hx hb dX2_init_5 (by decide) ?_
  obtain ⟨h1, hv, hM⟩ := e_bs hM
  refine e_putv (C := RX2) (T := TX2) (N := 3) E J hv rfl rfl inX2 tyX2 tyX2_ok nmX2 (by decide) q_1_160 rfl rfl rfl rfl dX2_init_6 (fun H locs J => ?_)
  refine lv_aload_n hx hb dX2_init_9 rfl (lv_at hl 0 rfl) ?_
  refine lv_iconst (v := nI 0) hx hb dX2_init_10 (by decide) ?_
  obtain ⟨h2, hv, hM⟩ := e_bs hM
  refine e_putv (C := RX2) (T := TX2) (N := 3) E J hv rfl rfl inX2 tyX2 tyX2_ok nmX2 (by decide) q_1_162 rfl rfl rfl rfl dX2_init_11 (fun H locs J => ?_)
  refine lv_aload_n hx hb dX2_init_14 rfl (lv_at hl 0 rfl) ?_
  refine lv_bipush (v := nI 24) hx hb dX2_init_15 (by decide) ?_
  obtain ⟨p3, hv, hM⟩ := e_bs hM
  refine e_newA (top := 24) (atype := .int) (ty := .int) E J hv rfl rfl (fun _ => rfl) (fun _ => ⟨_, rfl⟩) (fun h => h) q_1_50 (Nat.le_of_ble_eq_true rfl) (e_rcc (by omega)) (e_rcs (by omega)) dX2_init_17 (fun H J => ?_)
  obtain ⟨h4, hv, hM⟩ := e_bs hM
  refine e_putF (C := RX2) (T := TX2) (N := 3) E J hv rfl rfl inX2 tyX2 tyX2_ok nmX2 (by decide) q_1_164 rfl hin0 rfl rfl rfl rfl dX2_init_19 (fun H locs J => ?_)
  obtain rfl := e_so hM
  refine W.widen (k := 1) (n := 24) (by omega) (by omega) ?_
  exact e_vret E J dX2_init_22
set_option maxRecDepth 100000 in
set_option maxHeartbeats 4000000 in
theorem mX4_init {l : Launch} {G : e_G} (l0 : Nat) (h : e_H) (res : e_H) (hM : fX4_init l0 h = some res) : Met l yX4_init (e_W yX4_init cX4_init 1 none) (e_rc 2 60 4 44) (e_Pc G h [.ref (e_ad G l0)]) (e_Q G res (none)) 4 44 (e_A G) := by
  refine Met.ofW (cc := cX4_init) (maxL := 1) (ret := none) (by decide) rfl ?_
  intro p e s m args below meth c s₁ B hml hv
  obtain ⟨rfl, hS, hP⟩ := hv
  have E := e_enter (own := RX4) (ret := none) B hml rfl hS hP
  have J : e_J G s h s.heap [] := ⟨hP, va_S.rf⟩
  have hin0 : meth.name = "<init>" := (name_of_methodNamed B.named B.method).1
  have hl := lv_entry ([.ref (e_ad G l0)]) (n := 1) (Nat.le_of_ble_eq_true rfl)
  rw [lg_entry_eq]
  generalize (lg_sl ([.ref (e_ad G l0)]) ++ List.replicate (1 - (lg_sl ([.ref (e_ad G l0)])).length) Slot.unset).toArray = ls at hl ⊢
  have hl : lv_has ls 1 [(0, .ref (e_ad G l0))] := hl
  obtain ⟨hx, hb, hr, hml, hown, hts, hlocks, hES, hbs⟩ := id E
  unfold fX4_init at hM
  obtain ⟨fs_, hk_, hM⟩ := e_bs hM
  refine lv_aload_n hx hb dX4_init_0 rfl (lv_at hl 0 rfl) ?_
  refine e_oinit E q_1_177 q_1_25 q_1_26 hl.1 (Nat.le_of_ble_eq_true rfl) (Nat.le_of_ble_eq_true rfl) dX4_init_1 ?_
  refine lv_aload_n hx hb dX4_init_4 rfl (lv_at hl 0 rfl) ?_
  refine lv_iconst (v := nI 0) hx hb dX4_init_5 (by decide) ?_
  obtain ⟨h1, hv, hM⟩ := e_bs hM
  refine e_putv (C := RX4) (T := TX4) (N := 4) E J hv rfl rfl inX4 tyX4 tyX4_ok nmX4 (by decide) q_1_182 rfl rfl rfl rfl dX4_init_6 (fun H locs J => ?_)
  refine lv_aload_n hx hb dX4_init_9 rfl (lv_at hl 0 rfl) ?_
  refine lv_iconst (v := nI 0) hx hb dX4_init_10 (by decide) ?_
  obtain ⟨h2, hv, hM⟩ := e_bs hM
  refine e_putv (C := RX4) (T := TX4) (N := 4) E J hv rfl rfl inX4 tyX4 tyX4_ok nmX4 (by decide) q_1_184 rfl rfl rfl rfl dX4_init_11 (fun H locs J => ?_)
  refine lv_aload_n hx hb dX4_init_14 rfl (lv_at hl 0 rfl) ?_
  obtain ⟨p3, hv, hM⟩ := e_bs hM
  refine e_new (C := RX0) (T := TX0) (N := 2) E J hv rfl inX0 tyX0 tyX0_ok q_1_178 q_1_37 q_1_3 rfl (by decide +kernel) (e_rcc (by omega)) (e_rcs (by omega)) dX4_init_15 (fun H J => ?_)
  refine lv_dup hx hb dX4_init_18 rfl ?_
  obtain ⟨h4, hv, hM⟩ := e_bs hM
  refine e_callIN (As := []) (rest := [.ref (e_ad G p3.1), .ref (e_ad G l0)]) (n := 0) (host := RX8) E J (mX0_init (l := l) (G := G) p3.1 p3.2 _ hv) (List.mem_of_getElem? (i := 5) rfl) q_1_39 q_1_3 q_1_40 rfl (by decide +kernel) rfl ⟨Nat.le_of_ble_eq_true rfl, Nat.le_of_ble_eq_true rfl⟩ (st0 := [.ref (e_ad G p3.1), .ref (e_ad G p3.1), .ref (e_ad G l0)]) rfl hl.1 (Nat.le_of_ble_eq_true rfl) dX4_init_19 ⟨e_rcc (by omega), e_rcs (by omega)⟩ (fun H locs J => ?_)
  obtain ⟨h5, hv, hM⟩ := e_bs hM
  refine e_putF (C := RX4) (T := TX4) (N := 4) E J hv rfl rfl inX4 tyX4 tyX4_ok nmX4 (by decide) q_1_186 rfl hin0 rfl rfl rfl rfl dX4_init_22 (fun H locs J => ?_)
  refine lv_aload_n hx hb dX4_init_25 rfl (lv_at hl 0 rfl) ?_
  obtain ⟨p6, hv, hM⟩ := e_bs hM
  refine e_new (C := RX2) (T := TX2) (N := 3) E J hv rfl inX2 tyX2 tyX2_ok q_1_180 q_1_155 q_1_7 rfl (by decide +kernel) (e_rcc (by omega)) (e_rcs (by omega)) dX4_init_26 (fun H J => ?_)
  refine lv_dup hx hb dX4_init_29 rfl ?_
  obtain ⟨h7, hv, hM⟩ := e_bs hM
  refine e_callIN (As := []) (rest := [.ref (e_ad G p6.1), .ref (e_ad G l0)]) (n := 0) (host := RX8) E J (mX2_init (l := l) (G := G) p6.1 p6.2 _ hv) (List.mem_of_getElem? (i := 6) rfl) q_1_157 q_1_7 q_1_158 rfl (by decide +kernel) rfl ⟨Nat.le_of_ble_eq_true rfl, Nat.le_of_ble_eq_true rfl⟩ (st0 := [.ref (e_ad G p6.1), .ref (e_ad G p6.1), .ref (e_ad G l0)]) rfl hl.1 (Nat.le_of_ble_eq_true rfl) dX4_init_30 ⟨e_rcc (by omega), e_rcs (by omega)⟩ (fun H locs J => ?_)
  obtain ⟨h8, hv, hM⟩ := e_bs hM
  refine e_putF (C := RX4) (T := TX4) (N := 4) E J hv rfl rfl inX4 tyX4 tyX4_ok nmX4 (by decide) q_1_188 rfl hin0 rfl rfl rfl rfl dX4_init_33 (fun H locs J => ?_)
  obtain rfl := e_so hM
  refine W.widen (k := 4) (n := 44) (by omega) (by omega) ?_
  exact e_vret E J dX4_init_36
set_option maxRecDepth 100000 in
set_option maxHeartbeats 4000000 in
theorem mX8_init_b133 {p : Program} {l : Launch} {e : Env} {s : State} {m : MethodId} {args : Array Value} {below : List Frame} {meth : Method} {c : Code} {G : e_G} {res : e_H} {k133 : Nat → Int32 → e_H → Option e_H} (E : e_M G p s args m meth c cX8_init 2 none RX8) (hin0 : meth.name = "<init>") {n9 : Nat} (K133 : ∀ (l0 : Nat) (l1 : Int32) (h : e_H), k133 l0 l1 h = some res → ∀ (cells slots : Nat), cells + (n9 * 5 + 0) ≤ 176 → slots + (n9 * 48 + 0) ≤ 3870 → ∀ (H : Heap) (locs : List Loc), e_J G s h H locs → ∀ (ls : Array Slot), lv_has ls 2 [(0, .ref (e_ad G l0)), (1, .int l1)] → W p l e (e_rc 3 82 176 3870) s m args below meth c H locs cells slots (MQ below (e_Q G res (none)) args s 176 3870 (e_A G)) (F0 m 133 ls [])) (l0 : Nat) (l1 : Int32) (h : e_H) (hM : fX8_init_b133 k133 l0 l1 h = some res) {cells slots : Nat} (hb1 : cells + 0 ≤ 176) (hb2 : slots + 0 ≤ 3870) (hb3 : cells + 5 + (n9 * 5 + 0) ≤ 176) (hb4 : slots + 48 + (n9 * 48 + 0) ≤ 3870) {H : Heap} {locs : List Loc} (J : e_J G s h H locs) {ls : Array Slot} (hl : lv_has ls 2 [(0, .ref (e_ad G l0)), (1, .int l1)]) : W p l e (e_rc 3 82 176 3870) s m args below meth c H locs cells slots (MQ below (e_Q G res (none)) args s 176 3870 (e_A G)) (F0 m 133 ls []) := by
  obtain ⟨hx, hb, hr, hml, hown, hts, hlocks, hES, hbs⟩ := id E
  unfold fX8_init_b133 at hM
  refine lv_iload_n hx hb dX8_init_133 rfl (lv_at hl 1 rfl) ?_
  refine lv_aload_n hx hb dX8_init_134 rfl (lv_at hl 0 rfl) ?_
  obtain ⟨v1, hv, hM⟩ := e_bs hM
  refine e_getR (C := RX8) (T := TX8) (N := 10) E J hv rfl inX8 (by decide) q_1_205 dX8_init_135 ?_
  rcases v1 with _ | a2
  · have hM := e_on0 hM
    refine W.eq (g2 := F0 m 138 ls [.null, .int l1]) rfl ?_
    exact e_no hM
  · have hM := e_on1 hM
    refine W.eq (g2 := F0 m 138 ls [.ref (e_ad G a2), .int l1]) rfl ?_
    obtain ⟨v3, hv, hM⟩ := e_bs hM
    refine e_alen E J hv rfl rfl dX8_init_138 ?_
    refine lv_icmp_ge (tgt := 161) hx hb dX8_init_139 (by decide) (fun hc => ?_) (fun hc => ?_)
    · have hM := e_ip hc hM
      obtain rfl := e_so hM
      refine W.widen (k := 176) (n := 3870) (by omega) (by omega) ?_
      exact e_vret E J dX8_init_161
    · have hM := e_in hc hM
      refine lv_aload_n hx hb dX8_init_142 rfl (lv_at hl 0 rfl) ?_
      obtain ⟨v4, hv, hM⟩ := e_bs hM
      refine e_getR (C := RX8) (T := TX8) (N := 10) E J hv rfl inX8 (by decide) q_1_205 dX8_init_143 ?_
      rcases v4 with _ | a5
      · have hM := e_on0 hM
        refine W.eq (g2 := F0 m 146 ls [.null]) rfl ?_
        refine lv_iload_n hx hb dX8_init_146 rfl (lv_at hl 1 rfl) ?_
        obtain ⟨p6, hv, hM⟩ := e_bs hM
        refine e_new (C := RX4) (T := TX4) (N := 4) E J hv rfl inX4 tyX4 tyX4_ok q_1_153 q_1_173 q_1_8 rfl (by decide +kernel) (e_rcc (by omega)) (e_rcs (by omega)) dX8_init_147 (fun H J => ?_)
        refine lv_dup hx hb dX8_init_150 rfl ?_
        obtain ⟨h7, hv, hM⟩ := e_bs hM
        refine e_callIN (As := []) (rest := [.ref (e_ad G p6.1), .int l1, .null]) (n := 0) (host := RX8) E J (mX4_init (l := l) (G := G) p6.1 p6.2 _ hv) (List.mem_of_getElem? (i := 3) rfl) q_1_175 q_1_8 q_1_176 rfl (by decide +kernel) rfl ⟨Nat.le_of_ble_eq_true rfl, Nat.le_of_ble_eq_true rfl⟩ (st0 := [.ref (e_ad G p6.1), .ref (e_ad G p6.1), .int l1, .null]) rfl hl.1 (Nat.le_of_ble_eq_true rfl) dX8_init_151 ⟨e_rcc (by omega), e_rcs (by omega)⟩ (fun H locs J => ?_)
        exact e_no hM
      · have hM := e_on1 hM
        refine W.eq (g2 := F0 m 146 ls [.ref (e_ad G a5)]) rfl ?_
        refine lv_iload_n hx hb dX8_init_146 rfl (lv_at hl 1 rfl) ?_
        obtain ⟨p9, hv, hM⟩ := e_bs hM
        refine e_new (C := RX4) (T := TX4) (N := 4) E J hv rfl inX4 tyX4 tyX4_ok q_1_153 q_1_173 q_1_8 rfl (by decide +kernel) (e_rcc (by omega)) (e_rcs (by omega)) dX8_init_147 (fun H J => ?_)
        refine lv_dup hx hb dX8_init_150 rfl ?_
        obtain ⟨h10, hv, hM⟩ := e_bs hM
        refine e_callIN (As := []) (rest := [.ref (e_ad G p9.1), .int l1, .ref (e_ad G a5)]) (n := 0) (host := RX8) E J (mX4_init (l := l) (G := G) p9.1 p9.2 _ hv) (List.mem_of_getElem? (i := 3) rfl) q_1_175 q_1_8 q_1_176 rfl (by decide +kernel) rfl ⟨Nat.le_of_ble_eq_true rfl, Nat.le_of_ble_eq_true rfl⟩ (st0 := [.ref (e_ad G p9.1), .ref (e_ad G p9.1), .int l1, .ref (e_ad G a5)]) rfl hl.1 (Nat.le_of_ble_eq_true rfl) dX8_init_151 ⟨e_rcc (by omega), e_rcs (by omega)⟩ (fun H locs J => ?_)
        obtain ⟨h11, hv, hM⟩ := e_bs hM
        refine e_aastQ E J hv rfl rfl dX8_init_154 (fun H locs J => ?_)
        refine lv_iinc (v := (l1 + (nI 1))) (lv' := [(1, .int (l1 + (nI 1))), (0, .ref (e_ad G l0))]) hx hb dX8_init_155 hl (k := 1) rfl rfl (by decide) rfl (fun ls hl => ?_)
        refine lv_goto (tgt := 133) hx hb dX8_init_158 (by decide) ?_
        exact K133 l0 (l1 + (nI 1)) h11 hM _ _ (by omega) (by omega) _ _ J _ (lv_sub hl [1, 0] rfl)
set_option maxRecDepth 100000 in
set_option maxHeartbeats 4000000 in
theorem mX8_init_L133 {p : Program} {l : Launch} {e : Env} {s : State} {m : MethodId} {args : Array Value} {below : List Frame} {meth : Method} {c : Code} {G : e_G} {res : e_H} (E : e_M G p s args m meth c cX8_init 2 none RX8) (hin0 : meth.name = "<init>") (n : Nat) (l0 : Nat) (l1 : Int32) (h : e_H) (hM : fX8_init_L133 n l0 l1 h = some res) {cells slots : Nat} (hb1 : cells + (n * 5 + 0) ≤ 176) (hb2 : slots + (n * 48 + 0) ≤ 3870) {H : Heap} {locs : List Loc} (J : e_J G s h H locs) {ls : Array Slot} (hl : lv_has ls 2 [(0, .ref (e_ad G l0)), (1, .int l1)]) : W p l e (e_rc 3 82 176 3870) s m args below meth c H locs cells slots (MQ below (e_Q G res (none)) args s 176 3870 (e_A G)) (F0 m 133 ls []) := by
  induction n generalizing l0 l1 h H locs ls cells slots with
  | zero => exact e_no hM
  | succ n ih => exact mX8_init_b133 (k133 := (fX8_init_L133 n)) E hin0 (n9 := n)   (fun l0 l1 h hM cells slots hc1 hc2 H locs J ls hl => ih l0 l1 h hM hc1 hc2 J hl) l0 l1 h hM (by omega) (by omega) (by omega) (by omega) J hl
set_option maxRecDepth 100000 in
set_option maxHeartbeats 4000000 in
theorem mX8_init_b103 {p : Program} {l : Launch} {e : Env} {s : State} {m : MethodId} {args : Array Value} {below : List Frame} {meth : Method} {c : Code} {G : e_G} {res : e_H} {k103 : Nat → Int32 → e_H → Option e_H} (E : e_M G p s args m meth c cX8_init 2 none RX8) (hin0 : meth.name = "<init>") {n9 : Nat} (K103 : ∀ (l0 : Nat) (l1 : Int32) (h : e_H), k103 l0 l1 h = some res → ∀ (cells slots : Nat), cells + (n9 * 2 + 50) ≤ 176 → slots + (n9 * 27 + 480) ≤ 3870 → ∀ (H : Heap) (locs : List Loc), e_J G s h H locs → ∀ (ls : Array Slot), lv_has ls 2 [(0, .ref (e_ad G l0)), (1, .int l1)] → W p l e (e_rc 3 82 176 3870) s m args below meth c H locs cells slots (MQ below (e_Q G res (none)) args s 176 3870 (e_A G)) (F0 m 103 ls [])) (l0 : Nat) (l1 : Int32) (h : e_H) (hM : fX8_init_b103 k103 l0 l1 h = some res) {cells slots : Nat} (hb1 : cells + 50 ≤ 176) (hb2 : slots + 480 ≤ 3870) (hb3 : cells + 2 + (n9 * 2 + 50) ≤ 176) (hb4 : slots + 27 + (n9 * 27 + 480) ≤ 3870) {H : Heap} {locs : List Loc} (J : e_J G s h H locs) {ls : Array Slot} (hl : lv_has ls 2 [(0, .ref (e_ad G l0)), (1, .int l1)]) : W p l e (e_rc 3 82 176 3870) s m args below meth c H locs cells slots (MQ below (e_Q G res (none)) args s 176 3870 (e_A G)) (F0 m 103 ls []) := by
  obtain ⟨hx, hb, hr, hml, hown, hts, hlocks, hES, hbs⟩ := id E
  unfold fX8_init_b103 at hM
  refine lv_iload_n hx hb dX8_init_103 rfl (lv_at hl 1 rfl) ?_
  refine lv_aload_n hx hb dX8_init_104 rfl (lv_at hl 0 rfl) ?_
  obtain ⟨v1, hv, hM⟩ := e_bs hM
  refine e_getR (C := RX8) (T := TX8) (N := 10) E J hv rfl inX8 (by decide) q_1_204 dX8_init_105 ?_
  rcases v1 with _ | a2
  · have hM := e_on0 hM
    refine W.eq (g2 := F0 m 108 ls [.null, .int l1]) rfl ?_
    exact e_no hM
  · have hM := e_on1 hM
    refine W.eq (g2 := F0 m 108 ls [.ref (e_ad G a2), .int l1]) rfl ?_
    obtain ⟨v3, hv, hM⟩ := e_bs hM
    refine e_alen E J hv rfl rfl dX8_init_108 ?_
    refine lv_icmp_ge (tgt := 131) hx hb dX8_init_109 (by decide) (fun hc => ?_) (fun hc => ?_)
    · have hM := e_ip hc hM
      refine lv_iconst (v := nI 0) hx hb dX8_init_131 (by decide) ?_
      refine lv_istore_n (lv' := [(1, .int (nI 0)), (0, .ref (e_ad G l0))]) hx hb dX8_init_132 rfl hl (by decide) rfl (fun ls hl => ?_)
      exact mX8_init_L133 E hin0 10 l0 (nI 0) h hM (by omega) (by omega) J (lv_sub hl [1, 0] rfl)
    · have hM := e_in hc hM
      refine lv_aload_n hx hb dX8_init_112 rfl (lv_at hl 0 rfl) ?_
      obtain ⟨v4, hv, hM⟩ := e_bs hM
      refine e_getR (C := RX8) (T := TX8) (N := 10) E J hv rfl inX8 (by decide) q_1_204 dX8_init_113 ?_
      rcases v4 with _ | a5
      · have hM := e_on0 hM
        refine W.eq (g2 := F0 m 116 ls [.null]) rfl ?_
        refine lv_iload_n hx hb dX8_init_116 rfl (lv_at hl 1 rfl) ?_
        obtain ⟨p6, hv, hM⟩ := e_bs hM
        refine e_new (C := RX2) (T := TX2) (N := 3) E J hv rfl inX2 tyX2 tyX2_ok q_1_151 q_1_155 q_1_7 rfl (by decide +kernel) (e_rcc (by omega)) (e_rcs (by omega)) dX8_init_117 (fun H J => ?_)
        refine lv_dup hx hb dX8_init_120 rfl ?_
        obtain ⟨h7, hv, hM⟩ := e_bs hM
        refine e_callIN (As := []) (rest := [.ref (e_ad G p6.1), .int l1, .null]) (n := 0) (host := RX8) E J (mX2_init (l := l) (G := G) p6.1 p6.2 _ hv) (List.mem_of_getElem? (i := 2) rfl) q_1_157 q_1_7 q_1_158 rfl (by decide +kernel) rfl ⟨Nat.le_of_ble_eq_true rfl, Nat.le_of_ble_eq_true rfl⟩ (st0 := [.ref (e_ad G p6.1), .ref (e_ad G p6.1), .int l1, .null]) rfl hl.1 (Nat.le_of_ble_eq_true rfl) dX8_init_121 ⟨e_rcc (by omega), e_rcs (by omega)⟩ (fun H locs J => ?_)
        exact e_no hM
      · have hM := e_on1 hM
        refine W.eq (g2 := F0 m 116 ls [.ref (e_ad G a5)]) rfl ?_
        refine lv_iload_n hx hb dX8_init_116 rfl (lv_at hl 1 rfl) ?_
        obtain ⟨p9, hv, hM⟩ := e_bs hM
        refine e_new (C := RX2) (T := TX2) (N := 3) E J hv rfl inX2 tyX2 tyX2_ok q_1_151 q_1_155 q_1_7 rfl (by decide +kernel) (e_rcc (by omega)) (e_rcs (by omega)) dX8_init_117 (fun H J => ?_)
        refine lv_dup hx hb dX8_init_120 rfl ?_
        obtain ⟨h10, hv, hM⟩ := e_bs hM
        refine e_callIN (As := []) (rest := [.ref (e_ad G p9.1), .int l1, .ref (e_ad G a5)]) (n := 0) (host := RX8) E J (mX2_init (l := l) (G := G) p9.1 p9.2 _ hv) (List.mem_of_getElem? (i := 2) rfl) q_1_157 q_1_7 q_1_158 rfl (by decide +kernel) rfl ⟨Nat.le_of_ble_eq_true rfl, Nat.le_of_ble_eq_true rfl⟩ (st0 := [.ref (e_ad G p9.1), .ref (e_ad G p9.1), .int l1, .ref (e_ad G a5)]) rfl hl.1 (Nat.le_of_ble_eq_true rfl) dX8_init_121 ⟨e_rcc (by omega), e_rcs (by omega)⟩ (fun H locs J => ?_)
        obtain ⟨h11, hv, hM⟩ := e_bs hM
        refine e_aastQ E J hv rfl rfl dX8_init_124 (fun H locs J => ?_)
        refine lv_iinc (v := (l1 + (nI 1))) (lv' := [(1, .int (l1 + (nI 1))), (0, .ref (e_ad G l0))]) hx hb dX8_init_125 hl (k := 1) rfl rfl (by decide) rfl (fun ls hl => ?_)
        refine lv_goto (tgt := 103) hx hb dX8_init_128 (by decide) ?_
        exact K103 l0 (l1 + (nI 1)) h11 hM _ _ (by omega) (by omega) _ _ J _ (lv_sub hl [1, 0] rfl)
set_option maxRecDepth 100000 in
set_option maxHeartbeats 4000000 in
theorem mX8_init_L103 {p : Program} {l : Launch} {e : Env} {s : State} {m : MethodId} {args : Array Value} {below : List Frame} {meth : Method} {c : Code} {G : e_G} {res : e_H} (E : e_M G p s args m meth c cX8_init 2 none RX8) (hin0 : meth.name = "<init>") (n : Nat) (l0 : Nat) (l1 : Int32) (h : e_H) (hM : fX8_init_L103 n l0 l1 h = some res) {cells slots : Nat} (hb1 : cells + (n * 2 + 50) ≤ 176) (hb2 : slots + (n * 27 + 480) ≤ 3870) {H : Heap} {locs : List Loc} (J : e_J G s h H locs) {ls : Array Slot} (hl : lv_has ls 2 [(0, .ref (e_ad G l0)), (1, .int l1)]) : W p l e (e_rc 3 82 176 3870) s m args below meth c H locs cells slots (MQ below (e_Q G res (none)) args s 176 3870 (e_A G)) (F0 m 103 ls []) := by
  induction n generalizing l0 l1 h H locs ls cells slots with
  | zero => exact e_no hM
  | succ n ih => exact mX8_init_b103 (k103 := (fX8_init_L103 n)) E hin0 (n9 := n)   (fun l0 l1 h hM cells slots hc1 hc2 H locs J ls hl => ih l0 l1 h hM hc1 hc2 J hl) l0 l1 h hM (by omega) (by omega) (by omega) (by omega) J hl
set_option maxRecDepth 100000 in
set_option maxHeartbeats 4000000 in
theorem mX8_init {l : Launch} {G : e_G} (l0 : Nat) (h : e_H) (res : e_H) (hM : fX8_init l0 h = some res) : Met l yX8_init (e_W yX8_init cX8_init 2 none) (e_rc 3 82 176 3870) (e_Pc G h [.ref (e_ad G l0)]) (e_Q G res (none)) 176 3870 (e_A G) := by
  refine Met.ofW (cc := cX8_init) (maxL := 2) (ret := none) (by decide) rfl ?_
  intro p e s m args below meth c s₁ B hml hv
  obtain ⟨rfl, hS, hP⟩ := hv
  have E := e_enter (own := RX8) (ret := none) B hml rfl hS hP
  have J : e_J G s h s.heap [] := ⟨hP, va_S.rf⟩
  have hin0 : meth.name = "<init>" := (name_of_methodNamed B.named B.method).1
  have hl := lv_entry ([.ref (e_ad G l0)]) (n := 2) (Nat.le_of_ble_eq_true rfl)
  rw [lg_entry_eq]
  generalize (lg_sl ([.ref (e_ad G l0)]) ++ List.replicate (2 - (lg_sl ([.ref (e_ad G l0)])).length) Slot.unset).toArray = ls at hl ⊢
  have hl : lv_has ls 2 [(0, .ref (e_ad G l0))] := hl
  obtain ⟨hx, hb, hr, hml, hown, hts, hlocks, hES, hbs⟩ := id E
  unfold fX8_init at hM
  obtain ⟨fs_, hk_, hM⟩ := e_bs hM
  refine lv_aload_n hx hb dX8_init_0 rfl (lv_at hl 0 rfl) ?_
  refine e_oinit E q_1_24 q_1_25 q_1_26 hl.1 (Nat.le_of_ble_eq_true rfl) (Nat.le_of_ble_eq_true rfl) dX8_init_1 ?_
  refine lv_aload_n hx hb dX8_init_4 rfl (lv_at hl 0 rfl) ?_
  obtain ⟨p1, hv, hM⟩ := e_bs hM
  refine e_new (C := RX7) (T := TX7) (N := 6) E J hv rfl inX7 tyX7 tyX7_ok q_1_27 q_1_28 q_1_2 rfl (by decide +kernel) (e_rcc (by omega)) (e_rcs (by omega)) dX8_init_5 (fun H J => ?_)
  refine lv_dup hx hb dX8_init_8 rfl ?_
  obtain ⟨h2, hv, hM⟩ := e_bs hM
  refine e_callI (As := []) (rest := [.ref (e_ad G p1.1), .ref (e_ad G l0)]) (n := 0) E J (mX7_init (l := l) (G := G) p1.1 p1.2 _ hv) q_1_29 q_1_30 q_1_2 q_1_31 rfl (by decide +kernel) rfl ⟨Nat.le_of_ble_eq_true rfl, Nat.le_of_ble_eq_true rfl⟩ (st0 := [.ref (e_ad G p1.1), .ref (e_ad G p1.1), .ref (e_ad G l0)]) rfl hl.1 (Nat.le_of_ble_eq_true rfl) dX8_init_9 ⟨e_rcc (by omega), e_rcs (by omega)⟩ (fun H locs J => ?_)
  obtain ⟨h3, hv, hM⟩ := e_bs hM
  refine e_putF (C := RX8) (T := TX8) (N := 10) E J hv rfl rfl inX8 tyX8 tyX8_ok nmX8 (by decide) q_1_199 rfl hin0 rfl rfl rfl rfl dX8_init_12 (fun H locs J => ?_)
  refine lv_aload_n hx hb dX8_init_15 rfl (lv_at hl 0 rfl) ?_
  obtain ⟨p4, hv, hM⟩ := e_bs hM
  refine e_new (C := RX7) (T := TX7) (N := 6) E J hv rfl inX7 tyX7 tyX7_ok q_1_27 q_1_28 q_1_2 rfl (by decide +kernel) (e_rcc (by omega)) (e_rcs (by omega)) dX8_init_16 (fun H J => ?_)
  refine lv_dup hx hb dX8_init_19 rfl ?_
  obtain ⟨h5, hv, hM⟩ := e_bs hM
  refine e_callI (As := []) (rest := [.ref (e_ad G p4.1), .ref (e_ad G l0)]) (n := 0) E J (mX7_init (l := l) (G := G) p4.1 p4.2 _ hv) q_1_29 q_1_30 q_1_2 q_1_31 rfl (by decide +kernel) rfl ⟨Nat.le_of_ble_eq_true rfl, Nat.le_of_ble_eq_true rfl⟩ (st0 := [.ref (e_ad G p4.1), .ref (e_ad G p4.1), .ref (e_ad G l0)]) rfl hl.1 (Nat.le_of_ble_eq_true rfl) dX8_init_20 ⟨e_rcc (by omega), e_rcs (by omega)⟩ (fun H locs J => ?_)
  obtain ⟨h6, hv, hM⟩ := e_bs hM
  refine e_putF (C := RX8) (T := TX8) (N := 10) E J hv rfl rfl inX8 tyX8 tyX8_ok nmX8 (by decide) q_1_200 rfl hin0 rfl rfl rfl rfl dX8_init_23 (fun H locs J => ?_)
  refine lv_aload_n hx hb dX8_init_26 rfl (lv_at hl 0 rfl) ?_
  obtain ⟨p7, hv, hM⟩ := e_bs hM
  refine e_new (C := RX6) (T := TX6) (N := 9) E J hv rfl inX6 tyX6 tyX6_ok q_1_73 q_1_74 q_1_4 rfl (by decide +kernel) (e_rcc (by omega)) (e_rcs (by omega)) dX8_init_27 (fun H J => ?_)
  refine lv_dup hx hb dX8_init_30 rfl ?_
  refine lv_aload_n hx hb dX8_init_31 rfl (lv_at hl 0 rfl) ?_
  obtain ⟨v8, hv, hM⟩ := e_bs hM
  refine e_getR (C := RX8) (T := TX8) (N := 10) E J hv rfl inX8 (by decide) q_1_199 dX8_init_32 ?_
  rcases v8 with _ | a9
  · have hM := e_on0 hM
    refine W.eq (g2 := F0 m 35 ls [.null, .ref (e_ad G p7.1), .ref (e_ad G p7.1), .ref (e_ad G l0)]) rfl ?_
    exact e_no hM
  · have hM := e_on1 hM
    refine W.eq (g2 := F0 m 35 ls [.ref (e_ad G a9), .ref (e_ad G p7.1), .ref (e_ad G p7.1), .ref (e_ad G l0)]) rfl ?_
    obtain ⟨h10, hv, hM⟩ := e_bs hM
    refine e_callI (As := [.ref (e_ad G a9)]) (rest := [.ref (e_ad G p7.1), .ref (e_ad G l0)]) (n := 1) E J (mX6_init (l := l) (G := G) p7.1 a9 p7.2 _ hv) q_1_75 q_1_76 q_1_4 q_1_77 rfl (by decide +kernel) rfl ⟨Nat.le_of_ble_eq_true rfl, Nat.le_of_ble_eq_true rfl⟩ (st0 := [.ref (e_ad G a9), .ref (e_ad G p7.1), .ref (e_ad G p7.1), .ref (e_ad G l0)]) rfl hl.1 (Nat.le_of_ble_eq_true rfl) dX8_init_35 ⟨e_rcc (by omega), e_rcs (by omega)⟩ (fun H locs J => ?_)
    obtain ⟨h11, hv, hM⟩ := e_bs hM
    refine e_putF (C := RX8) (T := TX8) (N := 10) E J hv rfl rfl inX8 tyX8 tyX8_ok nmX8 (by decide) q_1_201 rfl hin0 rfl rfl rfl rfl dX8_init_38 (fun H locs J => ?_)
    refine lv_aload_n hx hb dX8_init_41 rfl (lv_at hl 0 rfl) ?_
    obtain ⟨p12, hv, hM⟩ := e_bs hM
    refine e_new (C := RX6) (T := TX6) (N := 9) E J hv rfl inX6 tyX6 tyX6_ok q_1_73 q_1_74 q_1_4 rfl (by decide +kernel) (e_rcc (by omega)) (e_rcs (by omega)) dX8_init_42 (fun H J => ?_)
    refine lv_dup hx hb dX8_init_45 rfl ?_
    refine lv_aload_n hx hb dX8_init_46 rfl (lv_at hl 0 rfl) ?_
    obtain ⟨v13, hv, hM⟩ := e_bs hM
    refine e_getR (C := RX8) (T := TX8) (N := 10) E J hv rfl inX8 (by decide) q_1_200 dX8_init_47 ?_
    rcases v13 with _ | a14
    · have hM := e_on0 hM
      refine W.eq (g2 := F0 m 50 ls [.null, .ref (e_ad G p12.1), .ref (e_ad G p12.1), .ref (e_ad G l0)]) rfl ?_
      exact e_no hM
    · have hM := e_on1 hM
      refine W.eq (g2 := F0 m 50 ls [.ref (e_ad G a14), .ref (e_ad G p12.1), .ref (e_ad G p12.1), .ref (e_ad G l0)]) rfl ?_
      obtain ⟨h15, hv, hM⟩ := e_bs hM
      refine e_callI (As := [.ref (e_ad G a14)]) (rest := [.ref (e_ad G p12.1), .ref (e_ad G l0)]) (n := 1) E J (mX6_init (l := l) (G := G) p12.1 a14 p12.2 _ hv) q_1_75 q_1_76 q_1_4 q_1_77 rfl (by decide +kernel) rfl ⟨Nat.le_of_ble_eq_true rfl, Nat.le_of_ble_eq_true rfl⟩ (st0 := [.ref (e_ad G a14), .ref (e_ad G p12.1), .ref (e_ad G p12.1), .ref (e_ad G l0)]) rfl hl.1 (Nat.le_of_ble_eq_true rfl) dX8_init_50 ⟨e_rcc (by omega), e_rcs (by omega)⟩ (fun H locs J => ?_)
      obtain ⟨h16, hv, hM⟩ := e_bs hM
      refine e_putF (C := RX8) (T := TX8) (N := 10) E J hv rfl rfl inX8 tyX8 tyX8_ok nmX8 (by decide) q_1_202 rfl hin0 rfl rfl rfl rfl dX8_init_53 (fun H locs J => ?_)
      refine lv_aload_n hx hb dX8_init_56 rfl (lv_at hl 0 rfl) ?_
      obtain ⟨p17, hv, hM⟩ := e_bs hM
      refine e_new (C := RX5) (T := TX5) (N := 7) E J hv rfl inX5 tyX5 tyX5_ok q_1_122 q_1_123 q_1_6 rfl (by decide +kernel) (e_rcc (by omega)) (e_rcs (by omega)) dX8_init_57 (fun H J => ?_)
      refine lv_dup hx hb dX8_init_60 rfl ?_
      obtain ⟨h18, hv, hM⟩ := e_bs hM
      refine e_callIN (As := []) (rest := [.ref (e_ad G p17.1), .ref (e_ad G l0)]) (n := 0) (host := RX8) E J (mX5_init (l := l) (G := G) p17.1 p17.2 _ hv) (List.mem_of_getElem? (i := 1) rfl) q_1_125 q_1_6 q_1_126 rfl (by decide +kernel) rfl ⟨Nat.le_of_ble_eq_true rfl, Nat.le_of_ble_eq_true rfl⟩ (st0 := [.ref (e_ad G p17.1), .ref (e_ad G p17.1), .ref (e_ad G l0)]) rfl hl.1 (Nat.le_of_ble_eq_true rfl) dX8_init_61 ⟨e_rcc (by omega), e_rcs (by omega)⟩ (fun H locs J => ?_)
      obtain ⟨h19, hv, hM⟩ := e_bs hM
      refine e_putF (C := RX8) (T := TX8) (N := 10) E J hv rfl rfl inX8 tyX8 tyX8_ok nmX8 (by decide) q_1_203 rfl hin0 rfl rfl rfl rfl dX8_init_64 (fun H locs J => ?_)
      refine lv_aload_n hx hb dX8_init_67 rfl (lv_at hl 0 rfl) ?_
      refine lv_iconst (v := nI 4) hx hb dX8_init_68 (by decide) ?_
      obtain ⟨p20, hv, hM⟩ := e_bs hM
      refine e_newQ (top := 4) (C := RX2) E J hv rfl (by decide) (by decide +kernel) q_1_151 (Nat.le_of_ble_eq_true rfl) (e_rcc (by omega)) (e_rcs (by omega)) dX8_init_69 (fun H J => ?_)
      obtain ⟨h21, hv, hM⟩ := e_bs hM
      refine e_putF (C := RX8) (T := TX8) (N := 10) E J hv rfl rfl inX8 tyX8 tyX8_ok nmX8 (by decide) q_1_204 rfl hin0 rfl rfl rfl rfl dX8_init_72 (fun H locs J => ?_)
      refine lv_aload_n hx hb dX8_init_75 rfl (lv_at hl 0 rfl) ?_
      refine lv_iconst (v := nI 5) hx hb dX8_init_76 (by decide) ?_
      obtain ⟨p22, hv, hM⟩ := e_bs hM
      refine e_newQ (top := 5) (C := RX4) E J hv rfl (by decide) (by decide +kernel) q_1_153 (Nat.le_of_ble_eq_true rfl) (e_rcc (by omega)) (e_rcs (by omega)) dX8_init_77 (fun H J => ?_)
      obtain ⟨h23, hv, hM⟩ := e_bs hM
      refine e_putF (C := RX8) (T := TX8) (N := 10) E J hv rfl rfl inX8 tyX8 tyX8_ok nmX8 (by decide) q_1_205 rfl hin0 rfl rfl rfl rfl dX8_init_80 (fun H locs J => ?_)
      refine lv_aload_n hx hb dX8_init_83 rfl (lv_at hl 0 rfl) ?_
      refine lv_bipush (v := nI 60) hx hb dX8_init_84 (by decide) ?_
      obtain ⟨p24, hv, hM⟩ := e_bs hM
      refine e_newA (top := 60) (atype := .int) (ty := .int) E J hv rfl rfl (fun _ => rfl) (fun _ => ⟨_, rfl⟩) (fun h => h) q_1_50 (Nat.le_of_ble_eq_true rfl) (e_rcc (by omega)) (e_rcs (by omega)) dX8_init_86 (fun H J => ?_)
      obtain ⟨h25, hv, hM⟩ := e_bs hM
      refine e_putF (C := RX8) (T := TX8) (N := 10) E J hv rfl rfl inX8 tyX8 tyX8_ok nmX8 (by decide) q_1_206 rfl hin0 rfl rfl rfl rfl dX8_init_88 (fun H locs J => ?_)
      refine lv_aload_n hx hb dX8_init_91 rfl (lv_at hl 0 rfl) ?_
      refine lv_iconst (v := nI 0) hx hb dX8_init_92 (by decide) ?_
      obtain ⟨h26, hv, hM⟩ := e_bs hM
      refine e_putv (C := RX8) (T := TX8) (N := 10) E J hv rfl rfl inX8 tyX8 tyX8_ok nmX8 (by decide) q_1_207 rfl rfl rfl rfl dX8_init_93 (fun H locs J => ?_)
      refine lv_aload_n hx hb dX8_init_96 rfl (lv_at hl 0 rfl) ?_
      refine lv_iconst (v := nI 0) hx hb dX8_init_97 (by decide) ?_
      obtain ⟨h27, hv, hM⟩ := e_bs hM
      refine e_putv (C := RX8) (T := TX8) (N := 10) E J hv rfl rfl inX8 tyX8 tyX8_ok nmX8 (by decide) q_1_208 rfl rfl (by decide) (by decide) dX8_init_98 (fun H locs J => ?_)
      refine lv_iconst (v := nI 0) hx hb dX8_init_101 (by decide) ?_
      refine lv_istore_n (lv' := [(1, .int (nI 0)), (0, .ref (e_ad G l0))]) hx hb dX8_init_102 rfl hl (by decide) rfl (fun ls hl => ?_)
      exact mX8_init_L103 E hin0 10 l0 (nI 0) h27 hM (by omega) (by omega) J (lv_sub hl [1, 0] rfl)
set_option maxRecDepth 100000 in
set_option maxHeartbeats 4000000 in
theorem mX8_isKind {l : Launch} {G : e_G} (l0 : Int32) (h : e_H) (res : Bool) (hM : fX8_isKind l0 = some res) : Met l yX8_isKind (e_W yX8_isKind cX8_isKind 1 (some FieldType.boolean)) (e_rm 0 0) (e_Pc G h [.int l0]) (e_Q G h (some (.int (e_b res)))) 0 0 (e_A G) := by
  refine Met.ofW (cc := cX8_isKind) (maxL := 1) (ret := (some FieldType.boolean)) (by decide) rfl ?_
  intro p e s m args below meth c s₁ B hml hv
  obtain ⟨rfl, hS, hP⟩ := hv
  have E := e_enter (own := RX8) (ret := (some FieldType.boolean)) B hml rfl hS hP
  have J : e_J G s h s.heap [] := ⟨hP, va_S.rf⟩
  have hl := lv_entry ([.int l0]) (n := 1) (Nat.le_of_ble_eq_true rfl)
  rw [lg_entry_eq]
  generalize (lg_sl ([.int l0]) ++ List.replicate (1 - (lg_sl ([.int l0])).length) Slot.unset).toArray = ls at hl ⊢
  have hl : lv_has ls 1 [(0, .int l0)] := hl
  obtain ⟨hx, hb, hr, hml, hown, hts, hlocks, hES, hbs⟩ := id E
  unfold fX8_isKind at hM
  refine lv_iload_n hx hb dX8_isKind_0 rfl (lv_at hl 0 rfl) ?_
  refine lv_if_lt (tgt := 13) hx hb dX8_isKind_1 (by decide) (fun hc => ?_) (fun hc => ?_)
  · have hM := e_ip hc hM
    refine lv_iconst (v := nI 0) hx hb dX8_isKind_13 (by decide) ?_
    obtain rfl := e_so hM
    exact e_zret E J (false) rfl dX8_isKind_14
  · have hM := e_in hc hM
    refine lv_iload_n hx hb dX8_isKind_4 rfl (lv_at hl 0 rfl) ?_
    refine lv_iconst (v := nI 5) hx hb dX8_isKind_5 (by decide) ?_
    refine lv_icmp_gt (tgt := 13) hx hb dX8_isKind_6 (by decide) (fun hc => ?_) (fun hc => ?_)
    · have hM := e_ip hc hM
      refine lv_iconst (v := nI 0) hx hb dX8_isKind_13 (by decide) ?_
      obtain rfl := e_so hM
      exact e_zret E J (false) rfl dX8_isKind_14
    · have hM := e_in hc hM
      refine lv_iconst (v := nI 1) hx hb dX8_isKind_9 (by decide) ?_
      refine lv_goto (tgt := 14) hx hb dX8_isKind_10 (by decide) ?_
      obtain rfl := e_so hM
      exact e_zret E J (true) rfl dX8_isKind_14
set_option maxRecDepth 100000 in
set_option maxHeartbeats 4000000 in
theorem mJ7_fill_53178_b5 {p : Program} {l : Launch} {e : Env} {s : State} {m : MethodId} {args : Array Value} {below : List Frame} {meth : Method} {c : Code} {G : e_G} {res : e_H} {k5 : Nat → Int32 → Int32 → Int32 → e_H → Option e_H} (E : e_M G p s args m meth c cJ7_fill_53178 4 none RJ7) (K5 : ∀ (l0 : Nat) (l1 : Int32) (l2 : Int32) (l3 : Int32) (h : e_H), k5 l0 l1 l2 l3 h = some res → ∀ (H : Heap) (locs : List Loc), e_J G s h H locs → ∀ (ls : Array Slot), lv_has ls 4 [(0, .ref (e_ad G l0)), (1, .int l1), (2, .int l2), (3, .int l3)] → W p l e (e_rm 0 0) s m args below meth c H locs 0 0 (MQ below (e_Q G res (none)) args s 0 0 (e_A G)) (F0 m 5 ls [])) (l0 : Nat) (l1 : Int32) (l2 : Int32) (l3 : Int32) (h : e_H) (hM : fJ7_fill_53178_b5 k5 l0 l1 l2 l3 h = some res) {H : Heap} {locs : List Loc} (J : e_J G s h H locs) {ls : Array Slot} (hl : lv_has ls 4 [(0, .ref (e_ad G l0)), (1, .int l1), (2, .int l2), (3, .int l3)]) : W p l e (e_rm 0 0) s m args below meth c H locs 0 0 (MQ below (e_Q G res (none)) args s 0 0 (e_A G)) (F0 m 5 ls []) := by
  obtain ⟨hx, hb, hr, hml, hown, hts, hlocks, hES, hbs⟩ := id E
  unfold fJ7_fill_53178_b5 at hM
  refine lv_iload_n hx hb dJ7_fill_53178_5 rfl (lv_at hl 2 rfl) ?_
  refine lv_iload_n hx hb dJ7_fill_53178_6 rfl (lv_at hl 3 rfl) ?_
  refine lv_icmp_ge (tgt := 20) hx hb dJ7_fill_53178_7 (by decide) (fun hc => ?_) (fun hc => ?_)
  · have hM := e_ip hc hM
    obtain rfl := e_so hM
    exact e_vret E J dJ7_fill_53178_20
  · have hM := e_in hc hM
    refine lv_aload_n hx hb dJ7_fill_53178_10 rfl (lv_at hl 0 rfl) ?_
    refine lv_iload_n hx hb dJ7_fill_53178_11 rfl (lv_at hl 2 rfl) ?_
    refine lv_iload_n hx hb dJ7_fill_53178_12 rfl (lv_at hl 1 rfl) ?_
    obtain ⟨h1, hv, hM⟩ := e_bs hM
    refine e_iast E J hv dJ7_fill_53178_13 (fun H locs J => ?_)
    refine lv_iinc (v := (l2 + (nI 1))) (lv' := [(2, .int (l2 + (nI 1))), (0, .ref (e_ad G l0)), (1, .int l1), (3, .int l3)]) hx hb dJ7_fill_53178_14 hl (k := 2) rfl rfl (by decide) rfl (fun ls hl => ?_)
    refine lv_goto (tgt := 5) hx hb dJ7_fill_53178_17 (by decide) ?_
    exact K5 l0 l1 (l2 + (nI 1)) l3 h1 hM _ _ J _ (lv_sub hl [1, 2, 0, 3] rfl)
set_option maxRecDepth 100000 in
set_option maxHeartbeats 4000000 in
theorem mJ7_fill_53178_L5 {p : Program} {l : Launch} {e : Env} {s : State} {m : MethodId} {args : Array Value} {below : List Frame} {meth : Method} {c : Code} {G : e_G} {res : e_H} (E : e_M G p s args m meth c cJ7_fill_53178 4 none RJ7) (n : Nat) (l0 : Nat) (l1 : Int32) (l2 : Int32) (l3 : Int32) (h : e_H) (hM : fJ7_fill_53178_L5 n l0 l1 l2 l3 h = some res) {H : Heap} {locs : List Loc} (J : e_J G s h H locs) {ls : Array Slot} (hl : lv_has ls 4 [(0, .ref (e_ad G l0)), (1, .int l1), (2, .int l2), (3, .int l3)]) : W p l e (e_rm 0 0) s m args below meth c H locs 0 0 (MQ below (e_Q G res (none)) args s 0 0 (e_A G)) (F0 m 5 ls []) := by
  induction n generalizing l0 l1 l2 l3 h H locs ls with
  | zero => exact e_no hM
  | succ n ih => exact mJ7_fill_53178_b5 (k5 := (fJ7_fill_53178_L5 n)) E   (fun l0 l1 l2 l3 h hM H locs J ls hl => ih l0 l1 l2 l3 h hM J hl) l0 l1 l2 l3 h hM J hl
set_option maxRecDepth 100000 in
set_option maxHeartbeats 4000000 in
theorem mJ7_fill_53178 {l : Launch} {G : e_G} (l0 : Nat) (l1 : Int32) (h : e_H) (res : e_H) (hM : fJ7_fill_53178 l0 l1 h = some res) : Met l yJ7_fill_53178 (e_W yJ7_fill_53178 cJ7_fill_53178 4 none) (e_rm 0 0) (e_Pc G h [.ref (e_ad G l0), .int l1]) (e_Q G res (none)) 0 0 (e_A G) := by
  refine Met.ofW (cc := cJ7_fill_53178) (maxL := 4) (ret := none) (by decide) rfl ?_
  intro p e s m args below meth c s₁ B hml hv
  obtain ⟨rfl, hS, hP⟩ := hv
  have E := e_enter (own := RJ7) (ret := none) B hml rfl hS hP
  have J : e_J G s h s.heap [] := ⟨hP, va_S.rf⟩
  have hl := lv_entry ([.ref (e_ad G l0), .int l1]) (n := 4) (Nat.le_of_ble_eq_true rfl)
  rw [lg_entry_eq]
  generalize (lg_sl ([.ref (e_ad G l0), .int l1]) ++ List.replicate (4 - (lg_sl ([.ref (e_ad G l0), .int l1])).length) Slot.unset).toArray = ls at hl ⊢
  have hl : lv_has ls 4 [(0, .ref (e_ad G l0)), (1, .int l1)] := hl
  obtain ⟨hx, hb, hr, hml, hown, hts, hlocks, hES, hbs⟩ := id E
  unfold fJ7_fill_53178 at hM
  refine lv_iconst (v := nI 0) hx hb dJ7_fill_53178_0 (by decide) ?_
  refine lv_istore_n (lv' := [(2, .int (nI 0)), (0, .ref (e_ad G l0)), (1, .int l1)]) hx hb dJ7_fill_53178_1 rfl hl (by decide) rfl (fun ls hl => ?_)
  refine lv_aload_n hx hb dJ7_fill_53178_2 rfl (lv_at hl 1 rfl) ?_
  obtain ⟨v1, hv, hM⟩ := e_bs hM
  refine e_alen E J hv rfl rfl dJ7_fill_53178_3 ?_
  refine lv_istore_n (lv' := [(3, .int v1), (2, .int (nI 0)), (0, .ref (e_ad G l0)), (1, .int l1)]) hx hb dJ7_fill_53178_4 rfl hl (by decide) rfl (fun ls hl => ?_)
  exact mJ7_fill_53178_L5 E 200 l0 l1 (nI 0) v1 h hM J (lv_sub hl [2, 3, 1, 0] rfl)
set_option maxRecDepth 100000 in
set_option maxHeartbeats 4000000 in
theorem mX0_becomesZero {l : Launch} {G : e_G} (l0 : Nat) (l1 : Int32) (h : e_H) (res : e_H) (hM : fX0_becomesZero l0 l1 h = some res) : Met l yX0_becomesZero (e_W yX0_becomesZero cX0_becomesZero 2 none) (e_rm 1 23) (e_Pc G h [.ref (e_ad G l0), .int l1]) (e_Q G res (none)) 0 0 (e_A G) := by
  refine Met.ofW (cc := cX0_becomesZero) (maxL := 2) (ret := none) (by decide) rfl ?_
  intro p e s m args below meth c s₁ B hml hv
  obtain ⟨rfl, hS, hP⟩ := hv
  have E := e_enter (own := RX0) (ret := none) B hml rfl hS hP
  have J : e_J G s h s.heap [] := ⟨hP, va_S.rf⟩
  have hl := lv_entry ([.ref (e_ad G l0), .int l1]) (n := 2) (Nat.le_of_ble_eq_true rfl)
  rw [lg_entry_eq]
  generalize (lg_sl ([.ref (e_ad G l0), .int l1]) ++ List.replicate (2 - (lg_sl ([.ref (e_ad G l0), .int l1])).length) Slot.unset).toArray = ls at hl ⊢
  have hl : lv_has ls 2 [(0, .ref (e_ad G l0)), (1, .int l1)] := hl
  obtain ⟨hx, hb, hr, hml, hown, hts, hlocks, hES, hbs⟩ := id E
  unfold fX0_becomesZero at hM
  obtain ⟨fs_, hk_, hM⟩ := e_bs hM
  refine lv_aload_n hx hb dX0_becomesZero_0 rfl (lv_at hl 0 rfl) ?_
  refine lv_iload_n hx hb dX0_becomesZero_1 rfl (lv_at hl 1 rfl) ?_
  obtain ⟨h1, hv, hM⟩ := e_bs hM
  refine e_putv (C := RX0) (T := TX0) (N := 2) E J hv rfl rfl inX0 tyX0 tyX0_ok nmX0 (by decide) q_1_42 rfl rfl rfl rfl dX0_becomesZero_2 (fun H locs J => ?_)
  refine lv_aload_n hx hb dX0_becomesZero_5 rfl (lv_at hl 0 rfl) ?_
  obtain ⟨v2, hv, hM⟩ := e_bs hM
  refine e_getR (C := RX0) (T := TX0) (N := 2) E J hv rfl inX0 (by decide) q_1_44 dX0_becomesZero_6 ?_
  rcases v2 with _ | a3
  · have hM := e_on0 hM
    refine W.eq (g2 := F0 m 9 ls [.null]) rfl ?_
    refine lv_iconst (v := nI 0) hx hb dX0_becomesZero_9 (by decide) ?_
    exact e_no hM
  · have hM := e_on1 hM
    refine W.eq (g2 := F0 m 9 ls [.ref (e_ad G a3)]) rfl ?_
    refine lv_iconst (v := nI 0) hx hb dX0_becomesZero_9 (by decide) ?_
    obtain ⟨h4, hv, hM⟩ := e_bs hM
    refine e_callS (As := [.ref (e_ad G a3), .int (nI 0)]) (rest := []) (n := 2) E J (mJ7_fill_53178 (l := l) (G := G) a3 (nI 0) h1 _ hv) q_2_6 q_2_7 q_1_10 q_2_8 (by decide +kernel) rfl ⟨Nat.le_of_ble_eq_true rfl, Nat.le_of_ble_eq_true rfl⟩ (st0 := [.int (nI 0), .ref (e_ad G a3)]) (st1 := []) rfl rfl hl.1 (Nat.le_of_ble_eq_true rfl) dX0_becomesZero_10 ⟨Nat.le_refl _, Nat.le_refl _⟩ (fun H locs J => ?_)
    obtain rfl := e_so hM
    exact e_vret E J dX0_becomesZero_13
set_option maxRecDepth 100000 in
set_option maxHeartbeats 4000000 in
theorem mX7_addCurve {l : Launch} {G : e_G} (l0 : Nat) (l1 : Int32) (h : e_H) (res : (Option Nat × e_H)) (hM : fX7_addCurve l0 l1 h = some res) : Met l yX7_addCurve (e_W yX7_addCurve cX7_addCurve 3 (some (FieldType.object "BentBranches$Curve"))) (e_rm 2 44) (e_Pc G h [.ref (e_ad G l0), .int l1]) (e_Q G res.2 (some (e_r G res.1))) 0 0 (e_A G) := by
  refine Met.ofW (cc := cX7_addCurve) (maxL := 3) (ret := (some (FieldType.object "BentBranches$Curve"))) (by decide) rfl ?_
  intro p e s m args below meth c s₁ B hml hv
  obtain ⟨rfl, hS, hP⟩ := hv
  have E := e_enter (own := RX7) (ret := (some (FieldType.object "BentBranches$Curve"))) B hml rfl hS hP
  have J : e_J G s h s.heap [] := ⟨hP, va_S.rf⟩
  have hl := lv_entry ([.ref (e_ad G l0), .int l1]) (n := 3) (Nat.le_of_ble_eq_true rfl)
  rw [lg_entry_eq]
  generalize (lg_sl ([.ref (e_ad G l0), .int l1]) ++ List.replicate (3 - (lg_sl ([.ref (e_ad G l0), .int l1])).length) Slot.unset).toArray = ls at hl ⊢
  have hl : lv_has ls 3 [(0, .ref (e_ad G l0)), (1, .int l1)] := hl
  obtain ⟨hx, hb, hr, hml, hown, hts, hlocks, hES, hbs⟩ := id E
  unfold fX7_addCurve at hM
  obtain ⟨fs_, hk_, hM⟩ := e_bs hM
  refine lv_aload_n hx hb dX7_addCurve_0 rfl (lv_at hl 0 rfl) ?_
  obtain ⟨v1, hv, hM⟩ := e_bs hM
  refine e_getI (C := RX7) (T := TX7) (N := 6) E J hv rfl inX7 (by decide) q_1_51 dX7_addCurve_1 ?_
  refine lv_if_lt (tgt := 19) hx hb dX7_addCurve_4 (by decide) (fun hc => ?_) (fun hc => ?_)
  · have hM := e_ip hc hM
    refine lv_null hx hb dX7_addCurve_19 ?_
    obtain rfl := e_so hM
    exact e_aretN E J (Or.inl ⟨_, rfl⟩) dX7_addCurve_20
  · have hM := e_in hc hM
    refine lv_aload_n hx hb dX7_addCurve_7 rfl (lv_at hl 0 rfl) ?_
    obtain ⟨v2, hv, hM⟩ := e_bs hM
    refine e_getI (C := RX7) (T := TX7) (N := 6) E J hv rfl inX7 (by decide) q_1_51 dX7_addCurve_8 ?_
    refine lv_aload_n hx hb dX7_addCurve_11 rfl (lv_at hl 0 rfl) ?_
    obtain ⟨v3, hv, hM⟩ := e_bs hM
    refine e_getR (C := RX7) (T := TX7) (N := 6) E J hv rfl inX7 (by decide) q_1_57 dX7_addCurve_12 ?_
    rcases v3 with _ | a4
    · have hM := e_on0 hM
      refine W.eq (g2 := F0 m 15 ls [.null, .int v2]) rfl ?_
      exact e_no hM
    · have hM := e_on1 hM
      refine W.eq (g2 := F0 m 15 ls [.ref (e_ad G a4), .int v2]) rfl ?_
      obtain ⟨v5, hv, hM⟩ := e_bs hM
      refine e_alen E J hv rfl rfl dX7_addCurve_15 ?_
      refine lv_icmp_lt (tgt := 21) hx hb dX7_addCurve_16 (by decide) (fun hc => ?_) (fun hc => ?_)
      · have hM := e_ip hc hM
        refine lv_aload_n hx hb dX7_addCurve_21 rfl (lv_at hl 0 rfl) ?_
        obtain ⟨v6, hv, hM⟩ := e_bs hM
        refine e_getR (C := RX7) (T := TX7) (N := 6) E J hv rfl inX7 (by decide) q_1_57 dX7_addCurve_22 ?_
        rcases v6 with _ | a7
        · have hM := e_on0 hM
          refine W.eq (g2 := F0 m 25 ls [.null]) rfl ?_
          refine lv_aload_n hx hb dX7_addCurve_25 rfl (lv_at hl 0 rfl) ?_
          obtain ⟨v8, hv, hM⟩ := e_bs hM
          refine e_getI (C := RX7) (T := TX7) (N := 6) E J hv rfl inX7 (by decide) q_1_51 dX7_addCurve_26 ?_
          exact e_no hM
        · have hM := e_on1 hM
          refine W.eq (g2 := F0 m 25 ls [.ref (e_ad G a7)]) rfl ?_
          refine lv_aload_n hx hb dX7_addCurve_25 rfl (lv_at hl 0 rfl) ?_
          obtain ⟨v10, hv, hM⟩ := e_bs hM
          refine e_getI (C := RX7) (T := TX7) (N := 6) E J hv rfl inX7 (by decide) q_1_51 dX7_addCurve_26 ?_
          obtain ⟨v11, hv, hM⟩ := e_bs hM
          refine e_aald E J hv rfl dX7_addCurve_29 ?_
          rcases v11 with _ | a12
          · have hM := e_on0 hM
            refine W.eq (g2 := F0 m 30 ls [.null]) rfl ?_
            refine lv_astore_nN (lv' := [(2, .null), (0, .ref (e_ad G l0)), (1, .int l1)]) hx hb dX7_addCurve_30 rfl hl (by decide) rfl (fun ls hl => ?_)
            refine lv_aload_nN hx hb dX7_addCurve_31 rfl (lv_at hl 0 rfl) ?_
            refine lv_iload_n hx hb dX7_addCurve_32 rfl (lv_at hl 2 rfl) ?_
            exact e_no hM
          · have hM := e_on1 hM
            refine W.eq (g2 := F0 m 30 ls [.ref (e_ad G a12)]) rfl ?_
            refine lv_astore_n (lv' := [(2, .ref (e_ad G a12)), (0, .ref (e_ad G l0)), (1, .int l1)]) hx hb dX7_addCurve_30 rfl hl (by decide) rfl (fun ls hl => ?_)
            refine lv_aload_n hx hb dX7_addCurve_31 rfl (lv_at hl 0 rfl) ?_
            refine lv_iload_n hx hb dX7_addCurve_32 rfl (lv_at hl 2 rfl) ?_
            obtain ⟨h13, hv, hM⟩ := e_bs hM
            obtain ⟨fs_, hk, -⟩ := e_bs hv
            refine e_callV (ci := 0) (As := [.int l1]) (rest := []) (n := 1) E J hk rfl (mX0_becomesZero (l := l) (G := G) a12 l1 h _ hv) q_2_2 q_2_3 q_2_4 q_1_3 q_2_5 (by decide +kernel) rfl ⟨Nat.le_of_ble_eq_true rfl, Nat.le_of_ble_eq_true rfl⟩ (st0 := [.int l1, .ref (e_ad G a12)]) (st1 := []) rfl rfl hl.1 (Nat.le_of_ble_eq_true rfl) dX7_addCurve_33 ⟨Nat.le_refl _, Nat.le_refl _⟩ (fun H locs J => ?_)
            refine lv_aload_n hx hb dX7_addCurve_36 rfl (lv_at hl 1 rfl) ?_
            refine lv_dup hx hb dX7_addCurve_37 rfl ?_
            obtain ⟨v14, hv, hM⟩ := e_bs hM
            refine e_getI (C := RX7) (T := TX7) (N := 6) E J hv rfl inX7 (by decide) q_1_51 dX7_addCurve_38 ?_
            refine lv_iconst (v := nI 1) hx hb dX7_addCurve_41 (by decide) ?_
            refine lv_iadd hx hb dX7_addCurve_42 ?_
            obtain ⟨h15, hv, hM⟩ := e_bs hM
            refine e_putv (C := RX7) (T := TX7) (N := 6) E J hv rfl rfl inX7 tyX7 tyX7_ok nmX7 (by decide) q_1_51 rfl rfl rfl rfl dX7_addCurve_43 (fun H locs J => ?_)
            refine lv_aload_n hx hb dX7_addCurve_46 rfl (lv_at hl 0 rfl) ?_
            obtain rfl := e_so hM
            exact e_aretQ E J (Or.inl ⟨_, rfl⟩) dX7_addCurve_47
      · have hM := e_in hc hM
        refine lv_null hx hb dX7_addCurve_19 ?_
        obtain rfl := e_so hM
        exact e_aretN E J (Or.inl ⟨_, rfl⟩) dX7_addCurve_20
set_option maxRecDepth 100000 in
set_option maxHeartbeats 4000000 in
theorem mX8_curve {l : Launch} {G : e_G} (l0 : Nat) (l1 : Int32) (h : e_H) (res : (Int32 × e_H)) (hM : fX8_curve l0 l1 h = some res) : Met l yX8_curve (e_W yX8_curve cX8_curve 3 (some FieldType.int)) (e_rm 3 66) (e_Pc G h [.ref (e_ad G l0), .int l1]) (e_Q G res.2 (some (.int res.1))) 0 0 (e_A G) := by
  refine Met.ofW (cc := cX8_curve) (maxL := 3) (ret := (some FieldType.int)) (by decide) rfl ?_
  intro p e s m args below meth c s₁ B hml hv
  obtain ⟨rfl, hS, hP⟩ := hv
  have E := e_enter (own := RX8) (ret := (some FieldType.int)) B hml rfl hS hP
  have J : e_J G s h s.heap [] := ⟨hP, va_S.rf⟩
  have hl := lv_entry ([.ref (e_ad G l0), .int l1]) (n := 3) (Nat.le_of_ble_eq_true rfl)
  rw [lg_entry_eq]
  generalize (lg_sl ([.ref (e_ad G l0), .int l1]) ++ List.replicate (3 - (lg_sl ([.ref (e_ad G l0), .int l1])).length) Slot.unset).toArray = ls at hl ⊢
  have hl : lv_has ls 3 [(0, .ref (e_ad G l0)), (1, .int l1)] := hl
  obtain ⟨hx, hb, hr, hml, hown, hts, hlocks, hES, hbs⟩ := id E
  unfold fX8_curve at hM
  obtain ⟨fs_, hk_, hM⟩ := e_bs hM
  refine lv_iload_n hx hb dX8_curve_0 rfl (lv_at hl 1 rfl) ?_
  obtain ⟨v1, hv, hM⟩ := e_bs hM
  refine e_callS (As := [.int l1]) (rest := []) (n := 1) E J (mX8_isKind (l := l) (G := G) l1 h _ hv) q_1_234 q_1_235 q_1_1 q_1_236 (by decide +kernel) rfl ⟨Nat.le_of_ble_eq_true rfl, Nat.le_of_ble_eq_true rfl⟩ (st0 := [.int l1]) (st1 := [.int (e_b v1)]) rfl rfl hl.1 (Nat.le_of_ble_eq_true rfl) dX8_curve_1 ⟨Nat.le_refl _, Nat.le_refl _⟩ (fun H locs J => ?_)
  refine lv_if_ne (tgt := 10) hx hb dX8_curve_4 (by decide) (fun hc => ?_) (fun hc => ?_)
  · have hM := e_in hc hM
    refine lv_aload_n hx hb dX8_curve_10 rfl (lv_at hl 0 rfl) ?_
    obtain ⟨v2, hv, hM⟩ := e_bs hM
    refine e_getR (C := RX8) (T := TX8) (N := 10) E J hv rfl inX8 (by decide) q_1_199 dX8_curve_11 ?_
    rcases v2 with _ | a3
    · have hM := e_on0 hM
      refine W.eq (g2 := F0 m 14 ls [.null]) rfl ?_
      refine lv_iload_n hx hb dX8_curve_14 rfl (lv_at hl 1 rfl) ?_
      exact e_no hM
    · have hM := e_on1 hM
      refine W.eq (g2 := F0 m 14 ls [.ref (e_ad G a3)]) rfl ?_
      refine lv_iload_n hx hb dX8_curve_14 rfl (lv_at hl 1 rfl) ?_
      obtain ⟨p4, hv, hM⟩ := e_bs hM
      obtain ⟨fs_, hk, -⟩ := e_bs hv
      refine e_callV (ci := 7) (As := [.int l1]) (rest := []) (n := 1) E J hk rfl (mX7_addCurve (l := l) (G := G) a3 l1 h _ hv) q_1_238 q_1_239 q_2_0 q_1_2 q_2_1 (by decide +kernel) rfl ⟨Nat.le_of_ble_eq_true rfl, Nat.le_of_ble_eq_true rfl⟩ (st0 := [.int l1, .ref (e_ad G a3)]) (st1 := [e_r G p4.1]) rfl rfl hl.1 (Nat.le_of_ble_eq_true rfl) dX8_curve_15 ⟨Nat.le_refl _, Nat.le_refl _⟩ (fun H locs J => ?_)
      obtain ⟨r5, hr5⟩ := p4
      rcases r5 with _ | a6
      · have hM := e_on0 hM
        refine W.eq (g2 := F0 m 18 ls [.null]) rfl ?_
        refine lv_astore_nN (lv' := [(2, .null), (0, .ref (e_ad G l0)), (1, .int l1)]) hx hb dX8_curve_18 rfl hl (by decide) rfl (fun ls hl => ?_)
        refine lv_aload_nN hx hb dX8_curve_19 rfl (lv_at hl 0 rfl) ?_
        refine lv_ifnonnullN hx hb dX8_curve_20 ?_
        refine lv_ldc (v := -1000000003) hx hb hown (hts _ q_2_9) dX8_curve_23 ?_
        refine lv_goto (tgt := 37) hx hb dX8_curve_25 (by decide) ?_
        obtain rfl := e_so hM
        exact e_iret E J dX8_curve_37
      · have hM := e_on1 hM
        refine W.eq (g2 := F0 m 18 ls [.ref (e_ad G a6)]) rfl ?_
        refine lv_astore_n (lv' := [(2, .ref (e_ad G a6)), (0, .ref (e_ad G l0)), (1, .int l1)]) hx hb dX8_curve_18 rfl hl (by decide) rfl (fun ls hl => ?_)
        refine lv_aload_n hx hb dX8_curve_19 rfl (lv_at hl 0 rfl) ?_
        refine lv_ifnonnull (tgt := 28) hx hb dX8_curve_20 (by decide) ?_
        refine lv_aload_n hx hb dX8_curve_28 rfl (lv_at hl 1 rfl) ?_
        obtain ⟨v7, hv, hM⟩ := e_bs hM
        refine e_getR (C := RX8) (T := TX8) (N := 10) E J hv rfl inX8 (by decide) q_1_199 dX8_curve_29 ?_
        rcases v7 with _ | a8
        · have hM := e_on0 hM
          refine W.eq (g2 := F0 m 32 ls [.null]) rfl ?_
          exact e_no hM
        · have hM := e_on1 hM
          refine W.eq (g2 := F0 m 32 ls [.ref (e_ad G a8)]) rfl ?_
          obtain ⟨v9, hv, hM⟩ := e_bs hM
          refine e_getI (C := RX7) (T := TX7) (N := 6) E J hv rfl inX7 (by decide) q_1_52 dX8_curve_32 ?_
          refine lv_iconst (v := nI 1) hx hb dX8_curve_35 (by decide) ?_
          refine lv_isub hx hb dX8_curve_36 ?_
          obtain rfl := e_so hM
          exact e_iret E J dX8_curve_37
  · have hM := e_ip hc hM
    refine lv_ldc (v := -1000000001) hx hb hown (hts _ q_1_237) dX8_curve_7 ?_
    obtain rfl := e_so hM
    exact e_iret E J dX8_curve_9
set_option maxRecDepth 100000 in
set_option maxHeartbeats 4000000 in
theorem mX7_curveOf {l : Launch} {G : e_G} (l0 : Nat) (l1 : Int32) (h : e_H) (res : (Option Nat)) (hM : fX7_curveOf l0 l1 h = some res) : Met l yX7_curveOf (e_W yX7_curveOf cX7_curveOf 2 (some (FieldType.object "BentBranches$Curve"))) (e_rm 0 0) (e_Pc G h [.ref (e_ad G l0), .int l1]) (e_Q G h (some (e_r G res))) 0 0 (e_A G) := by
  refine Met.ofW (cc := cX7_curveOf) (maxL := 2) (ret := (some (FieldType.object "BentBranches$Curve"))) (by decide) rfl ?_
  intro p e s m args below meth c s₁ B hml hv
  obtain ⟨rfl, hS, hP⟩ := hv
  have E := e_enter (own := RX7) (ret := (some (FieldType.object "BentBranches$Curve"))) B hml rfl hS hP
  have J : e_J G s h s.heap [] := ⟨hP, va_S.rf⟩
  have hl := lv_entry ([.ref (e_ad G l0), .int l1]) (n := 2) (Nat.le_of_ble_eq_true rfl)
  rw [lg_entry_eq]
  generalize (lg_sl ([.ref (e_ad G l0), .int l1]) ++ List.replicate (2 - (lg_sl ([.ref (e_ad G l0), .int l1])).length) Slot.unset).toArray = ls at hl ⊢
  have hl : lv_has ls 2 [(0, .ref (e_ad G l0)), (1, .int l1)] := hl
  obtain ⟨hx, hb, hr, hml, hown, hts, hlocks, hES, hbs⟩ := id E
  unfold fX7_curveOf at hM
  obtain ⟨fs_, hk_, hM⟩ := e_bs hM
  refine lv_iload_n hx hb dX7_curveOf_0 rfl (lv_at hl 1 rfl) ?_
  refine lv_if_lt (tgt := 21) hx hb dX7_curveOf_1 (by decide) (fun hc => ?_) (fun hc => ?_)
  · have hM := e_ip hc hM
    refine lv_null hx hb dX7_curveOf_21 ?_
    refine lv_goto (tgt := 31) hx hb dX7_curveOf_22 (by decide) ?_
    obtain rfl := e_so hM
    exact e_aretN E J (Or.inl ⟨_, rfl⟩) dX7_curveOf_31
  · have hM := e_in hc hM
    refine lv_iload_n hx hb dX7_curveOf_4 rfl (lv_at hl 1 rfl) ?_
    refine lv_aload_n hx hb dX7_curveOf_5 rfl (lv_at hl 0 rfl) ?_
    obtain ⟨v1, hv, hM⟩ := e_bs hM
    refine e_getI (C := RX7) (T := TX7) (N := 6) E J hv rfl inX7 (by decide) q_1_51 dX7_curveOf_6 ?_
    refine lv_icmp_ge (tgt := 21) hx hb dX7_curveOf_9 (by decide) (fun hc => ?_) (fun hc => ?_)
    · have hM := e_ip hc hM
      refine lv_null hx hb dX7_curveOf_21 ?_
      refine lv_goto (tgt := 31) hx hb dX7_curveOf_22 (by decide) ?_
      obtain rfl := e_so hM
      exact e_aretN E J (Or.inl ⟨_, rfl⟩) dX7_curveOf_31
    · have hM := e_in hc hM
      refine lv_iload_n hx hb dX7_curveOf_12 rfl (lv_at hl 1 rfl) ?_
      refine lv_aload_n hx hb dX7_curveOf_13 rfl (lv_at hl 0 rfl) ?_
      obtain ⟨v2, hv, hM⟩ := e_bs hM
      refine e_getR (C := RX7) (T := TX7) (N := 6) E J hv rfl inX7 (by decide) q_1_57 dX7_curveOf_14 ?_
      rcases v2 with _ | a3
      · have hM := e_on0 hM
        refine W.eq (g2 := F0 m 17 ls [.null, .int l1]) rfl ?_
        exact e_no hM
      · have hM := e_on1 hM
        refine W.eq (g2 := F0 m 17 ls [.ref (e_ad G a3), .int l1]) rfl ?_
        obtain ⟨v4, hv, hM⟩ := e_bs hM
        refine e_alen E J hv rfl rfl dX7_curveOf_17 ?_
        refine lv_icmp_lt (tgt := 25) hx hb dX7_curveOf_18 (by decide) (fun hc => ?_) (fun hc => ?_)
        · have hM := e_ip hc hM
          refine lv_aload_n hx hb dX7_curveOf_25 rfl (lv_at hl 0 rfl) ?_
          obtain ⟨v5, hv, hM⟩ := e_bs hM
          refine e_getR (C := RX7) (T := TX7) (N := 6) E J hv rfl inX7 (by decide) q_1_57 dX7_curveOf_26 ?_
          rcases v5 with _ | a6
          · have hM := e_on0 hM
            refine W.eq (g2 := F0 m 29 ls [.null]) rfl ?_
            refine lv_iload_n hx hb dX7_curveOf_29 rfl (lv_at hl 1 rfl) ?_
            exact e_no hM
          · have hM := e_on1 hM
            refine W.eq (g2 := F0 m 29 ls [.ref (e_ad G a6)]) rfl ?_
            refine lv_iload_n hx hb dX7_curveOf_29 rfl (lv_at hl 1 rfl) ?_
            obtain ⟨v8, hv, hM⟩ := e_bs hM
            refine e_aald E J hv rfl dX7_curveOf_30 ?_
            rcases v8 with _ | a9
            · have hM := e_on0 hM
              refine W.eq (g2 := F0 m 31 ls [.null]) rfl ?_
              obtain rfl := e_so hM
              exact e_aretN E J (Or.inl ⟨_, rfl⟩) dX7_curveOf_31
            · have hM := e_on1 hM
              refine W.eq (g2 := F0 m 31 ls [.ref (e_ad G a9)]) rfl ?_
              obtain rfl := e_so hM
              exact e_aretQ E J (Or.inl ⟨_, rfl⟩) dX7_curveOf_31
        · have hM := e_in hc hM
          refine lv_null hx hb dX7_curveOf_21 ?_
          refine lv_goto (tgt := 31) hx hb dX7_curveOf_22 (by decide) ?_
          obtain rfl := e_so hM
          exact e_aretN E J (Or.inl ⟨_, rfl⟩) dX7_curveOf_31
set_option maxRecDepth 100000 in
set_option maxHeartbeats 4000000 in
theorem mX8_indexOf {l : Launch} {G : e_G} (l0 : Int32) (l1 : Int32) (h : e_H) (res : Int32) (hM : fX8_indexOf l0 l1 = some res) : Met l yX8_indexOf (e_W yX8_indexOf cX8_indexOf 2 (some FieldType.int)) (e_rm 0 0) (e_Pc G h [.int l0, .int l1]) (e_Q G h (some (.int res))) 0 0 (e_A G) := by
  refine Met.ofW (cc := cX8_indexOf) (maxL := 2) (ret := (some FieldType.int)) (by decide) rfl ?_
  intro p e s m args below meth c s₁ B hml hv
  obtain ⟨rfl, hS, hP⟩ := hv
  have E := e_enter (own := RX8) (ret := (some FieldType.int)) B hml rfl hS hP
  have J : e_J G s h s.heap [] := ⟨hP, va_S.rf⟩
  have hl := lv_entry ([.int l0, .int l1]) (n := 2) (Nat.le_of_ble_eq_true rfl)
  rw [lg_entry_eq]
  generalize (lg_sl ([.int l0, .int l1]) ++ List.replicate (2 - (lg_sl ([.int l0, .int l1])).length) Slot.unset).toArray = ls at hl ⊢
  have hl : lv_has ls 2 [(0, .int l0), (1, .int l1)] := hl
  obtain ⟨hx, hb, hr, hml, hown, hts, hlocks, hES, hbs⟩ := id E
  unfold fX8_indexOf at hM
  refine lv_iload_n hx hb dX8_indexOf_0 rfl (lv_at hl 0 rfl) ?_
  refine lv_if_lt (tgt := 23) hx hb dX8_indexOf_1 (by decide) (fun hc => ?_) (fun hc => ?_)
  · have hM := e_ip hc hM
    refine lv_iconst (v := -1) hx hb dX8_indexOf_23 (by decide) ?_
    obtain rfl := e_so hM
    exact e_iret E J dX8_indexOf_24
  · have hM := e_in hc hM
    refine lv_iload_n hx hb dX8_indexOf_4 rfl (lv_at hl 0 rfl) ?_
    refine va_gets hx hb hES.2.2.2.1 J.2 hown (hts _ q_2_21) (fun _ h9 => h9) dX8_indexOf_5 ?_
    refine e_tlen (v := nI 5) hx hb hES.2.2.2.2.1 J.2 rfl dX8_indexOf_8 ?_
    refine lv_icmp_ge (tgt := 23) hx hb dX8_indexOf_9 (by decide) (fun hc => ?_) (fun hc => ?_)
    · have hM := e_ip hc hM
      refine lv_iconst (v := -1) hx hb dX8_indexOf_23 (by decide) ?_
      obtain rfl := e_so hM
      exact e_iret E J dX8_indexOf_24
    · have hM := e_in hc hM
      refine lv_iload_n hx hb dX8_indexOf_12 rfl (lv_at hl 1 rfl) ?_
      refine lv_if_lt (tgt := 23) hx hb dX8_indexOf_13 (by decide) (fun hc => ?_) (fun hc => ?_)
      · have hM := e_ip hc hM
        refine lv_iconst (v := -1) hx hb dX8_indexOf_23 (by decide) ?_
        obtain rfl := e_so hM
        exact e_iret E J dX8_indexOf_24
      · have hM := e_in hc hM
        refine lv_iload_n hx hb dX8_indexOf_16 rfl (lv_at hl 1 rfl) ?_
        refine lv_iconst (v := nI 4) hx hb dX8_indexOf_17 (by decide) ?_
        refine lv_iload_n hx hb dX8_indexOf_18 rfl (lv_at hl 0 rfl) ?_
        refine lv_isub hx hb dX8_indexOf_19 ?_
        refine lv_icmp_le (tgt := 25) hx hb dX8_indexOf_20 (by decide) (fun hc => ?_) (fun hc => ?_)
        · have hM := e_ip hc hM
          refine va_gets hx hb hES.2.2.2.1 J.2 hown (hts _ q_2_21) (fun _ h9 => h9) dX8_indexOf_25 ?_
          refine lv_iload_n hx hb dX8_indexOf_28 rfl (lv_at hl 0 rfl) ?_
          obtain ⟨hz, hM⟩ := e_if0 hM
          refine e_tiald hx hb hES.2.2.2.2.1 J.2 (fun z => hz (Or.inl z)) (Nat.not_le.mp fun z => hz (Or.inr z)) dX8_indexOf_29 ?_
          refine lv_iload_n hx hb dX8_indexOf_30 rfl (lv_at hl 1 rfl) ?_
          refine lv_iadd hx hb dX8_indexOf_31 ?_
          obtain rfl := e_so hM
          exact e_iret E J dX8_indexOf_32
        · have hM := e_in hc hM
          refine lv_iconst (v := -1) hx hb dX8_indexOf_23 (by decide) ?_
          obtain rfl := e_so hM
          exact e_iret E J dX8_indexOf_24
set_option maxRecDepth 100000 in
set_option maxHeartbeats 4000000 in
theorem mX0_numberAt {l : Launch} {G : e_G} (l0 : Nat) (l1 : Int32) (h : e_H) (res : Int32) (hM : fX0_numberAt l0 l1 h = some res) : Met l yX0_numberAt (e_W yX0_numberAt cX0_numberAt 2 (some FieldType.int)) (e_rm 0 0) (e_Pc G h [.ref (e_ad G l0), .int l1]) (e_Q G h (some (.int res))) 0 0 (e_A G) := by
  refine Met.ofW (cc := cX0_numberAt) (maxL := 2) (ret := (some FieldType.int)) (by decide) rfl ?_
  intro p e s m args below meth c s₁ B hml hv
  obtain ⟨rfl, hS, hP⟩ := hv
  have E := e_enter (own := RX0) (ret := (some FieldType.int)) B hml rfl hS hP
  have J : e_J G s h s.heap [] := ⟨hP, va_S.rf⟩
  have hl := lv_entry ([.ref (e_ad G l0), .int l1]) (n := 2) (Nat.le_of_ble_eq_true rfl)
  rw [lg_entry_eq]
  generalize (lg_sl ([.ref (e_ad G l0), .int l1]) ++ List.replicate (2 - (lg_sl ([.ref (e_ad G l0), .int l1])).length) Slot.unset).toArray = ls at hl ⊢
  have hl : lv_has ls 2 [(0, .ref (e_ad G l0)), (1, .int l1)] := hl
  obtain ⟨hx, hb, hr, hml, hown, hts, hlocks, hES, hbs⟩ := id E
  unfold fX0_numberAt at hM
  obtain ⟨fs_, hk_, hM⟩ := e_bs hM
  refine lv_iload_n hx hb dX0_numberAt_0 rfl (lv_at hl 1 rfl) ?_
  refine lv_if_lt (tgt := 13) hx hb dX0_numberAt_1 (by decide) (fun hc => ?_) (fun hc => ?_)
  · have hM := e_ip hc hM
    refine lv_iconst (v := nI 0) hx hb dX0_numberAt_13 (by decide) ?_
    refine lv_goto (tgt := 23) hx hb dX0_numberAt_14 (by decide) ?_
    obtain rfl := e_so hM
    exact e_iret E J dX0_numberAt_23
  · have hM := e_in hc hM
    refine lv_iload_n hx hb dX0_numberAt_4 rfl (lv_at hl 1 rfl) ?_
    refine lv_aload_n hx hb dX0_numberAt_5 rfl (lv_at hl 0 rfl) ?_
    obtain ⟨v1, hv, hM⟩ := e_bs hM
    refine e_getR (C := RX0) (T := TX0) (N := 2) E J hv rfl inX0 (by decide) q_1_44 dX0_numberAt_6 ?_
    rcases v1 with _ | a2
    · have hM := e_on0 hM
      refine W.eq (g2 := F0 m 9 ls [.null, .int l1]) rfl ?_
      exact e_no hM
    · have hM := e_on1 hM
      refine W.eq (g2 := F0 m 9 ls [.ref (e_ad G a2), .int l1]) rfl ?_
      obtain ⟨v3, hv, hM⟩ := e_bs hM
      refine e_alen E J hv rfl rfl dX0_numberAt_9 ?_
      refine lv_icmp_lt (tgt := 17) hx hb dX0_numberAt_10 (by decide) (fun hc => ?_) (fun hc => ?_)
      · have hM := e_ip hc hM
        refine lv_aload_n hx hb dX0_numberAt_17 rfl (lv_at hl 0 rfl) ?_
        obtain ⟨v4, hv, hM⟩ := e_bs hM
        refine e_getR (C := RX0) (T := TX0) (N := 2) E J hv rfl inX0 (by decide) q_1_44 dX0_numberAt_18 ?_
        rcases v4 with _ | a5
        · have hM := e_on0 hM
          refine W.eq (g2 := F0 m 21 ls [.null]) rfl ?_
          refine lv_iload_n hx hb dX0_numberAt_21 rfl (lv_at hl 1 rfl) ?_
          exact e_no hM
        · have hM := e_on1 hM
          refine W.eq (g2 := F0 m 21 ls [.ref (e_ad G a5)]) rfl ?_
          refine lv_iload_n hx hb dX0_numberAt_21 rfl (lv_at hl 1 rfl) ?_
          obtain ⟨v6, hv, hM⟩ := e_bs hM
          refine e_iald E J hv dX0_numberAt_22 ?_
          obtain rfl := e_so hM
          exact e_iret E J dX0_numberAt_23
      · have hM := e_in hc hM
        refine lv_iconst (v := nI 0) hx hb dX0_numberAt_13 (by decide) ?_
        refine lv_goto (tgt := 23) hx hb dX0_numberAt_14 (by decide) ?_
        obtain rfl := e_so hM
        exact e_iret E J dX0_numberAt_23
set_option maxRecDepth 100000 in
set_option maxHeartbeats 4000000 in
theorem mX0_setNumber {l : Launch} {G : e_G} (l0 : Nat) (l1 : Int32) (l2 : Int32) (h : e_H) (res : e_H) (hM : fX0_setNumber l0 l1 l2 h = some res) : Met l yX0_setNumber (e_W yX0_setNumber cX0_setNumber 3 none) (e_rm 0 0) (e_Pc G h [.ref (e_ad G l0), .int l1, .int l2]) (e_Q G res (none)) 0 0 (e_A G) := by
  refine Met.ofW (cc := cX0_setNumber) (maxL := 3) (ret := none) (by decide) rfl ?_
  intro p e s m args below meth c s₁ B hml hv
  obtain ⟨rfl, hS, hP⟩ := hv
  have E := e_enter (own := RX0) (ret := none) B hml rfl hS hP
  have J : e_J G s h s.heap [] := ⟨hP, va_S.rf⟩
  have hl := lv_entry ([.ref (e_ad G l0), .int l1, .int l2]) (n := 3) (Nat.le_of_ble_eq_true rfl)
  rw [lg_entry_eq]
  generalize (lg_sl ([.ref (e_ad G l0), .int l1, .int l2]) ++ List.replicate (3 - (lg_sl ([.ref (e_ad G l0), .int l1, .int l2])).length) Slot.unset).toArray = ls at hl ⊢
  have hl : lv_has ls 3 [(0, .ref (e_ad G l0)), (1, .int l1), (2, .int l2)] := hl
  obtain ⟨hx, hb, hr, hml, hown, hts, hlocks, hES, hbs⟩ := id E
  unfold fX0_setNumber at hM
  obtain ⟨fs_, hk_, hM⟩ := e_bs hM
  refine lv_iload_n hx hb dX0_setNumber_0 rfl (lv_at hl 1 rfl) ?_
  refine lv_if_lt (tgt := 20) hx hb dX0_setNumber_1 (by decide) (fun hc => ?_) (fun hc => ?_)
  · have hM := e_ip hc hM
    obtain rfl := e_so hM
    exact e_vret E J dX0_setNumber_20
  · have hM := e_in hc hM
    refine lv_iload_n hx hb dX0_setNumber_4 rfl (lv_at hl 1 rfl) ?_
    refine lv_aload_n hx hb dX0_setNumber_5 rfl (lv_at hl 0 rfl) ?_
    obtain ⟨v1, hv, hM⟩ := e_bs hM
    refine e_getR (C := RX0) (T := TX0) (N := 2) E J hv rfl inX0 (by decide) q_1_44 dX0_setNumber_6 ?_
    rcases v1 with _ | a2
    · have hM := e_on0 hM
      refine W.eq (g2 := F0 m 9 ls [.null, .int l1]) rfl ?_
      exact e_no hM
    · have hM := e_on1 hM
      refine W.eq (g2 := F0 m 9 ls [.ref (e_ad G a2), .int l1]) rfl ?_
      obtain ⟨v3, hv, hM⟩ := e_bs hM
      refine e_alen E J hv rfl rfl dX0_setNumber_9 ?_
      refine lv_icmp_ge (tgt := 20) hx hb dX0_setNumber_10 (by decide) (fun hc => ?_) (fun hc => ?_)
      · have hM := e_ip hc hM
        obtain rfl := e_so hM
        exact e_vret E J dX0_setNumber_20
      · have hM := e_in hc hM
        refine lv_aload_n hx hb dX0_setNumber_13 rfl (lv_at hl 0 rfl) ?_
        obtain ⟨v4, hv, hM⟩ := e_bs hM
        refine e_getR (C := RX0) (T := TX0) (N := 2) E J hv rfl inX0 (by decide) q_1_44 dX0_setNumber_14 ?_
        rcases v4 with _ | a5
        · have hM := e_on0 hM
          refine W.eq (g2 := F0 m 17 ls [.null]) rfl ?_
          refine lv_iload_n hx hb dX0_setNumber_17 rfl (lv_at hl 1 rfl) ?_
          refine lv_iload_n hx hb dX0_setNumber_18 rfl (lv_at hl 2 rfl) ?_
          exact e_no hM
        · have hM := e_on1 hM
          refine W.eq (g2 := F0 m 17 ls [.ref (e_ad G a5)]) rfl ?_
          refine lv_iload_n hx hb dX0_setNumber_17 rfl (lv_at hl 1 rfl) ?_
          refine lv_iload_n hx hb dX0_setNumber_18 rfl (lv_at hl 2 rfl) ?_
          obtain ⟨h7, hv, hM⟩ := e_bs hM
          refine e_iast E J hv dX0_setNumber_19 (fun H locs J => ?_)
          obtain rfl := e_so hM
          exact e_vret E J dX0_setNumber_20
set_option maxRecDepth 100000 in
set_option maxHeartbeats 4000000 in
theorem mX8_put {l : Launch} {G : e_G} (l0 : Nat) (l1 : Int32) (l2 : Int32) (l3 : Int32) (h : e_H) (res : (Int32 × e_H)) (hM : fX8_put l0 l1 l2 l3 h = some res) : Met l yX8_put (e_W yX8_put cX8_put 7 (some FieldType.int)) (e_rm 1 22) (e_Pc G h [.ref (e_ad G l0), .int l1, .int l2, .int l3]) (e_Q G res.2 (some (.int res.1))) 0 0 (e_A G) := by
  refine Met.ofW (cc := cX8_put) (maxL := 7) (ret := (some FieldType.int)) (by decide) rfl ?_
  intro p e s m args below meth c s₁ B hml hv
  obtain ⟨rfl, hS, hP⟩ := hv
  have E := e_enter (own := RX8) (ret := (some FieldType.int)) B hml rfl hS hP
  have J : e_J G s h s.heap [] := ⟨hP, va_S.rf⟩
  have hl := lv_entry ([.ref (e_ad G l0), .int l1, .int l2, .int l3]) (n := 7) (Nat.le_of_ble_eq_true rfl)
  rw [lg_entry_eq]
  generalize (lg_sl ([.ref (e_ad G l0), .int l1, .int l2, .int l3]) ++ List.replicate (7 - (lg_sl ([.ref (e_ad G l0), .int l1, .int l2, .int l3])).length) Slot.unset).toArray = ls at hl ⊢
  have hl : lv_has ls 7 [(0, .ref (e_ad G l0)), (1, .int l1), (2, .int l2), (3, .int l3)] := hl
  obtain ⟨hx, hb, hr, hml, hown, hts, hlocks, hES, hbs⟩ := id E
  unfold fX8_put at hM
  obtain ⟨fs_, hk_, hM⟩ := e_bs hM
  refine lv_aload_n hx hb dX8_put_0 rfl (lv_at hl 0 rfl) ?_
  obtain ⟨v1, hv, hM⟩ := e_bs hM
  refine e_getR (C := RX8) (T := TX8) (N := 10) E J hv rfl inX8 (by decide) q_1_199 dX8_put_1 ?_
  rcases v1 with _ | a2
  · have hM := e_on0 hM
    refine W.eq (g2 := F0 m 4 ls [.null]) rfl ?_
    refine lv_iload_n hx hb dX8_put_4 rfl (lv_at hl 1 rfl) ?_
    exact e_no hM
  · have hM := e_on1 hM
    refine W.eq (g2 := F0 m 4 ls [.ref (e_ad G a2)]) rfl ?_
    refine lv_iload_n hx hb dX8_put_4 rfl (lv_at hl 1 rfl) ?_
    obtain ⟨v3, hv, hM⟩ := e_bs hM
    obtain ⟨fs_, hk, -⟩ := e_bs hv
    refine e_callV (ci := 7) (As := [.int l1]) (rest := []) (n := 1) E J hk rfl (mX7_curveOf (l := l) (G := G) a2 l1 h _ hv) q_2_14 q_2_15 q_2_16 q_1_2 q_2_17 (by decide +kernel) rfl ⟨Nat.le_of_ble_eq_true rfl, Nat.le_of_ble_eq_true rfl⟩ (st0 := [.int l1, .ref (e_ad G a2)]) (st1 := [e_r G v3]) rfl rfl hl.1 (Nat.le_of_ble_eq_true rfl) dX8_put_5 ⟨Nat.le_refl _, Nat.le_refl _⟩ (fun H locs J => ?_)
    rcases v3 with _ | a4
    · have hM := e_on0 hM
      refine W.eq (g2 := F0 m 8 ls [.null]) rfl ?_
      refine lv_astoreN (lv' := [(4, .null), (0, .ref (e_ad G l0)), (1, .int l1), (2, .int l2), (3, .int l3)]) hx hb dX8_put_8 hl (by decide) rfl (fun ls hl => ?_)
      refine lv_iload_n hx hb dX8_put_10 rfl (lv_at hl 3 rfl) ?_
      refine lv_bipush (v := nI 10) hx hb dX8_put_11 (by decide) ?_
      refine lv_idiv hx hb dX8_put_13 (by decide) ?_
      refine lv_iload_n hx hb dX8_put_14 rfl (lv_at hl 3 rfl) ?_
      refine lv_bipush (v := nI 10) hx hb dX8_put_15 (by decide) ?_
      refine lv_irem hx hb dX8_put_17 (by decide) ?_
      obtain ⟨v5, hv, hM⟩ := e_bs hM
      refine e_callS (As := [.int (l2 / (nI 10)), .int (l2 - l2 / (nI 10) * (nI 10))]) (rest := []) (n := 2) E J (mX8_indexOf (l := l) (G := G) (l2 / (nI 10)) (l2 - l2 / (nI 10) * (nI 10)) h _ hv) q_2_18 q_2_19 q_1_1 q_2_20 (by decide +kernel) rfl ⟨Nat.le_of_ble_eq_true rfl, Nat.le_of_ble_eq_true rfl⟩ (st0 := [.int (l2 - l2 / (nI 10) * (nI 10)), .int (l2 / (nI 10))]) (st1 := [.int v5]) rfl rfl hl.1 (Nat.le_of_ble_eq_true rfl) dX8_put_18 ⟨Nat.le_refl _, Nat.le_refl _⟩ (fun H locs J => ?_)
      refine lv_istore (lv' := [(5, .int v5), (4, .null), (0, .ref (e_ad G l0)), (1, .int l1), (2, .int l2), (3, .int l3)]) hx hb dX8_put_21 hl (by decide) rfl (fun ls hl => ?_)
      refine lv_aloadN hx hb dX8_put_23 (lv_at hl 1 rfl) ?_
      refine lv_ifnullN (tgt := 45) hx hb dX8_put_25 (by decide) ?_
      refine lv_ldc (v := -1000000001) hx hb hown (hts _ q_1_237) dX8_put_45 ?_
      obtain rfl := e_so hM
      exact e_iret E J dX8_put_47
    · have hM := e_on1 hM
      refine W.eq (g2 := F0 m 8 ls [.ref (e_ad G a4)]) rfl ?_
      refine lv_astore (lv' := [(4, .ref (e_ad G a4)), (0, .ref (e_ad G l0)), (1, .int l1), (2, .int l2), (3, .int l3)]) hx hb dX8_put_8 hl (by decide) rfl (fun ls hl => ?_)
      refine lv_iload_n hx hb dX8_put_10 rfl (lv_at hl 3 rfl) ?_
      refine lv_bipush (v := nI 10) hx hb dX8_put_11 (by decide) ?_
      refine lv_idiv hx hb dX8_put_13 (by decide) ?_
      refine lv_iload_n hx hb dX8_put_14 rfl (lv_at hl 3 rfl) ?_
      refine lv_bipush (v := nI 10) hx hb dX8_put_15 (by decide) ?_
      refine lv_irem hx hb dX8_put_17 (by decide) ?_
      obtain ⟨v6, hv, hM⟩ := e_bs hM
      refine e_callS (As := [.int (l2 / (nI 10)), .int (l2 - l2 / (nI 10) * (nI 10))]) (rest := []) (n := 2) E J (mX8_indexOf (l := l) (G := G) (l2 / (nI 10)) (l2 - l2 / (nI 10) * (nI 10)) h _ hv) q_2_18 q_2_19 q_1_1 q_2_20 (by decide +kernel) rfl ⟨Nat.le_of_ble_eq_true rfl, Nat.le_of_ble_eq_true rfl⟩ (st0 := [.int (l2 - l2 / (nI 10) * (nI 10)), .int (l2 / (nI 10))]) (st1 := [.int v6]) rfl rfl hl.1 (Nat.le_of_ble_eq_true rfl) dX8_put_18 ⟨Nat.le_refl _, Nat.le_refl _⟩ (fun H locs J => ?_)
      refine lv_istore (lv' := [(5, .int v6), (4, .ref (e_ad G a4)), (0, .ref (e_ad G l0)), (1, .int l1), (2, .int l2), (3, .int l3)]) hx hb dX8_put_21 hl (by decide) rfl (fun ls hl => ?_)
      refine lv_aload hx hb dX8_put_23 (lv_at hl 1 rfl) ?_
      refine lv_ifnull hx hb dX8_put_25 ?_
      refine lv_iload hx hb dX8_put_28 (lv_at hl 0 rfl) ?_
      refine lv_if_lt (tgt := 45) hx hb dX8_put_30 (by decide) (fun hc => ?_) (fun hc => ?_)
      · have hM := e_ip hc hM
        refine lv_ldc (v := -1000000001) hx hb hown (hts _ q_1_237) dX8_put_45 ?_
        obtain rfl := e_so hM
        exact e_iret E J dX8_put_47
      · have hM := e_in hc hM
        refine lv_iload_n hx hb dX8_put_33 rfl (lv_at hl 5 rfl) ?_
        refine lv_bipush (v := -99) hx hb dX8_put_34 (by decide) ?_
        refine lv_icmp_lt (tgt := 45) hx hb dX8_put_36 (by decide) (fun hc => ?_) (fun hc => ?_)
        · have hM := e_ip hc hM
          refine lv_ldc (v := -1000000001) hx hb hown (hts _ q_1_237) dX8_put_45 ?_
          obtain rfl := e_so hM
          exact e_iret E J dX8_put_47
        · have hM := e_in hc hM
          refine lv_iload_n hx hb dX8_put_39 rfl (lv_at hl 5 rfl) ?_
          refine lv_bipush (v := nI 99) hx hb dX8_put_40 (by decide) ?_
          refine lv_icmp_le (tgt := 48) hx hb dX8_put_42 (by decide) (fun hc => ?_) (fun hc => ?_)
          · have hM := e_ip hc hM
            refine lv_aload hx hb dX8_put_48 (lv_at hl 1 rfl) ?_
            refine lv_iload hx hb dX8_put_50 (lv_at hl 0 rfl) ?_
            obtain ⟨v7, hv, hM⟩ := e_bs hM
            obtain ⟨fs_, hk, -⟩ := e_bs hv
            refine e_callV (ci := 0) (As := [.int v6]) (rest := []) (n := 1) E J hk rfl (mX0_numberAt (l := l) (G := G) a4 v6 h _ hv) q_2_23 q_2_24 q_2_25 q_1_3 q_2_26 (by decide +kernel) rfl ⟨Nat.le_of_ble_eq_true rfl, Nat.le_of_ble_eq_true rfl⟩ (st0 := [.int v6, .ref (e_ad G a4)]) (st1 := [.int v7]) rfl rfl hl.1 (Nat.le_of_ble_eq_true rfl) dX8_put_52 ⟨Nat.le_refl _, Nat.le_refl _⟩ (fun H locs J => ?_)
            refine lv_istore (lv' := [(6, .int v7), (5, .int v6), (4, .ref (e_ad G a4)), (0, .ref (e_ad G l0)), (1, .int l1), (2, .int l2), (3, .int l3)]) hx hb dX8_put_55 hl (by decide) rfl (fun ls hl => ?_)
            refine lv_aload hx hb dX8_put_57 (lv_at hl 2 rfl) ?_
            refine lv_iload hx hb dX8_put_59 (lv_at hl 1 rfl) ?_
            refine lv_iload_n hx hb dX8_put_61 rfl (lv_at hl 6 rfl) ?_
            obtain ⟨h8, hv, hM⟩ := e_bs hM
            obtain ⟨fs_, hk, -⟩ := e_bs hv
            refine e_callV (ci := 0) (As := [.int v6, .int l3]) (rest := []) (n := 2) E J hk rfl (mX0_setNumber (l := l) (G := G) a4 v6 l3 h _ hv) q_2_27 q_2_28 q_2_29 q_1_3 q_2_30 (by decide +kernel) rfl ⟨Nat.le_of_ble_eq_true rfl, Nat.le_of_ble_eq_true rfl⟩ (st0 := [.int l3, .int v6, .ref (e_ad G a4)]) (st1 := []) rfl rfl hl.1 (Nat.le_of_ble_eq_true rfl) dX8_put_62 ⟨Nat.le_refl _, Nat.le_refl _⟩ (fun H locs J => ?_)
            refine lv_iload hx hb dX8_put_65 (lv_at hl 0 rfl) ?_
            obtain rfl := e_so hM
            exact e_iret E J dX8_put_67
          · have hM := e_in hc hM
            refine lv_ldc (v := -1000000001) hx hb hown (hts _ q_1_237) dX8_put_45 ?_
            obtain rfl := e_so hM
            exact e_iret E J dX8_put_47
set_option maxRecDepth 100000 in
set_option maxHeartbeats 4000000 in
theorem mX0_isOf_b27 {p : Program} {l : Launch} {e : Env} {s : State} {m : MethodId} {args : Array Value} {below : List Frame} {meth : Method} {c : Code} {G : e_G} {res : Bool} (E : e_M G p s args m meth c cX0_isOf 2 (some FieldType.boolean) RX0) (h : e_H) (l0 : Nat) (l1 : Int32) (hM : fX0_isOf_b27 h l0 l1 = some res) {H : Heap} {locs : List Loc} (J : e_J G s h H locs) {ls : Array Slot} (hl : lv_has ls 2 [(0, .ref (e_ad G l0)), (1, .int l1)]) : W p l e (e_rm 0 0) s m args below meth c H locs 0 0 (MQ below (e_Q G h (some (.int (e_b res)))) args s 0 0 (e_A G)) (F0 m 27 ls []) := by
  obtain ⟨hx, hb, hr, hml, hown, hts, hlocks, hES, hbs⟩ := id E
  unfold fX0_isOf_b27 at hM
  refine lv_iload_n hx hb dX0_isOf_27 rfl (lv_at hl 1 rfl) ?_
  refine lv_iconst (v := nI 2) hx hb dX0_isOf_28 (by decide) ?_
  refine lv_icmp_ne (tgt := 44) hx hb dX0_isOf_29 (by decide) (fun hc => ?_) (fun hc => ?_)
  · have hM := e_in hc hM
    refine lv_iconst (v := nI 0) hx hb dX0_isOf_44 (by decide) ?_
    obtain rfl := e_so hM
    exact e_zret E J (false) rfl dX0_isOf_45
  · have hM := e_ip hc hM
    refine lv_aload_n hx hb dX0_isOf_32 rfl (lv_at hl 0 rfl) ?_
    obtain ⟨v1, hv, hM⟩ := e_bs hM
    refine e_getI (C := RX0) (T := TX0) (N := 2) E J hv rfl inX0 (by decide) q_1_42 dX0_isOf_33 ?_
    refine lv_iconst (v := nI 4) hx hb dX0_isOf_36 (by decide) ?_
    refine lv_icmp_ne (tgt := 44) hx hb dX0_isOf_37 (by decide) (fun hc => ?_) (fun hc => ?_)
    · have hM := e_in hc hM
      refine lv_iconst (v := nI 0) hx hb dX0_isOf_44 (by decide) ?_
      obtain rfl := e_so hM
      exact e_zret E J (false) rfl dX0_isOf_45
    · have hM := e_ip hc hM
      refine lv_iconst (v := nI 1) hx hb dX0_isOf_40 (by decide) ?_
      refine lv_goto (tgt := 45) hx hb dX0_isOf_41 (by decide) ?_
      obtain rfl := e_so hM
      exact e_zret E J (true) rfl dX0_isOf_45
set_option maxRecDepth 100000 in
set_option maxHeartbeats 4000000 in
theorem mX0_isOf {l : Launch} {G : e_G} (l0 : Nat) (l1 : Int32) (h : e_H) (res : Bool) (hM : fX0_isOf l0 l1 h = some res) : Met l yX0_isOf (e_W yX0_isOf cX0_isOf 2 (some FieldType.boolean)) (e_rm 0 0) (e_Pc G h [.ref (e_ad G l0), .int l1]) (e_Q G h (some (.int (e_b res)))) 0 0 (e_A G) := by
  refine Met.ofW (cc := cX0_isOf) (maxL := 2) (ret := (some FieldType.boolean)) (by decide) rfl ?_
  intro p e s m args below meth c s₁ B hml hv
  obtain ⟨rfl, hS, hP⟩ := hv
  have E := e_enter (own := RX0) (ret := (some FieldType.boolean)) B hml rfl hS hP
  have J : e_J G s h s.heap [] := ⟨hP, va_S.rf⟩
  have hl := lv_entry ([.ref (e_ad G l0), .int l1]) (n := 2) (Nat.le_of_ble_eq_true rfl)
  rw [lg_entry_eq]
  generalize (lg_sl ([.ref (e_ad G l0), .int l1]) ++ List.replicate (2 - (lg_sl ([.ref (e_ad G l0), .int l1])).length) Slot.unset).toArray = ls at hl ⊢
  have hl : lv_has ls 2 [(0, .ref (e_ad G l0)), (1, .int l1)] := hl
  obtain ⟨hx, hb, hr, hml, hown, hts, hlocks, hES, hbs⟩ := id E
  unfold fX0_isOf at hM
  obtain ⟨fs_, hk_, hM⟩ := e_bs hM
  refine lv_iload_n hx hb dX0_isOf_0 rfl (lv_at hl 1 rfl) ?_
  refine lv_if_eq (tgt := 12) hx hb dX0_isOf_1 (by decide) (fun hc => ?_) (fun hc => ?_)
  · have hM := e_ip hc hM
    refine lv_iconst (v := nI 1) hx hb dX0_isOf_12 (by decide) ?_
    obtain rfl := e_so hM
    exact e_zret E J (true) rfl dX0_isOf_13
  · have hM := e_in hc hM
    refine lv_iload_n hx hb dX0_isOf_4 rfl (lv_at hl 1 rfl) ?_
    refine lv_aload_n hx hb dX0_isOf_5 rfl (lv_at hl 0 rfl) ?_
    obtain ⟨v1, hv, hM⟩ := e_bs hM
    refine e_getI (C := RX0) (T := TX0) (N := 2) E J hv rfl inX0 (by decide) q_1_42 dX0_isOf_6 ?_
    refine lv_icmp_ne (tgt := 14) hx hb dX0_isOf_9 (by decide) (fun hc => ?_) (fun hc => ?_)
    · have hM := e_in hc hM
      refine lv_iload_n hx hb dX0_isOf_14 rfl (lv_at hl 1 rfl) ?_
      refine lv_iconst (v := nI 1) hx hb dX0_isOf_15 (by decide) ?_
      refine lv_icmp_ne (tgt := 27) hx hb dX0_isOf_16 (by decide) (fun hc => ?_) (fun hc => ?_)
      · have hM := e_in hc hM
        exact mX0_isOf_b27 E h l0 l1 hM J (lv_sub hl [0, 1] rfl)
      · have hM := e_ip hc hM
        refine lv_aload_n hx hb dX0_isOf_19 rfl (lv_at hl 0 rfl) ?_
        obtain ⟨v2, hv, hM⟩ := e_bs hM
        refine e_getI (C := RX0) (T := TX0) (N := 2) E J hv rfl inX0 (by decide) q_1_42 dX0_isOf_20 ?_
        refine lv_iconst (v := nI 3) hx hb dX0_isOf_23 (by decide) ?_
        refine lv_icmp_eq (tgt := 40) hx hb dX0_isOf_24 (by decide) (fun hc => ?_) (fun hc => ?_)
        · have hM := e_ip hc hM
          refine lv_iconst (v := nI 1) hx hb dX0_isOf_40 (by decide) ?_
          refine lv_goto (tgt := 45) hx hb dX0_isOf_41 (by decide) ?_
          obtain rfl := e_so hM
          exact e_zret E J (true) rfl dX0_isOf_45
        · have hM := e_in hc hM
          exact mX0_isOf_b27 E h l0 l1 hM J (lv_sub hl [0, 1] rfl)
    · have hM := e_ip hc hM
      refine lv_iconst (v := nI 1) hx hb dX0_isOf_12 (by decide) ?_
      obtain rfl := e_so hM
      exact e_zret E J (true) rfl dX0_isOf_13
set_option maxRecDepth 100000 in
set_option maxHeartbeats 4000000 in
theorem mX0_factor {l : Launch} {G : e_G} (l0 : Nat) (l1 : Int32) (l2 : Int32) (h : e_H) (res : Int32) (hM : fX0_factor l0 l1 l2 h = some res) : Met l yX0_factor (e_W yX0_factor cX0_factor 3 (some FieldType.int)) (e_rm 0 0) (e_Pc G h [.ref (e_ad G l0), .int l1, .int l2]) (e_Q G h (some (.int res))) 0 0 (e_A G) := by
  refine Met.ofW (cc := cX0_factor) (maxL := 3) (ret := (some FieldType.int)) (by decide) rfl ?_
  intro p e s m args below meth c s₁ B hml hv
  obtain ⟨rfl, hS, hP⟩ := hv
  have E := e_enter (own := RX0) (ret := (some FieldType.int)) B hml rfl hS hP
  have J : e_J G s h s.heap [] := ⟨hP, va_S.rf⟩
  have hl := lv_entry ([.ref (e_ad G l0), .int l1, .int l2]) (n := 3) (Nat.le_of_ble_eq_true rfl)
  rw [lg_entry_eq]
  generalize (lg_sl ([.ref (e_ad G l0), .int l1, .int l2]) ++ List.replicate (3 - (lg_sl ([.ref (e_ad G l0), .int l1, .int l2])).length) Slot.unset).toArray = ls at hl ⊢
  have hl : lv_has ls 3 [(0, .ref (e_ad G l0)), (1, .int l1), (2, .int l2)] := hl
  obtain ⟨hx, hb, hr, hml, hown, hts, hlocks, hES, hbs⟩ := id E
  unfold fX0_factor at hM
  obtain ⟨fs_, hk_, hM⟩ := e_bs hM
  refine lv_aload_n hx hb dX0_factor_0 rfl (lv_at hl 0 rfl) ?_
  obtain ⟨v1, hv, hM⟩ := e_bs hM
  refine e_getI (C := RX0) (T := TX0) (N := 2) E J hv rfl inX0 (by decide) q_1_42 dX0_factor_1 ?_
  by_cases hc0 : v1 = nI 2
  · have hM := e_ip hc0 hM
    refine e_tin (y := nI 2) (off := 34) (tgt := 38) hx hb dX0_factor_4 hc0 (by decide) (by decide) (by decide +kernel) (by decide) ?_
    refine lv_iload_n hx hb dX0_factor_38 rfl (lv_at hl 1 rfl) ?_
    refine lv_iconst (v := nI 2) hx hb dX0_factor_39 (by decide) ?_
    refine lv_irem hx hb dX0_factor_40 (by decide) ?_
    refine lv_if_ne (tgt := 48) hx hb dX0_factor_41 (by decide) (fun hc => ?_) (fun hc => ?_)
    · have hM := e_in hc hM
      refine lv_iconst (v := -1) hx hb dX0_factor_48 (by decide) ?_
      obtain rfl := e_so hM
      exact e_iret E J dX0_factor_49
    · have hM := e_ip hc hM
      refine lv_iconst (v := nI 1) hx hb dX0_factor_44 (by decide) ?_
      refine lv_goto (tgt := 49) hx hb dX0_factor_45 (by decide) ?_
      obtain rfl := e_so hM
      exact e_iret E J dX0_factor_49
  have hM := e_in hc0 hM
  by_cases hc1 : v1 = nI 3
  · have hM := e_ip hc1 hM
    refine e_tin (y := nI 3) (off := 32) (tgt := 36) hx hb dX0_factor_4 hc1 (by decide) (by decide) (by decide +kernel) (by decide) ?_
    refine lv_iconst (v := -1) hx hb dX0_factor_36 (by decide) ?_
    obtain rfl := e_so hM
    exact e_iret E J dX0_factor_37
  have hM := e_in hc1 hM
  by_cases hc2 : v1 = nI 4
  · have hM := e_ip hc2 hM
    refine e_tin (y := nI 4) (off := 46) (tgt := 50) hx hb dX0_factor_4 hc2 (by decide) (by decide) (by decide +kernel) (by decide) ?_
    refine lv_iload_n hx hb dX0_factor_50 rfl (lv_at hl 1 rfl) ?_
    refine lv_iconst (v := nI 2) hx hb dX0_factor_51 (by decide) ?_
    refine lv_irem hx hb dX0_factor_52 (by decide) ?_
    refine lv_if_ne (tgt := 60) hx hb dX0_factor_53 (by decide) (fun hc => ?_) (fun hc => ?_)
    · have hM := e_in hc hM
      refine lv_bipush (v := -2) hx hb dX0_factor_60 (by decide) ?_
      obtain rfl := e_so hM
      exact e_iret E J dX0_factor_62
    · have hM := e_ip hc hM
      refine lv_iconst (v := nI 2) hx hb dX0_factor_56 (by decide) ?_
      refine lv_goto (tgt := 62) hx hb dX0_factor_57 (by decide) ?_
      obtain rfl := e_so hM
      exact e_iret E J dX0_factor_62
  have hM := e_in hc2 hM
  by_cases hc3 : v1 = nI 5
  · have hM := e_ip hc3 hM
    refine e_tin (y := nI 5) (off := 59) (tgt := 63) hx hb dX0_factor_4 hc3 (by decide) (by decide) (by decide +kernel) (by decide) ?_
    refine lv_iload_n hx hb dX0_factor_63 rfl (lv_at hl 2 rfl) ?_
    refine lv_if_ne (tgt := 71) hx hb dX0_factor_64 (by decide) (fun hc => ?_) (fun hc => ?_)
    · have hM := e_in hc hM
      refine lv_iconst (v := nI 0) hx hb dX0_factor_71 (by decide) ?_
      obtain rfl := e_so hM
      exact e_iret E J dX0_factor_72
    · have hM := e_ip hc hM
      refine lv_iconst (v := nI 1) hx hb dX0_factor_67 (by decide) ?_
      refine lv_goto (tgt := 72) hx hb dX0_factor_68 (by decide) ?_
      obtain rfl := e_so hM
      exact e_iret E J dX0_factor_72
  have hM := e_in hc3 hM
  refine lv_tableOut (tgt := 73) hx hb dX0_factor_4 (Classical.byContradiction fun hn => by
      have h9 : v1.toInt = 2 ∨ v1.toInt = 3 ∨ v1.toInt = 4 ∨ v1.toInt = 5 := by omega
      rcases h9 with h9 | h9 | h9 | h9
      · exact hc0 (e_i32 (h9.trans (by decide)))
      · exact hc1 (e_i32 (h9.trans (by decide)))
      · exact hc2 (e_i32 (h9.trans (by decide)))
      · exact hc3 (e_i32 (h9.trans (by decide)))) (by decide) ?_
  refine lv_iconst (v := nI 1) hx hb dX0_factor_73 (by decide) ?_
  obtain rfl := e_so hM
  exact e_iret E J dX0_factor_74
set_option maxRecDepth 100000 in
set_option maxHeartbeats 4000000 in
theorem mX0_number {l : Launch} {G : e_G} (l0 : Nat) (l1 : Int32) (l2 : Int32) (h : e_H) (res : Int32) (hM : fX0_number l0 l1 l2 h = some res) : Met l yX0_number (e_W yX0_number cX0_number 3 (some FieldType.int)) (e_rm 1 21) (e_Pc G h [.ref (e_ad G l0), .int l1, .int l2]) (e_Q G h (some (.int res))) 0 0 (e_A G) := by
  refine Met.ofW (cc := cX0_number) (maxL := 3) (ret := (some FieldType.int)) (by decide) rfl ?_
  intro p e s m args below meth c s₁ B hml hv
  obtain ⟨rfl, hS, hP⟩ := hv
  have E := e_enter (own := RX0) (ret := (some FieldType.int)) B hml rfl hS hP
  have J : e_J G s h s.heap [] := ⟨hP, va_S.rf⟩
  have hl := lv_entry ([.ref (e_ad G l0), .int l1, .int l2]) (n := 3) (Nat.le_of_ble_eq_true rfl)
  rw [lg_entry_eq]
  generalize (lg_sl ([.ref (e_ad G l0), .int l1, .int l2]) ++ List.replicate (3 - (lg_sl ([.ref (e_ad G l0), .int l1, .int l2])).length) Slot.unset).toArray = ls at hl ⊢
  have hl : lv_has ls 3 [(0, .ref (e_ad G l0)), (1, .int l1), (2, .int l2)] := hl
  obtain ⟨hx, hb, hr, hml, hown, hts, hlocks, hES, hbs⟩ := id E
  unfold fX0_number at hM
  obtain ⟨fs_, hk_, hM⟩ := e_bs hM
  refine lv_aload_n hx hb dX0_number_0 rfl (lv_at hl 0 rfl) ?_
  refine lv_iload_n hx hb dX0_number_1 rfl (lv_at hl 1 rfl) ?_
  refine lv_iload_n hx hb dX0_number_2 rfl (lv_at hl 2 rfl) ?_
  obtain ⟨v1, hv, hM⟩ := e_bs hM
  refine e_callSN (As := [.int l1, .int l2]) (rest := [.ref (e_ad G l0)]) (n := 2) (host := RX8) E J (mX8_indexOf (l := l) (G := G) l1 l2 h _ hv) (List.mem_of_getElem? (i := 4) rfl) q_2_19 q_1_1 q_2_20 (by decide +kernel) rfl ⟨Nat.le_of_ble_eq_true rfl, Nat.le_of_ble_eq_true rfl⟩ (st0 := [.int l2, .int l1, .ref (e_ad G l0)]) (st1 := [.int v1, .ref (e_ad G l0)]) rfl rfl hl.1 (Nat.le_of_ble_eq_true rfl) dX0_number_3 ⟨Nat.le_refl _, Nat.le_refl _⟩ (fun H locs J => ?_)
  obtain ⟨v2, hv, hM⟩ := e_bs hM
  obtain ⟨fs_, hk, -⟩ := e_bs hv
  refine e_callV (ci := 0) (As := [.int v1]) (rest := []) (n := 1) E J hk rfl (mX0_numberAt (l := l) (G := G) l0 v1 h _ hv) q_2_52 q_2_24 q_2_25 q_1_3 q_2_26 (by decide +kernel) rfl ⟨Nat.le_of_ble_eq_true rfl, Nat.le_of_ble_eq_true rfl⟩ (st0 := [.int v1, .ref (e_ad G l0)]) (st1 := [.int v2]) rfl rfl hl.1 (Nat.le_of_ble_eq_true rfl) dX0_number_6 ⟨Nat.le_refl _, Nat.le_refl _⟩ (fun H locs J => ?_)
  obtain rfl := e_so hM
  exact e_iret E J dX0_number_9
set_option maxRecDepth 100000 in
set_option maxHeartbeats 4000000 in
theorem mX7_lawAt {l : Launch} {G : e_G} (l0 : Nat) (l1 : Int32) (h : e_H) (res : (Option Nat)) (hM : fX7_lawAt l0 l1 h = some res) : Met l yX7_lawAt (e_W yX7_lawAt cX7_lawAt 2 (some (FieldType.object "BentBranches$Law"))) (e_rm 0 0) (e_Pc G h [.ref (e_ad G l0), .int l1]) (e_Q G h (some (e_r G res))) 0 0 (e_A G) := by
  refine Met.ofW (cc := cX7_lawAt) (maxL := 2) (ret := (some (FieldType.object "BentBranches$Law"))) (by decide) rfl ?_
  intro p e s m args below meth c s₁ B hml hv
  obtain ⟨rfl, hS, hP⟩ := hv
  have E := e_enter (own := RX7) (ret := (some (FieldType.object "BentBranches$Law"))) B hml rfl hS hP
  have J : e_J G s h s.heap [] := ⟨hP, va_S.rf⟩
  have hl := lv_entry ([.ref (e_ad G l0), .int l1]) (n := 2) (Nat.le_of_ble_eq_true rfl)
  rw [lg_entry_eq]
  generalize (lg_sl ([.ref (e_ad G l0), .int l1]) ++ List.replicate (2 - (lg_sl ([.ref (e_ad G l0), .int l1])).length) Slot.unset).toArray = ls at hl ⊢
  have hl : lv_has ls 2 [(0, .ref (e_ad G l0)), (1, .int l1)] := hl
  obtain ⟨hx, hb, hr, hml, hown, hts, hlocks, hES, hbs⟩ := id E
  unfold fX7_lawAt at hM
  obtain ⟨fs_, hk_, hM⟩ := e_bs hM
  refine lv_iload_n hx hb dX7_lawAt_0 rfl (lv_at hl 1 rfl) ?_
  refine lv_if_lt (tgt := 21) hx hb dX7_lawAt_1 (by decide) (fun hc => ?_) (fun hc => ?_)
  · have hM := e_ip hc hM
    refine lv_null hx hb dX7_lawAt_21 ?_
    refine lv_goto (tgt := 31) hx hb dX7_lawAt_22 (by decide) ?_
    obtain rfl := e_so hM
    exact e_aretN E J (Or.inl ⟨_, rfl⟩) dX7_lawAt_31
  · have hM := e_in hc hM
    refine lv_iload_n hx hb dX7_lawAt_4 rfl (lv_at hl 1 rfl) ?_
    refine lv_aload_n hx hb dX7_lawAt_5 rfl (lv_at hl 0 rfl) ?_
    obtain ⟨v1, hv, hM⟩ := e_bs hM
    refine e_getI (C := RX7) (T := TX7) (N := 6) E J hv rfl inX7 (by decide) q_1_53 dX7_lawAt_6 ?_
    refine lv_icmp_ge (tgt := 21) hx hb dX7_lawAt_9 (by decide) (fun hc => ?_) (fun hc => ?_)
    · have hM := e_ip hc hM
      refine lv_null hx hb dX7_lawAt_21 ?_
      refine lv_goto (tgt := 31) hx hb dX7_lawAt_22 (by decide) ?_
      obtain rfl := e_so hM
      exact e_aretN E J (Or.inl ⟨_, rfl⟩) dX7_lawAt_31
    · have hM := e_in hc hM
      refine lv_iload_n hx hb dX7_lawAt_12 rfl (lv_at hl 1 rfl) ?_
      refine lv_aload_n hx hb dX7_lawAt_13 rfl (lv_at hl 0 rfl) ?_
      obtain ⟨v2, hv, hM⟩ := e_bs hM
      refine e_getR (C := RX7) (T := TX7) (N := 6) E J hv rfl inX7 (by decide) q_1_58 dX7_lawAt_14 ?_
      rcases v2 with _ | a3
      · have hM := e_on0 hM
        refine W.eq (g2 := F0 m 17 ls [.null, .int l1]) rfl ?_
        exact e_no hM
      · have hM := e_on1 hM
        refine W.eq (g2 := F0 m 17 ls [.ref (e_ad G a3), .int l1]) rfl ?_
        obtain ⟨v4, hv, hM⟩ := e_bs hM
        refine e_alen E J hv rfl rfl dX7_lawAt_17 ?_
        refine lv_icmp_lt (tgt := 25) hx hb dX7_lawAt_18 (by decide) (fun hc => ?_) (fun hc => ?_)
        · have hM := e_ip hc hM
          refine lv_aload_n hx hb dX7_lawAt_25 rfl (lv_at hl 0 rfl) ?_
          obtain ⟨v5, hv, hM⟩ := e_bs hM
          refine e_getR (C := RX7) (T := TX7) (N := 6) E J hv rfl inX7 (by decide) q_1_58 dX7_lawAt_26 ?_
          rcases v5 with _ | a6
          · have hM := e_on0 hM
            refine W.eq (g2 := F0 m 29 ls [.null]) rfl ?_
            refine lv_iload_n hx hb dX7_lawAt_29 rfl (lv_at hl 1 rfl) ?_
            exact e_no hM
          · have hM := e_on1 hM
            refine W.eq (g2 := F0 m 29 ls [.ref (e_ad G a6)]) rfl ?_
            refine lv_iload_n hx hb dX7_lawAt_29 rfl (lv_at hl 1 rfl) ?_
            obtain ⟨v8, hv, hM⟩ := e_bs hM
            refine e_aald E J hv rfl dX7_lawAt_30 ?_
            rcases v8 with _ | a9
            · have hM := e_on0 hM
              refine W.eq (g2 := F0 m 31 ls [.null]) rfl ?_
              obtain rfl := e_so hM
              exact e_aretN E J (Or.inl ⟨_, rfl⟩) dX7_lawAt_31
            · have hM := e_on1 hM
              refine W.eq (g2 := F0 m 31 ls [.ref (e_ad G a9)]) rfl ?_
              obtain rfl := e_so hM
              exact e_aretQ E J (Or.inl ⟨_, rfl⟩) dX7_lawAt_31
        · have hM := e_in hc hM
          refine lv_null hx hb dX7_lawAt_21 ?_
          refine lv_goto (tgt := 31) hx hb dX7_lawAt_22 (by decide) ?_
          obtain rfl := e_so hM
          exact e_aretN E J (Or.inl ⟨_, rfl⟩) dX7_lawAt_31
set_option maxRecDepth 100000 in
set_option maxHeartbeats 4000000 in
theorem mX7_lastLawOf_b31 {p : Program} {l : Launch} {e : Env} {s : State} {m : MethodId} {args : Array Value} {below : List Frame} {meth : Method} {c : Code} {G : e_G} {res : Int32} {k7 : Nat → Int32 → Int32 → Option Int32} (E : e_M G p s args m meth c cX7_lastLawOf 4 (some FieldType.int) RX7) (h : e_H) (K7 : ∀ (l0 : Nat) (l1 : Int32) (l2 : Int32), k7 l0 l1 l2 = some res → ∀ (H : Heap) (locs : List Loc), e_J G s h H locs → ∀ (ls : Array Slot), lv_has ls 4 [(0, .ref (e_ad G l0)), (1, .int l1), (2, .int l2)] → W p l e (e_rm 1 21) s m args below meth c H locs 0 0 (MQ below (e_Q G h (some (.int res))) args s 0 0 (e_A G)) (F0 m 7 ls [])) (l0 : Nat) (l1 : Int32) (l2 : Int32) (hM : fX7_lastLawOf_b31 h k7 l0 l1 l2 = some res) {H : Heap} {locs : List Loc} (J : e_J G s h H locs) {ls : Array Slot} (hl : lv_has ls 4 [(0, .ref (e_ad G l0)), (1, .int l1), (2, .int l2)]) : W p l e (e_rm 1 21) s m args below meth c H locs 0 0 (MQ below (e_Q G h (some (.int res))) args s 0 0 (e_A G)) (F0 m 31 ls []) := by
  obtain ⟨hx, hb, hr, hml, hown, hts, hlocks, hES, hbs⟩ := id E
  unfold fX7_lastLawOf_b31 at hM
  refine lv_iinc (v := (l2 + (-1 : Int32))) (lv' := [(2, .int (l2 + (-1 : Int32))), (0, .ref (e_ad G l0)), (1, .int l1)]) hx hb dX7_lastLawOf_31 hl (k := 2) rfl rfl (by decide) rfl (fun ls hl => ?_)
  refine lv_goto (tgt := 7) hx hb dX7_lastLawOf_34 (by decide) ?_
  exact K7 l0 l1 (l2 + (-1 : Int32)) hM _ _ J _ (lv_sub hl [1, 2, 0] rfl)
set_option maxRecDepth 100000 in
set_option maxHeartbeats 4000000 in
theorem mX7_lastLawOf_b7 {p : Program} {l : Launch} {e : Env} {s : State} {m : MethodId} {args : Array Value} {below : List Frame} {meth : Method} {c : Code} {G : e_G} {res : Int32} {k7 : Nat → Int32 → Int32 → Option Int32} (E : e_M G p s args m meth c cX7_lastLawOf 4 (some FieldType.int) RX7) (h : e_H) (K7 : ∀ (l0 : Nat) (l1 : Int32) (l2 : Int32), k7 l0 l1 l2 = some res → ∀ (H : Heap) (locs : List Loc), e_J G s h H locs → ∀ (ls : Array Slot), lv_has ls 4 [(0, .ref (e_ad G l0)), (1, .int l1), (2, .int l2)] → W p l e (e_rm 1 21) s m args below meth c H locs 0 0 (MQ below (e_Q G h (some (.int res))) args s 0 0 (e_A G)) (F0 m 7 ls [])) (l0 : Nat) (l1 : Int32) (l2 : Int32) (hM : fX7_lastLawOf_b7 h k7 l0 l1 l2 = some res) {H : Heap} {locs : List Loc} (J : e_J G s h H locs) {ls : Array Slot} (hl : lv_has ls 4 [(0, .ref (e_ad G l0)), (1, .int l1), (2, .int l2)]) : W p l e (e_rm 1 21) s m args below meth c H locs 0 0 (MQ below (e_Q G h (some (.int res))) args s 0 0 (e_A G)) (F0 m 7 ls []) := by
  obtain ⟨hx, hb, hr, hml, hown, hts, hlocks, hES, hbs⟩ := id E
  unfold fX7_lastLawOf_b7 at hM
  refine lv_iload_n hx hb dX7_lastLawOf_7 rfl (lv_at hl 2 rfl) ?_
  refine lv_if_lt (tgt := 37) hx hb dX7_lastLawOf_8 (by decide) (fun hc => ?_) (fun hc => ?_)
  · have hM := e_ip hc hM
    refine lv_iconst (v := -1) hx hb dX7_lastLawOf_37 (by decide) ?_
    obtain rfl := e_so hM
    exact e_iret E J dX7_lastLawOf_38
  · have hM := e_in hc hM
    refine lv_aload_n hx hb dX7_lastLawOf_11 rfl (lv_at hl 0 rfl) ?_
    refine lv_iload_n hx hb dX7_lastLawOf_12 rfl (lv_at hl 2 rfl) ?_
    obtain ⟨v1, hv, hM⟩ := e_bs hM
    obtain ⟨fs_, hk, -⟩ := e_bs hv
    refine e_callV (ci := 7) (As := [.int l2]) (rest := []) (n := 1) E J hk rfl (mX7_lawAt (l := l) (G := G) l0 l2 h _ hv) q_2_61 q_2_62 q_2_63 q_1_2 q_2_64 (by decide +kernel) rfl ⟨Nat.le_of_ble_eq_true rfl, Nat.le_of_ble_eq_true rfl⟩ (st0 := [.int l2, .ref (e_ad G l0)]) (st1 := [e_r G v1]) rfl rfl hl.1 (Nat.le_of_ble_eq_true rfl) dX7_lastLawOf_13 ⟨Nat.le_refl _, Nat.le_refl _⟩ (fun H locs J => ?_)
    rcases v1 with _ | a2
    · have hM := e_on0 hM
      refine W.eq (g2 := F0 m 16 ls [.null]) rfl ?_
      refine lv_astore_nN (lv' := [(3, .null), (0, .ref (e_ad G l0)), (1, .int l1), (2, .int l2)]) hx hb dX7_lastLawOf_16 rfl hl (by decide) rfl (fun ls hl => ?_)
      refine lv_aload_nN hx hb dX7_lastLawOf_17 rfl (lv_at hl 0 rfl) ?_
      refine lv_ifnullN (tgt := 31) hx hb dX7_lastLawOf_18 (by decide) ?_
      exact mX7_lastLawOf_b31 E h K7 l0 l1 l2 hM J (lv_sub hl [1, 2, 3] rfl)
    · have hM := e_on1 hM
      refine W.eq (g2 := F0 m 16 ls [.ref (e_ad G a2)]) rfl ?_
      refine lv_astore_n (lv' := [(3, .ref (e_ad G a2)), (0, .ref (e_ad G l0)), (1, .int l1), (2, .int l2)]) hx hb dX7_lastLawOf_16 rfl hl (by decide) rfl (fun ls hl => ?_)
      refine lv_aload_n hx hb dX7_lastLawOf_17 rfl (lv_at hl 0 rfl) ?_
      refine lv_ifnull hx hb dX7_lastLawOf_18 ?_
      refine lv_aload_n hx hb dX7_lastLawOf_21 rfl (lv_at hl 0 rfl) ?_
      obtain ⟨v3, hv, hM⟩ := e_bs hM
      refine e_getI (C := RX1) (T := TX1) (N := 3) E J hv rfl inX1 (by decide) q_4_106 dX7_lastLawOf_22 ?_
      refine lv_iload_n hx hb dX7_lastLawOf_25 rfl (lv_at hl 2 rfl) ?_
      refine lv_icmp_ne (tgt := 31) hx hb dX7_lastLawOf_26 (by decide) (fun hc => ?_) (fun hc => ?_)
      · have hM := e_in hc hM
        exact mX7_lastLawOf_b31 E h K7 l0 l1 l2 hM J (lv_sub hl [1, 2, 3] rfl)
      · have hM := e_ip hc hM
        refine lv_iload_n hx hb dX7_lastLawOf_29 rfl (lv_at hl 3 rfl) ?_
        obtain rfl := e_so hM
        exact e_iret E J dX7_lastLawOf_30
set_option maxRecDepth 100000 in
set_option maxHeartbeats 4000000 in
theorem mX7_lastLawOf_L7 {p : Program} {l : Launch} {e : Env} {s : State} {m : MethodId} {args : Array Value} {below : List Frame} {meth : Method} {c : Code} {G : e_G} {res : Int32} (E : e_M G p s args m meth c cX7_lastLawOf 4 (some FieldType.int) RX7) (h : e_H) (n : Nat) (l0 : Nat) (l1 : Int32) (l2 : Int32) (hM : fX7_lastLawOf_L7 h n l0 l1 l2 = some res) {H : Heap} {locs : List Loc} (J : e_J G s h H locs) {ls : Array Slot} (hl : lv_has ls 4 [(0, .ref (e_ad G l0)), (1, .int l1), (2, .int l2)]) : W p l e (e_rm 1 21) s m args below meth c H locs 0 0 (MQ below (e_Q G h (some (.int res))) args s 0 0 (e_A G)) (F0 m 7 ls []) := by
  induction n generalizing l0 l1 l2 H locs ls with
  | zero => exact e_no hM
  | succ n ih => exact mX7_lastLawOf_b7 (k7 := (fX7_lastLawOf_L7 h n)) E h  (fun l0 l1 l2 hM H locs J ls hl => ih l0 l1 l2 hM J hl) l0 l1 l2 hM J hl
set_option maxRecDepth 100000 in
set_option maxHeartbeats 4000000 in
theorem mX7_lastLawOf {l : Launch} {G : e_G} (l0 : Nat) (l1 : Int32) (h : e_H) (res : Int32) (hM : fX7_lastLawOf l0 l1 h = some res) : Met l yX7_lastLawOf (e_W yX7_lastLawOf cX7_lastLawOf 4 (some FieldType.int)) (e_rm 1 21) (e_Pc G h [.ref (e_ad G l0), .int l1]) (e_Q G h (some (.int res))) 0 0 (e_A G) := by
  refine Met.ofW (cc := cX7_lastLawOf) (maxL := 4) (ret := (some FieldType.int)) (by decide) rfl ?_
  intro p e s m args below meth c s₁ B hml hv
  obtain ⟨rfl, hS, hP⟩ := hv
  have E := e_enter (own := RX7) (ret := (some FieldType.int)) B hml rfl hS hP
  have J : e_J G s h s.heap [] := ⟨hP, va_S.rf⟩
  have hl := lv_entry ([.ref (e_ad G l0), .int l1]) (n := 4) (Nat.le_of_ble_eq_true rfl)
  rw [lg_entry_eq]
  generalize (lg_sl ([.ref (e_ad G l0), .int l1]) ++ List.replicate (4 - (lg_sl ([.ref (e_ad G l0), .int l1])).length) Slot.unset).toArray = ls at hl ⊢
  have hl : lv_has ls 4 [(0, .ref (e_ad G l0)), (1, .int l1)] := hl
  obtain ⟨hx, hb, hr, hml, hown, hts, hlocks, hES, hbs⟩ := id E
  unfold fX7_lastLawOf at hM
  obtain ⟨fs_, hk_, hM⟩ := e_bs hM
  refine lv_aload_n hx hb dX7_lastLawOf_0 rfl (lv_at hl 0 rfl) ?_
  obtain ⟨v1, hv, hM⟩ := e_bs hM
  refine e_getI (C := RX7) (T := TX7) (N := 6) E J hv rfl inX7 (by decide) q_1_53 dX7_lastLawOf_1 ?_
  refine lv_iconst (v := nI 1) hx hb dX7_lastLawOf_4 (by decide) ?_
  refine lv_isub hx hb dX7_lastLawOf_5 ?_
  refine lv_istore_n (lv' := [(2, .int (v1 - (nI 1))), (0, .ref (e_ad G l0)), (1, .int l1)]) hx hb dX7_lastLawOf_6 rfl hl (by decide) rfl (fun ls hl => ?_)
  exact mX7_lastLawOf_L7 E h 200 l0 l1 (v1 - (nI 1)) hM J (lv_sub hl [1, 2, 0] rfl)
set_option maxRecDepth 100000 in
set_option maxHeartbeats 4000000 in
theorem mX1_joined {l : Launch} {G : e_G} (l0 : Int32) (l1 : Int32) (l2 : Int32) (h : e_H) (res : Int32) (hM : fX1_joined l0 l1 l2 = some res) : Met l yX1_joined (e_W yX1_joined cX1_joined 3 (some FieldType.int)) (e_rm 0 0) (e_Pc G h [.int l0, .int l1, .int l2]) (e_Q G h (some (.int res))) 0 0 (e_A G) := by
  refine Met.ofW (cc := cX1_joined) (maxL := 3) (ret := (some FieldType.int)) (by decide) rfl ?_
  intro p e s m args below meth c s₁ B hml hv
  obtain ⟨rfl, hS, hP⟩ := hv
  have E := e_enter (own := RX1) (ret := (some FieldType.int)) B hml rfl hS hP
  have J : e_J G s h s.heap [] := ⟨hP, va_S.rf⟩
  have hl := lv_entry ([.int l0, .int l1, .int l2]) (n := 3) (Nat.le_of_ble_eq_true rfl)
  rw [lg_entry_eq]
  generalize (lg_sl ([.int l0, .int l1, .int l2]) ++ List.replicate (3 - (lg_sl ([.int l0, .int l1, .int l2])).length) Slot.unset).toArray = ls at hl ⊢
  have hl : lv_has ls 3 [(0, .int l0), (1, .int l1), (2, .int l2)] := hl
  obtain ⟨hx, hb, hr, hml, hown, hts, hlocks, hES, hbs⟩ := id E
  unfold fX1_joined at hM
  refine lv_iload_n hx hb dX1_joined_0 rfl (lv_at hl 0 rfl) ?_
  by_cases hc0 : l0 = nI 38
  · have hM := e_ip hc0 hM
    refine e_lin (y := nI 38) (off := 140) (tgt := 141) hx hb dX1_joined_1 hc0 (by decide +kernel) (by decide +kernel) (by decide) ?_
    refine lv_iload_n hx hb dX1_joined_141 rfl (lv_at hl 1 rfl) ?_
    refine lv_if_eq (tgt := 153) hx hb dX1_joined_142 (by decide) (fun hc => ?_) (fun hc => ?_)
    · have hM := e_ip hc hM
      refine lv_iconst (v := nI 0) hx hb dX1_joined_153 (by decide) ?_
      obtain rfl := e_so hM
      exact e_iret E J dX1_joined_154
    · have hM := e_in hc hM
      refine lv_iload_n hx hb dX1_joined_145 rfl (lv_at hl 2 rfl) ?_
      refine lv_if_eq (tgt := 153) hx hb dX1_joined_146 (by decide) (fun hc => ?_) (fun hc => ?_)
      · have hM := e_ip hc hM
        refine lv_iconst (v := nI 0) hx hb dX1_joined_153 (by decide) ?_
        obtain rfl := e_so hM
        exact e_iret E J dX1_joined_154
      · have hM := e_in hc hM
        refine lv_iconst (v := nI 1) hx hb dX1_joined_149 (by decide) ?_
        refine lv_goto (tgt := 154) hx hb dX1_joined_150 (by decide) ?_
        obtain rfl := e_so hM
        exact e_iret E J dX1_joined_154
  have hM := e_in hc0 hM
  by_cases hc1 : l0 = nI 42
  · have hM := e_ip hc1 hM
    refine e_lin (y := nI 42) (off := 91) (tgt := 92) hx hb dX1_joined_1 hc1 (by decide +kernel) (by decide +kernel) (by decide) ?_
    refine lv_iload_n hx hb dX1_joined_92 rfl (lv_at hl 1 rfl) ?_
    refine lv_iload_n hx hb dX1_joined_93 rfl (lv_at hl 2 rfl) ?_
    refine lv_imul hx hb dX1_joined_94 ?_
    obtain rfl := e_so hM
    exact e_iret E J dX1_joined_95
  have hM := e_in hc1 hM
  by_cases hc2 : l0 = nI 43
  · have hM := e_ip hc2 hM
    refine e_lin (y := nI 43) (off := 83) (tgt := 84) hx hb dX1_joined_1 hc2 (by decide +kernel) (by decide +kernel) (by decide) ?_
    refine lv_iload_n hx hb dX1_joined_84 rfl (lv_at hl 1 rfl) ?_
    refine lv_iload_n hx hb dX1_joined_85 rfl (lv_at hl 2 rfl) ?_
    refine lv_iadd hx hb dX1_joined_86 ?_
    obtain rfl := e_so hM
    exact e_iret E J dX1_joined_87
  have hM := e_in hc2 hM
  by_cases hc3 : l0 = nI 45
  · have hM := e_ip hc3 hM
    refine e_lin (y := nI 45) (off := 87) (tgt := 88) hx hb dX1_joined_1 hc3 (by decide +kernel) (by decide +kernel) (by decide) ?_
    refine lv_iload_n hx hb dX1_joined_88 rfl (lv_at hl 1 rfl) ?_
    refine lv_iload_n hx hb dX1_joined_89 rfl (lv_at hl 2 rfl) ?_
    refine lv_isub hx hb dX1_joined_90 ?_
    obtain rfl := e_so hM
    exact e_iret E J dX1_joined_91
  have hM := e_in hc3 hM
  by_cases hc4 : l0 = nI 47
  · have hM := e_ip hc4 hM
    refine e_lin (y := nI 47) (off := 95) (tgt := 96) hx hb dX1_joined_1 hc4 (by decide +kernel) (by decide +kernel) (by decide) ?_
    refine lv_iload_n hx hb dX1_joined_96 rfl (lv_at hl 2 rfl) ?_
    refine lv_if_ne (tgt := 104) hx hb dX1_joined_97 (by decide) (fun hc => ?_) (fun hc => ?_)
    · have hM := e_in hc hM
      refine lv_iload_n hx hb dX1_joined_104 rfl (lv_at hl 1 rfl) ?_
      refine lv_iload_n hx hb dX1_joined_105 rfl (lv_at hl 2 rfl) ?_
      obtain ⟨hz, hM⟩ := e_if0 hM
      refine lv_idiv hx hb dX1_joined_106 hz ?_
      obtain rfl := e_so hM
      exact e_iret E J dX1_joined_107
    · have hM := e_ip hc hM
      refine lv_iconst (v := nI 0) hx hb dX1_joined_100 (by decide) ?_
      refine lv_goto (tgt := 107) hx hb dX1_joined_101 (by decide) ?_
      obtain rfl := e_so hM
      exact e_iret E J dX1_joined_107
  have hM := e_in hc4 hM
  by_cases hc5 : l0 = nI 60
  · have hM := e_ip hc5 hM
    refine e_lin (y := nI 60) (off := 107) (tgt := 108) hx hb dX1_joined_1 hc5 (by decide +kernel) (by decide +kernel) (by decide) ?_
    refine lv_iload_n hx hb dX1_joined_108 rfl (lv_at hl 1 rfl) ?_
    refine lv_iload_n hx hb dX1_joined_109 rfl (lv_at hl 2 rfl) ?_
    refine lv_icmp_ge (tgt := 117) hx hb dX1_joined_110 (by decide) (fun hc => ?_) (fun hc => ?_)
    · have hM := e_ip hc hM
      refine lv_iconst (v := nI 0) hx hb dX1_joined_117 (by decide) ?_
      obtain rfl := e_so hM
      exact e_iret E J dX1_joined_118
    · have hM := e_in hc hM
      refine lv_iconst (v := nI 1) hx hb dX1_joined_113 (by decide) ?_
      refine lv_goto (tgt := 118) hx hb dX1_joined_114 (by decide) ?_
      obtain rfl := e_so hM
      exact e_iret E J dX1_joined_118
  have hM := e_in hc5 hM
  by_cases hc6 : l0 = nI 61
  · have hM := e_ip hc6 hM
    refine e_lin (y := nI 61) (off := 118) (tgt := 119) hx hb dX1_joined_1 hc6 (by decide +kernel) (by decide +kernel) (by decide) ?_
    refine lv_iload_n hx hb dX1_joined_119 rfl (lv_at hl 1 rfl) ?_
    refine lv_iload_n hx hb dX1_joined_120 rfl (lv_at hl 2 rfl) ?_
    refine lv_icmp_ne (tgt := 128) hx hb dX1_joined_121 (by decide) (fun hc => ?_) (fun hc => ?_)
    · have hM := e_in hc hM
      refine lv_iconst (v := nI 0) hx hb dX1_joined_128 (by decide) ?_
      obtain rfl := e_so hM
      exact e_iret E J dX1_joined_129
    · have hM := e_ip hc hM
      refine lv_iconst (v := nI 1) hx hb dX1_joined_124 (by decide) ?_
      refine lv_goto (tgt := 129) hx hb dX1_joined_125 (by decide) ?_
      obtain rfl := e_so hM
      exact e_iret E J dX1_joined_129
  have hM := e_in hc6 hM
  by_cases hc7 : l0 = nI 62
  · have hM := e_ip hc7 hM
    refine e_lin (y := nI 62) (off := 129) (tgt := 130) hx hb dX1_joined_1 hc7 (by decide +kernel) (by decide +kernel) (by decide) ?_
    refine lv_iload_n hx hb dX1_joined_130 rfl (lv_at hl 1 rfl) ?_
    refine lv_iload_n hx hb dX1_joined_131 rfl (lv_at hl 2 rfl) ?_
    refine lv_icmp_le (tgt := 139) hx hb dX1_joined_132 (by decide) (fun hc => ?_) (fun hc => ?_)
    · have hM := e_ip hc hM
      refine lv_iconst (v := nI 0) hx hb dX1_joined_139 (by decide) ?_
      obtain rfl := e_so hM
      exact e_iret E J dX1_joined_140
    · have hM := e_in hc hM
      refine lv_iconst (v := nI 1) hx hb dX1_joined_135 (by decide) ?_
      refine lv_goto (tgt := 140) hx hb dX1_joined_136 (by decide) ?_
      obtain rfl := e_so hM
      exact e_iret E J dX1_joined_140
  have hM := e_in hc7 hM
  by_cases hc8 : l0 = nI 124
  · have hM := e_ip hc8 hM
    refine e_lin (y := nI 124) (off := 154) (tgt := 155) hx hb dX1_joined_1 hc8 (by decide +kernel) (by decide +kernel) (by decide) ?_
    refine lv_iload_n hx hb dX1_joined_155 rfl (lv_at hl 1 rfl) ?_
    refine lv_if_ne (tgt := 163) hx hb dX1_joined_156 (by decide) (fun hc => ?_) (fun hc => ?_)
    · have hM := e_in hc hM
      refine lv_iconst (v := nI 1) hx hb dX1_joined_163 (by decide) ?_
      refine lv_goto (tgt := 168) hx hb dX1_joined_164 (by decide) ?_
      obtain rfl := e_so hM
      exact e_iret E J dX1_joined_168
    · have hM := e_ip hc hM
      refine lv_iload_n hx hb dX1_joined_159 rfl (lv_at hl 2 rfl) ?_
      refine lv_if_eq (tgt := 167) hx hb dX1_joined_160 (by decide) (fun hc => ?_) (fun hc => ?_)
      · have hM := e_ip hc hM
        refine lv_iconst (v := nI 0) hx hb dX1_joined_167 (by decide) ?_
        obtain rfl := e_so hM
        exact e_iret E J dX1_joined_168
      · have hM := e_in hc hM
        refine lv_iconst (v := nI 1) hx hb dX1_joined_163 (by decide) ?_
        refine lv_goto (tgt := 168) hx hb dX1_joined_164 (by decide) ?_
        obtain rfl := e_so hM
        exact e_iret E J dX1_joined_168
  have hM := e_in hc8 hM
  refine lv_lookup (tgt := 169) hx hb dX1_joined_1 (by decide +kernel) (e_lout (List.forall_mem_cons.mpr ⟨fun e => hc0 (e_i32 (e.symm.trans (by decide))), List.forall_mem_cons.mpr ⟨fun e => hc1 (e_i32 (e.symm.trans (by decide))), List.forall_mem_cons.mpr ⟨fun e => hc2 (e_i32 (e.symm.trans (by decide))), List.forall_mem_cons.mpr ⟨fun e => hc3 (e_i32 (e.symm.trans (by decide))), List.forall_mem_cons.mpr ⟨fun e => hc4 (e_i32 (e.symm.trans (by decide))), List.forall_mem_cons.mpr ⟨fun e => hc5 (e_i32 (e.symm.trans (by decide))), List.forall_mem_cons.mpr ⟨fun e => hc6 (e_i32 (e.symm.trans (by decide))), List.forall_mem_cons.mpr ⟨fun e => hc7 (e_i32 (e.symm.trans (by decide))), List.forall_mem_cons.mpr ⟨fun e => hc8 (e_i32 (e.symm.trans (by decide))), fun _ h => absurd h List.not_mem_nil⟩⟩⟩⟩⟩⟩⟩⟩⟩)) (by decide) ?_
  refine lv_iconst (v := nI 0) hx hb dX1_joined_169 (by decide) ?_
  obtain rfl := e_so hM
  exact e_iret E J dX1_joined_170
set_option maxRecDepth 100000 in
set_option maxHeartbeats 4000000 in
theorem mX1_gives_b177 {p : Program} {l : Launch} {e : Env} {s : State} {m : MethodId} {args : Array Value} {below : List Frame} {meth : Method} {c : Code} {G : e_G} {res : (Int32 × e_H)} {k6 : Nat → Int32 → Int32 → Int32 → Nat → Int32 → Int32 → e_H → Option (Int32 × e_H)} (E : e_M G p s args m meth c cX1_gives 8 (some FieldType.int) RX1) (K6 : ∀ (l0 : Nat) (l1 : Int32) (l2 : Int32) (l3 : Int32) (l4 : Nat) (l5 : Int32) (l6 : Int32) (h : e_H), k6 l0 l1 l2 l3 l4 l5 l6 h = some res → ∀ (H : Heap) (locs : List Loc), e_J G s h H locs → ∀ (ls : Array Slot), lv_has ls 8 [(0, .ref (e_ad G l0)), (1, .int l1), (2, .int l2), (3, .int l3), (4, .ref (e_ad G l4)), (5, .int l5), (6, .int l6)] → W p l e (e_rm 1 22) s m args below meth c H locs 0 0 (MQ below (e_Q G res.2 (some (.int res.1))) args s 0 0 (e_A G)) (F0 m 6 ls [])) (l0 : Nat) (l1 : Int32) (l2 : Int32) (l3 : Int32) (l4 : Nat) (l5 : Int32) (l6 : Int32) (h : e_H) (hM : fX1_gives_b177 k6 l0 l1 l2 l3 l4 l5 l6 h = some res) {H : Heap} {locs : List Loc} (J : e_J G s h H locs) {ls : Array Slot} (hl : lv_has ls 8 [(0, .ref (e_ad G l0)), (1, .int l1), (2, .int l2), (3, .int l3), (4, .ref (e_ad G l4)), (5, .int l5), (6, .int l6)]) : W p l e (e_rm 1 22) s m args below meth c H locs 0 0 (MQ below (e_Q G res.2 (some (.int res.1))) args s 0 0 (e_A G)) (F0 m 177 ls []) := by
  obtain ⟨hx, hb, hr, hml, hown, hts, hlocks, hES, hbs⟩ := id E
  unfold fX1_gives_b177 at hM
  refine lv_iinc (v := (l6 + (nI 1))) (lv' := [(6, .int (l6 + (nI 1))), (0, .ref (e_ad G l0)), (1, .int l1), (2, .int l2), (3, .int l3), (4, .ref (e_ad G l4)), (5, .int l5)]) hx hb dX1_gives_177 hl (k := 6) rfl rfl (by decide) rfl (fun ls hl => ?_)
  refine lv_goto (tgt := 6) hx hb dX1_gives_180 (by decide) ?_
  exact K6 l0 l1 l2 l3 l4 l5 (l6 + (nI 1)) h hM _ _ J _ (lv_sub hl [1, 2, 3, 4, 5, 6, 0] rfl)
set_option maxRecDepth 100000 in
set_option maxHeartbeats 4000000 in
theorem mX1_gives_b129 {p : Program} {l : Launch} {e : Env} {s : State} {m : MethodId} {args : Array Value} {below : List Frame} {meth : Method} {c : Code} {G : e_G} {res : (Int32 × e_H)} {k6 : Nat → Int32 → Int32 → Int32 → Nat → Int32 → Int32 → e_H → Option (Int32 × e_H)} (E : e_M G p s args m meth c cX1_gives 8 (some FieldType.int) RX1) (K6 : ∀ (l0 : Nat) (l1 : Int32) (l2 : Int32) (l3 : Int32) (l4 : Nat) (l5 : Int32) (l6 : Int32) (h : e_H), k6 l0 l1 l2 l3 l4 l5 l6 h = some res → ∀ (H : Heap) (locs : List Loc), e_J G s h H locs → ∀ (ls : Array Slot), lv_has ls 8 [(0, .ref (e_ad G l0)), (1, .int l1), (2, .int l2), (3, .int l3), (4, .ref (e_ad G l4)), (5, .int l5), (6, .int l6)] → W p l e (e_rm 1 22) s m args below meth c H locs 0 0 (MQ below (e_Q G res.2 (some (.int res.1))) args s 0 0 (e_A G)) (F0 m 6 ls [])) (l0 : Nat) (l1 : Int32) (l2 : Int32) (l3 : Int32) (l4 : Nat) (l5 : Int32) (l6 : Int32) (t0 : Int32) (t1 : Int32) (t2 : Nat) (h : e_H) (hM : fX1_gives_b129 k6 l0 l1 l2 l3 l4 l5 l6 t0 t1 t2 h = some res) {H : Heap} {locs : List Loc} (J : e_J G s h H locs) {ls : Array Slot} (hl : lv_has ls 8 [(0, .ref (e_ad G l0)), (1, .int l1), (2, .int l2), (3, .int l3), (4, .ref (e_ad G l4)), (5, .int l5), (6, .int l6)]) : W p l e (e_rm 1 22) s m args below meth c H locs 0 0 (MQ below (e_Q G res.2 (some (.int res.1))) args s 0 0 (e_A G)) (F0 m 129 ls [.int t0, .int t1, .ref (e_ad G t2)]) := by
  obtain ⟨hx, hb, hr, hml, hown, hts, hlocks, hES, hbs⟩ := id E
  unfold fX1_gives_b129 at hM
  obtain ⟨h1, hv, hM⟩ := e_bs hM
  refine e_iast E J hv dX1_gives_129 (fun H locs J => ?_)
  refine lv_goto (tgt := 177) hx hb dX1_gives_130 (by decide) ?_
  exact mX1_gives_b177 E K6 l0 l1 l2 l3 l4 l5 l6 h1 hM J (lv_sub hl [0, 1, 2, 3, 4, 5, 6] rfl)
set_option maxRecDepth 100000 in
set_option maxHeartbeats 4000000 in
theorem mX1_gives_b78 {p : Program} {l : Launch} {e : Env} {s : State} {m : MethodId} {args : Array Value} {below : List Frame} {meth : Method} {c : Code} {G : e_G} {res : (Int32 × e_H)} {k6 : Nat → Int32 → Int32 → Int32 → Nat → Int32 → Int32 → e_H → Option (Int32 × e_H)} (E : e_M G p s args m meth c cX1_gives 8 (some FieldType.int) RX1) (K6 : ∀ (l0 : Nat) (l1 : Int32) (l2 : Int32) (l3 : Int32) (l4 : Nat) (l5 : Int32) (l6 : Int32) (h : e_H), k6 l0 l1 l2 l3 l4 l5 l6 h = some res → ∀ (H : Heap) (locs : List Loc), e_J G s h H locs → ∀ (ls : Array Slot), lv_has ls 8 [(0, .ref (e_ad G l0)), (1, .int l1), (2, .int l2), (3, .int l3), (4, .ref (e_ad G l4)), (5, .int l5), (6, .int l6)] → W p l e (e_rm 1 22) s m args below meth c H locs 0 0 (MQ below (e_Q G res.2 (some (.int res.1))) args s 0 0 (e_A G)) (F0 m 6 ls [])) (l0 : Nat) (l1 : Int32) (l2 : Int32) (l3 : Int32) (l4 : Nat) (l5 : Int32) (l6 : Int32) (t0 : Int32) (t1 : Int32) (t2 : Nat) (h : e_H) (hM : fX1_gives_b78 k6 l0 l1 l2 l3 l4 l5 l6 t0 t1 t2 h = some res) {H : Heap} {locs : List Loc} (J : e_J G s h H locs) {ls : Array Slot} (hl : lv_has ls 8 [(0, .ref (e_ad G l0)), (1, .int l1), (2, .int l2), (3, .int l3), (4, .ref (e_ad G l4)), (5, .int l5), (6, .int l6)]) : W p l e (e_rm 1 22) s m args below meth c H locs 0 0 (MQ below (e_Q G res.2 (some (.int res.1))) args s 0 0 (e_A G)) (F0 m 78 ls [.int t0, .int t1, .ref (e_ad G t2)]) := by
  obtain ⟨hx, hb, hr, hml, hown, hts, hlocks, hES, hbs⟩ := id E
  unfold fX1_gives_b78 at hM
  obtain ⟨h1, hv, hM⟩ := e_bs hM
  refine e_iast E J hv dX1_gives_78 (fun H locs J => ?_)
  refine lv_iinc (v := (l5 + (nI 1))) (lv' := [(5, .int (l5 + (nI 1))), (0, .ref (e_ad G l0)), (1, .int l1), (2, .int l2), (3, .int l3), (4, .ref (e_ad G l4)), (6, .int l6)]) hx hb dX1_gives_79 hl (k := 5) rfl rfl (by decide) rfl (fun ls hl => ?_)
  refine lv_goto (tgt := 177) hx hb dX1_gives_82 (by decide) ?_
  exact mX1_gives_b177 E K6 l0 l1 l2 l3 l4 (l5 + (nI 1)) l6 h1 hM J (lv_sub hl [1, 2, 3, 4, 5, 0, 6] rfl)
set_option maxRecDepth 100000 in
set_option maxHeartbeats 4000000 in
theorem mX1_gives_b6 {p : Program} {l : Launch} {e : Env} {s : State} {m : MethodId} {args : Array Value} {below : List Frame} {meth : Method} {c : Code} {G : e_G} {res : (Int32 × e_H)} {k6 : Nat → Int32 → Int32 → Int32 → Nat → Int32 → Int32 → e_H → Option (Int32 × e_H)} (E : e_M G p s args m meth c cX1_gives 8 (some FieldType.int) RX1) (K6 : ∀ (l0 : Nat) (l1 : Int32) (l2 : Int32) (l3 : Int32) (l4 : Nat) (l5 : Int32) (l6 : Int32) (h : e_H), k6 l0 l1 l2 l3 l4 l5 l6 h = some res → ∀ (H : Heap) (locs : List Loc), e_J G s h H locs → ∀ (ls : Array Slot), lv_has ls 8 [(0, .ref (e_ad G l0)), (1, .int l1), (2, .int l2), (3, .int l3), (4, .ref (e_ad G l4)), (5, .int l5), (6, .int l6)] → W p l e (e_rm 1 22) s m args below meth c H locs 0 0 (MQ below (e_Q G res.2 (some (.int res.1))) args s 0 0 (e_A G)) (F0 m 6 ls [])) (l0 : Nat) (l1 : Int32) (l2 : Int32) (l3 : Int32) (l4 : Nat) (l5 : Int32) (l6 : Int32) (h : e_H) (hM : fX1_gives_b6 k6 l0 l1 l2 l3 l4 l5 l6 h = some res) {H : Heap} {locs : List Loc} (J : e_J G s h H locs) {ls : Array Slot} (hl : lv_has ls 8 [(0, .ref (e_ad G l0)), (1, .int l1), (2, .int l2), (3, .int l3), (4, .ref (e_ad G l4)), (5, .int l5), (6, .int l6)]) : W p l e (e_rm 1 22) s m args below meth c H locs 0 0 (MQ below (e_Q G res.2 (some (.int res.1))) args s 0 0 (e_A G)) (F0 m 6 ls []) := by
  obtain ⟨hx, hb, hr, hml, hown, hts, hlocks, hES, hbs⟩ := id E
  unfold fX1_gives_b6 at hM
  refine lv_iload hx hb dX1_gives_6 (lv_at hl 6 rfl) ?_
  refine lv_aload_n hx hb dX1_gives_8 rfl (lv_at hl 0 rfl) ?_
  obtain ⟨v1, hv, hM⟩ := e_bs hM
  refine e_getR (C := RX1) (T := TX1) (N := 3) E J hv rfl inX1 (by decide) q_4_110 dX1_gives_9 ?_
  rcases v1 with _ | a2
  · have hM := e_on0 hM
    refine W.eq (g2 := F0 m 12 ls [.null, .int l6]) rfl ?_
    exact e_no hM
  · have hM := e_on1 hM
    refine W.eq (g2 := F0 m 12 ls [.ref (e_ad G a2), .int l6]) rfl ?_
    obtain ⟨v3, hv, hM⟩ := e_bs hM
    refine e_alen E J hv rfl rfl dX1_gives_12 ?_
    refine lv_icmp_ge (tgt := 183) hx hb dX1_gives_13 (by decide) (fun hc => ?_) (fun hc => ?_)
    · have hM := e_ip hc hM
      refine lv_iload hx hb dX1_gives_183 (lv_at hl 5 rfl) ?_
      refine lv_iconst (v := nI 1) hx hb dX1_gives_185 (by decide) ?_
      refine lv_icmp_ne (tgt := 202) hx hb dX1_gives_186 (by decide) (fun hc => ?_) (fun hc => ?_)
      · have hM := e_in hc hM
        refine lv_iconst (v := nI 0) hx hb dX1_gives_202 (by decide) ?_
        obtain rfl := e_so hM
        exact e_iret E J dX1_gives_203
      · have hM := e_ip hc hM
        refine lv_aload hx hb dX1_gives_189 (lv_at hl 4 rfl) ?_
        obtain ⟨v4, hv, hM⟩ := e_bs hM
        refine e_alen E J hv rfl rfl dX1_gives_191 ?_
        refine lv_if_le (tgt := 202) hx hb dX1_gives_192 (by decide) (fun hc => ?_) (fun hc => ?_)
        · have hM := e_ip hc hM
          refine lv_iconst (v := nI 0) hx hb dX1_gives_202 (by decide) ?_
          obtain rfl := e_so hM
          exact e_iret E J dX1_gives_203
        · have hM := e_in hc hM
          refine lv_aload hx hb dX1_gives_195 (lv_at hl 4 rfl) ?_
          refine lv_iconst (v := nI 0) hx hb dX1_gives_197 (by decide) ?_
          obtain ⟨v5, hv, hM⟩ := e_bs hM
          refine e_iald E J hv dX1_gives_198 ?_
          refine lv_goto (tgt := 203) hx hb dX1_gives_199 (by decide) ?_
          obtain rfl := e_so hM
          exact e_iret E J dX1_gives_203
    · have hM := e_in hc hM
      refine lv_aload_n hx hb dX1_gives_16 rfl (lv_at hl 0 rfl) ?_
      obtain ⟨v6, hv, hM⟩ := e_bs hM
      refine e_getR (C := RX1) (T := TX1) (N := 3) E J hv rfl inX1 (by decide) q_4_110 dX1_gives_17 ?_
      rcases v6 with _ | a7
      · have hM := e_on0 hM
        refine W.eq (g2 := F0 m 20 ls [.null]) rfl ?_
        refine lv_iload hx hb dX1_gives_20 (lv_at hl 6 rfl) ?_
        exact e_no hM
      · have hM := e_on1 hM
        refine W.eq (g2 := F0 m 20 ls [.ref (e_ad G a7)]) rfl ?_
        refine lv_iload hx hb dX1_gives_20 (lv_at hl 6 rfl) ?_
        obtain ⟨v8, hv, hM⟩ := e_bs hM
        refine e_iald E J hv dX1_gives_22 ?_
        refine lv_istore (lv' := [(7, .int v8), (0, .ref (e_ad G l0)), (1, .int l1), (2, .int l2), (3, .int l3), (4, .ref (e_ad G l4)), (5, .int l5), (6, .int l6)]) hx hb dX1_gives_23 hl (by decide) rfl (fun ls hl => ?_)
        refine lv_iload hx hb dX1_gives_25 (lv_at hl 0 rfl) ?_
        refine lv_bipush (v := -3) hx hb dX1_gives_27 (by decide) ?_
        refine lv_icmp_lt (tgt := 85) hx hb dX1_gives_29 (by decide) (fun hc => ?_) (fun hc => ?_)
        · have hM := e_ip hc hM
          refine lv_iload hx hb dX1_gives_85 (lv_at hl 0 rfl) ?_
          refine lv_bipush (v := -33) hx hb dX1_gives_87 (by decide) ?_
          refine lv_icmp_ne (tgt := 133) hx hb dX1_gives_89 (by decide) (fun hc => ?_) (fun hc => ?_)
          · have hM := e_in hc hM
            refine lv_iload hx hb dX1_gives_133 (lv_at hl 6 rfl) ?_
            refine lv_iconst (v := nI 2) hx hb dX1_gives_135 (by decide) ?_
            refine lv_icmp_lt (tgt := 147) hx hb dX1_gives_136 (by decide) (fun hc => ?_) (fun hc => ?_)
            · have hM := e_ip hc hM
              refine lv_iconst (v := nI 0) hx hb dX1_gives_147 (by decide) ?_
              obtain rfl := e_so hM
              exact e_iret E J dX1_gives_148
            · have hM := e_in hc hM
              refine lv_iload hx hb dX1_gives_139 (lv_at hl 6 rfl) ?_
              refine lv_aload hx hb dX1_gives_141 (lv_at hl 5 rfl) ?_
              obtain ⟨v11, hv, hM⟩ := e_bs hM
              refine e_alen E J hv rfl rfl dX1_gives_143 ?_
              refine lv_icmp_le (tgt := 149) hx hb dX1_gives_144 (by decide) (fun hc => ?_) (fun hc => ?_)
              · have hM := e_ip hc hM
                refine lv_iinc (v := (l5 + (-1 : Int32))) (lv' := [(5, .int (l5 + (-1 : Int32))), (7, .int v8), (0, .ref (e_ad G l0)), (1, .int l1), (2, .int l2), (3, .int l3), (4, .ref (e_ad G l4)), (6, .int l6)]) hx hb dX1_gives_149 hl (k := 6) rfl rfl (by decide) rfl (fun ls hl => ?_)
                refine lv_aload hx hb dX1_gives_152 (lv_at hl 6 rfl) ?_
                refine lv_iload hx hb dX1_gives_154 (lv_at hl 0 rfl) ?_
                refine lv_iconst (v := nI 1) hx hb dX1_gives_156 (by decide) ?_
                refine lv_isub hx hb dX1_gives_157 ?_
                refine lv_iload hx hb dX1_gives_158 (lv_at hl 1 rfl) ?_
                refine lv_ineg hx hb dX1_gives_160 ?_
                refine lv_aload hx hb dX1_gives_161 (lv_at hl 6 rfl) ?_
                refine lv_iload hx hb dX1_gives_163 (lv_at hl 0 rfl) ?_
                refine lv_iconst (v := nI 1) hx hb dX1_gives_165 (by decide) ?_
                refine lv_isub hx hb dX1_gives_166 ?_
                obtain ⟨v12, hv, hM⟩ := e_bs hM
                refine e_iald E J hv dX1_gives_167 ?_
                refine lv_aload hx hb dX1_gives_168 (lv_at hl 6 rfl) ?_
                refine lv_iload hx hb dX1_gives_170 (lv_at hl 0 rfl) ?_
                obtain ⟨v13, hv, hM⟩ := e_bs hM
                refine e_iald E J hv dX1_gives_172 ?_
                obtain ⟨v14, hv, hM⟩ := e_bs hM
                refine e_callS (As := [.int (-v8), .int v12, .int v13]) (rest := [.int ((l5 + (-1 : Int32)) - (nI 1)), .ref (e_ad G l4)]) (n := 3) E J (mX1_joined (l := l) (G := G) (-v8) v12 v13 h _ hv) q_2_69 q_2_70 q_1_11 q_2_71 (by decide +kernel) rfl ⟨Nat.le_of_ble_eq_true rfl, Nat.le_of_ble_eq_true rfl⟩ (st0 := [.int v13, .int v12, .int (-v8), .int ((l5 + (-1 : Int32)) - (nI 1)), .ref (e_ad G l4)]) (st1 := [.int v14, .int ((l5 + (-1 : Int32)) - (nI 1)), .ref (e_ad G l4)]) rfl rfl hl.1 (Nat.le_of_ble_eq_true rfl) dX1_gives_173 ⟨Nat.le_refl _, Nat.le_refl _⟩ (fun H locs J => ?_)
                obtain ⟨h15, hv, hM⟩ := e_bs hM
                refine e_iast E J hv dX1_gives_176 (fun H locs J => ?_)
                exact mX1_gives_b177 E K6 l0 l1 l2 l3 l4 (l5 + (-1 : Int32)) l6 h15 hM J (lv_sub hl [2, 3, 4, 5, 6, 0, 7] rfl)
              · have hM := e_in hc hM
                refine lv_iconst (v := nI 0) hx hb dX1_gives_147 (by decide) ?_
                obtain rfl := e_so hM
                exact e_iret E J dX1_gives_148
          · have hM := e_ip hc hM
            refine lv_iload hx hb dX1_gives_92 (lv_at hl 6 rfl) ?_
            refine lv_iconst (v := nI 1) hx hb dX1_gives_94 (by decide) ?_
            refine lv_icmp_lt (tgt := 106) hx hb dX1_gives_95 (by decide) (fun hc => ?_) (fun hc => ?_)
            · have hM := e_ip hc hM
              refine lv_iconst (v := nI 0) hx hb dX1_gives_106 (by decide) ?_
              obtain rfl := e_so hM
              exact e_iret E J dX1_gives_107
            · have hM := e_in hc hM
              refine lv_iload hx hb dX1_gives_98 (lv_at hl 6 rfl) ?_
              refine lv_aload hx hb dX1_gives_100 (lv_at hl 5 rfl) ?_
              obtain ⟨v9, hv, hM⟩ := e_bs hM
              refine e_alen E J hv rfl rfl dX1_gives_102 ?_
              refine lv_icmp_le (tgt := 108) hx hb dX1_gives_103 (by decide) (fun hc => ?_) (fun hc => ?_)
              · have hM := e_ip hc hM
                refine lv_aload hx hb dX1_gives_108 (lv_at hl 5 rfl) ?_
                refine lv_iload hx hb dX1_gives_110 (lv_at hl 6 rfl) ?_
                refine lv_iconst (v := nI 1) hx hb dX1_gives_112 (by decide) ?_
                refine lv_isub hx hb dX1_gives_113 ?_
                refine lv_aload hx hb dX1_gives_114 (lv_at hl 5 rfl) ?_
                refine lv_iload hx hb dX1_gives_116 (lv_at hl 6 rfl) ?_
                refine lv_iconst (v := nI 1) hx hb dX1_gives_118 (by decide) ?_
                refine lv_isub hx hb dX1_gives_119 ?_
                obtain ⟨v10, hv, hM⟩ := e_bs hM
                refine e_iald E J hv dX1_gives_120 ?_
                refine lv_if_ne (tgt := 128) hx hb dX1_gives_121 (by decide) (fun hc => ?_) (fun hc => ?_)
                · have hM := e_in hc hM
                  refine lv_iconst (v := nI 0) hx hb dX1_gives_128 (by decide) ?_
                  exact mX1_gives_b129 E K6 l0 l1 l2 l3 l4 l5 l6 (nI 0) (l5 - (nI 1)) l4 h hM J (lv_sub hl [1, 2, 3, 4, 5, 6, 7] rfl)
                · have hM := e_ip hc hM
                  refine lv_iconst (v := nI 1) hx hb dX1_gives_124 (by decide) ?_
                  refine lv_goto (tgt := 129) hx hb dX1_gives_125 (by decide) ?_
                  exact mX1_gives_b129 E K6 l0 l1 l2 l3 l4 l5 l6 (nI 1) (l5 - (nI 1)) l4 h hM J (lv_sub hl [1, 2, 3, 4, 5, 6, 7] rfl)
              · have hM := e_in hc hM
                refine lv_iconst (v := nI 0) hx hb dX1_gives_106 (by decide) ?_
                obtain rfl := e_so hM
                exact e_iret E J dX1_gives_107
        · have hM := e_in hc hM
          refine lv_iload hx hb dX1_gives_32 (lv_at hl 6 rfl) ?_
          refine lv_aload hx hb dX1_gives_34 (lv_at hl 5 rfl) ?_
          obtain ⟨v16, hv, hM⟩ := e_bs hM
          refine e_alen E J hv rfl rfl dX1_gives_36 ?_
          refine lv_icmp_lt (tgt := 42) hx hb dX1_gives_37 (by decide) (fun hc => ?_) (fun hc => ?_)
          · have hM := e_ip hc hM
            refine lv_aload hx hb dX1_gives_42 (lv_at hl 5 rfl) ?_
            refine lv_iload hx hb dX1_gives_44 (lv_at hl 6 rfl) ?_
            refine lv_iload hx hb dX1_gives_46 (lv_at hl 0 rfl) ?_
            refine lv_if_lt (tgt := 56) hx hb dX1_gives_48 (by decide) (fun hc => ?_) (fun hc => ?_)
            · have hM := e_ip hc hM
              refine lv_iload hx hb dX1_gives_56 (lv_at hl 0 rfl) ?_
              refine lv_iconst (v := -1) hx hb dX1_gives_58 (by decide) ?_
              refine lv_icmp_ne (tgt := 66) hx hb dX1_gives_59 (by decide) (fun hc => ?_) (fun hc => ?_)
              · have hM := e_in hc hM
                refine lv_iload hx hb dX1_gives_66 (lv_at hl 0 rfl) ?_
                refine lv_bipush (v := -2) hx hb dX1_gives_68 (by decide) ?_
                refine lv_icmp_ne (tgt := 77) hx hb dX1_gives_70 (by decide) (fun hc => ?_) (fun hc => ?_)
                · have hM := e_in hc hM
                  refine lv_iload_n hx hb dX1_gives_77 rfl (lv_at hl 4 rfl) ?_
                  exact mX1_gives_b78 E K6 l0 l1 l2 l3 l4 l5 l6 l3 l5 l4 h hM J (lv_sub hl [1, 2, 3, 4, 5, 6, 7] rfl)
                · have hM := e_ip hc hM
                  refine lv_iload_n hx hb dX1_gives_73 rfl (lv_at hl 3 rfl) ?_
                  refine lv_goto (tgt := 78) hx hb dX1_gives_74 (by decide) ?_
                  exact mX1_gives_b78 E K6 l0 l1 l2 l3 l4 l5 l6 l2 l5 l4 h hM J (lv_sub hl [1, 2, 3, 4, 5, 6, 7] rfl)
              · have hM := e_ip hc hM
                refine lv_iload_n hx hb dX1_gives_62 rfl (lv_at hl 2 rfl) ?_
                refine lv_goto (tgt := 78) hx hb dX1_gives_63 (by decide) ?_
                exact mX1_gives_b78 E K6 l0 l1 l2 l3 l4 l5 l6 l1 l5 l4 h hM J (lv_sub hl [1, 2, 3, 4, 5, 6, 7] rfl)
            · have hM := e_in hc hM
              refine lv_iload hx hb dX1_gives_51 (lv_at hl 0 rfl) ?_
              refine lv_goto (tgt := 78) hx hb dX1_gives_53 (by decide) ?_
              exact mX1_gives_b78 E K6 l0 l1 l2 l3 l4 l5 l6 v8 l5 l4 h hM J (lv_sub hl [1, 2, 3, 4, 5, 6, 7] rfl)
          · have hM := e_in hc hM
            refine lv_iconst (v := nI 0) hx hb dX1_gives_40 (by decide) ?_
            obtain rfl := e_so hM
            exact e_iret E J dX1_gives_41
set_option maxRecDepth 100000 in
set_option maxHeartbeats 4000000 in
theorem mX1_gives_L6 {p : Program} {l : Launch} {e : Env} {s : State} {m : MethodId} {args : Array Value} {below : List Frame} {meth : Method} {c : Code} {G : e_G} {res : (Int32 × e_H)} (E : e_M G p s args m meth c cX1_gives 8 (some FieldType.int) RX1) (n : Nat) (l0 : Nat) (l1 : Int32) (l2 : Int32) (l3 : Int32) (l4 : Nat) (l5 : Int32) (l6 : Int32) (h : e_H) (hM : fX1_gives_L6 n l0 l1 l2 l3 l4 l5 l6 h = some res) {H : Heap} {locs : List Loc} (J : e_J G s h H locs) {ls : Array Slot} (hl : lv_has ls 8 [(0, .ref (e_ad G l0)), (1, .int l1), (2, .int l2), (3, .int l3), (4, .ref (e_ad G l4)), (5, .int l5), (6, .int l6)]) : W p l e (e_rm 1 22) s m args below meth c H locs 0 0 (MQ below (e_Q G res.2 (some (.int res.1))) args s 0 0 (e_A G)) (F0 m 6 ls []) := by
  induction n generalizing l0 l1 l2 l3 l4 l5 l6 h H locs ls with
  | zero => exact e_no hM
  | succ n ih => exact mX1_gives_b6 (k6 := (fX1_gives_L6 n)) E   (fun l0 l1 l2 l3 l4 l5 l6 h hM H locs J ls hl => ih l0 l1 l2 l3 l4 l5 l6 h hM J hl) l0 l1 l2 l3 l4 l5 l6 h hM J hl
set_option maxRecDepth 100000 in
set_option maxHeartbeats 4000000 in
theorem mX1_gives {l : Launch} {G : e_G} (l0 : Nat) (l1 : Int32) (l2 : Int32) (l3 : Int32) (l4 : Nat) (h : e_H) (res : (Int32 × e_H)) (hM : fX1_gives l0 l1 l2 l3 l4 h = some res) : Met l yX1_gives (e_W yX1_gives cX1_gives 8 (some FieldType.int)) (e_rm 1 22) (e_Pc G h [.ref (e_ad G l0), .int l1, .int l2, .int l3, .ref (e_ad G l4)]) (e_Q G res.2 (some (.int res.1))) 0 0 (e_A G) := by
  refine Met.ofW (cc := cX1_gives) (maxL := 8) (ret := (some FieldType.int)) (by decide) rfl ?_
  intro p e s m args below meth c s₁ B hml hv
  obtain ⟨rfl, hS, hP⟩ := hv
  have E := e_enter (own := RX1) (ret := (some FieldType.int)) B hml rfl hS hP
  have J : e_J G s h s.heap [] := ⟨hP, va_S.rf⟩
  have hl := lv_entry ([.ref (e_ad G l0), .int l1, .int l2, .int l3, .ref (e_ad G l4)]) (n := 8) (Nat.le_of_ble_eq_true rfl)
  rw [lg_entry_eq]
  generalize (lg_sl ([.ref (e_ad G l0), .int l1, .int l2, .int l3, .ref (e_ad G l4)]) ++ List.replicate (8 - (lg_sl ([.ref (e_ad G l0), .int l1, .int l2, .int l3, .ref (e_ad G l4)])).length) Slot.unset).toArray = ls at hl ⊢
  have hl : lv_has ls 8 [(0, .ref (e_ad G l0)), (1, .int l1), (2, .int l2), (3, .int l3), (4, .ref (e_ad G l4))] := hl
  obtain ⟨hx, hb, hr, hml, hown, hts, hlocks, hES, hbs⟩ := id E
  unfold fX1_gives at hM
  obtain ⟨fs_, hk_, hM⟩ := e_bs hM
  refine lv_iconst (v := nI 0) hx hb dX1_gives_0 (by decide) ?_
  refine lv_istore (lv' := [(5, .int (nI 0)), (0, .ref (e_ad G l0)), (1, .int l1), (2, .int l2), (3, .int l3), (4, .ref (e_ad G l4))]) hx hb dX1_gives_1 hl (by decide) rfl (fun ls hl => ?_)
  refine lv_iconst (v := nI 0) hx hb dX1_gives_3 (by decide) ?_
  refine lv_istore (lv' := [(6, .int (nI 0)), (5, .int (nI 0)), (0, .ref (e_ad G l0)), (1, .int l1), (2, .int l2), (3, .int l3), (4, .ref (e_ad G l4))]) hx hb dX1_gives_4 hl (by decide) rfl (fun ls hl => ?_)
  exact mX1_gives_L6 E 200 l0 l1 l2 l3 l4 (nI 0) (nI 0) h hM J (lv_sub hl [2, 3, 4, 5, 6, 1, 0] rfl)
set_option maxRecDepth 100000 in
set_option maxHeartbeats 4000000 in
theorem mX7_lawGives {l : Launch} {G : e_G} (l0 : Nat) (l1 : Int32) (l2 : Int32) (l3 : Int32) (l4 : Int32) (l5 : Int32) (h : e_H) (res : (Int32 × e_H)) (hM : fX7_lawGives l0 l1 l2 l3 l4 l5 h = some res) : Met l yX7_lawGives (e_W yX7_lawGives cX7_lawGives 7 (some FieldType.int)) (e_rm 2 49) (e_Pc G h [.ref (e_ad G l0), .int l1, .int l2, .int l3, .int l4, .int l5]) (e_Q G res.2 (some (.int res.1))) 0 0 (e_A G) := by
  refine Met.ofW (cc := cX7_lawGives) (maxL := 7) (ret := (some FieldType.int)) (by decide) rfl ?_
  intro p e s m args below meth c s₁ B hml hv
  obtain ⟨rfl, hS, hP⟩ := hv
  have E := e_enter (own := RX7) (ret := (some FieldType.int)) B hml rfl hS hP
  have J : e_J G s h s.heap [] := ⟨hP, va_S.rf⟩
  have hl := lv_entry ([.ref (e_ad G l0), .int l1, .int l2, .int l3, .int l4, .int l5]) (n := 7) (Nat.le_of_ble_eq_true rfl)
  rw [lg_entry_eq]
  generalize (lg_sl ([.ref (e_ad G l0), .int l1, .int l2, .int l3, .int l4, .int l5]) ++ List.replicate (7 - (lg_sl ([.ref (e_ad G l0), .int l1, .int l2, .int l3, .int l4, .int l5])).length) Slot.unset).toArray = ls at hl ⊢
  have hl : lv_has ls 7 [(0, .ref (e_ad G l0)), (1, .int l1), (2, .int l2), (3, .int l3), (4, .int l4), (5, .int l5)] := hl
  obtain ⟨hx, hb, hr, hml, hown, hts, hlocks, hES, hbs⟩ := id E
  unfold fX7_lawGives at hM
  obtain ⟨fs_, hk_, hM⟩ := e_bs hM
  refine lv_aload_n hx hb dX7_lawGives_0 rfl (lv_at hl 0 rfl) ?_
  refine lv_aload_n hx hb dX7_lawGives_1 rfl (lv_at hl 0 rfl) ?_
  refine lv_iload_n hx hb dX7_lawGives_2 rfl (lv_at hl 1 rfl) ?_
  obtain ⟨v1, hv, hM⟩ := e_bs hM
  obtain ⟨fs_, hk, -⟩ := e_bs hv
  refine e_callV (ci := 7) (As := [.int l1]) (rest := [.ref (e_ad G l0)]) (n := 1) E J hk rfl (mX7_lastLawOf (l := l) (G := G) l0 l1 h _ hv) q_2_57 q_2_58 q_2_59 q_1_2 q_2_60 (by decide +kernel) rfl ⟨Nat.le_of_ble_eq_true rfl, Nat.le_of_ble_eq_true rfl⟩ (st0 := [.int l1, .ref (e_ad G l0), .ref (e_ad G l0)]) (st1 := [.int v1, .ref (e_ad G l0)]) rfl rfl hl.1 (Nat.le_of_ble_eq_true rfl) dX7_lawGives_3 ⟨Nat.le_refl _, Nat.le_refl _⟩ (fun H locs J => ?_)
  obtain ⟨v2, hv, hM⟩ := e_bs hM
  obtain ⟨fs_, hk, -⟩ := e_bs hv
  refine e_callV (ci := 7) (As := [.int v1]) (rest := []) (n := 1) E J hk rfl (mX7_lawAt (l := l) (G := G) l0 v1 h _ hv) q_2_61 q_2_62 q_2_63 q_1_2 q_2_64 (by decide +kernel) rfl ⟨Nat.le_of_ble_eq_true rfl, Nat.le_of_ble_eq_true rfl⟩ (st0 := [.int v1, .ref (e_ad G l0)]) (st1 := [e_r G v2]) rfl rfl hl.1 (Nat.le_of_ble_eq_true rfl) dX7_lawGives_6 ⟨Nat.le_refl _, Nat.le_refl _⟩ (fun H locs J => ?_)
  rcases v2 with _ | a3
  · have hM := e_on0 hM
    refine W.eq (g2 := F0 m 9 ls [.null]) rfl ?_
    refine lv_astoreN (lv' := [(6, .null), (0, .ref (e_ad G l0)), (1, .int l1), (2, .int l2), (3, .int l3), (4, .int l4), (5, .int l5)]) hx hb dX7_lawGives_9 hl (by decide) rfl (fun ls hl => ?_)
    refine lv_aloadN hx hb dX7_lawGives_11 (lv_at hl 0 rfl) ?_
    refine lv_ifnonnullN hx hb dX7_lawGives_13 ?_
    refine lv_iload hx hb dX7_lawGives_16 (lv_at hl 6 rfl) ?_
    refine lv_goto (tgt := 34) hx hb dX7_lawGives_18 (by decide) ?_
    obtain rfl := e_so hM
    exact e_iret E J dX7_lawGives_34
  · have hM := e_on1 hM
    refine W.eq (g2 := F0 m 9 ls [.ref (e_ad G a3)]) rfl ?_
    refine lv_astore (lv' := [(6, .ref (e_ad G a3)), (0, .ref (e_ad G l0)), (1, .int l1), (2, .int l2), (3, .int l3), (4, .int l4), (5, .int l5)]) hx hb dX7_lawGives_9 hl (by decide) rfl (fun ls hl => ?_)
    refine lv_aload hx hb dX7_lawGives_11 (lv_at hl 0 rfl) ?_
    refine lv_ifnonnull (tgt := 21) hx hb dX7_lawGives_13 (by decide) ?_
    refine lv_aload hx hb dX7_lawGives_21 (lv_at hl 0 rfl) ?_
    refine lv_iload_n hx hb dX7_lawGives_23 rfl (lv_at hl 3 rfl) ?_
    refine lv_iload_n hx hb dX7_lawGives_24 rfl (lv_at hl 4 rfl) ?_
    refine lv_iload hx hb dX7_lawGives_25 (lv_at hl 5 rfl) ?_
    refine lv_aload_n hx hb dX7_lawGives_27 rfl (lv_at hl 1 rfl) ?_
    obtain ⟨v4, hv, hM⟩ := e_bs hM
    refine e_getR (C := RX7) (T := TX7) (N := 6) E J hv rfl inX7 (by decide) q_1_59 dX7_lawGives_28 ?_
    rcases v4 with _ | a5
    · have hM := e_on0 hM
      refine W.eq (g2 := F0 m 31 ls [.null, .int l4, .int l3, .int l2, .ref (e_ad G a3)]) rfl ?_
      exact e_no hM
    · have hM := e_on1 hM
      refine W.eq (g2 := F0 m 31 ls [.ref (e_ad G a5), .int l4, .int l3, .int l2, .ref (e_ad G a3)]) rfl ?_
      obtain ⟨p6, hv, hM⟩ := e_bs hM
      obtain ⟨fs_, hk, -⟩ := e_bs hv
      refine e_callV (ci := 1) (As := [.int l2, .int l3, .int l4, .ref (e_ad G a5)]) (rest := []) (n := 4) E J hk rfl (mX1_gives (l := l) (G := G) a3 l2 l3 l4 a5 h _ hv) q_2_65 q_2_66 q_2_67 q_1_11 q_2_68 (by decide +kernel) rfl ⟨Nat.le_of_ble_eq_true rfl, Nat.le_of_ble_eq_true rfl⟩ (st0 := [.ref (e_ad G a5), .int l4, .int l3, .int l2, .ref (e_ad G a3)]) (st1 := [.int p6.1]) rfl rfl hl.1 (Nat.le_of_ble_eq_true rfl) dX7_lawGives_31 ⟨Nat.le_refl _, Nat.le_refl _⟩ (fun H locs J => ?_)
      obtain rfl := e_so hM
      exact e_iret E J dX7_lawGives_34
set_option maxRecDepth 100000 in
set_option maxHeartbeats 4000000 in
theorem mX8_held {l : Launch} {G : e_G} (l0 : Int32) (h : e_H) (res : Int32) (hM : fX8_held l0 = some res) : Met l yX8_held (e_W yX8_held cX8_held 1 (some FieldType.int)) (e_rm 1 40) (e_Pc G h [.int l0]) (e_Q G h (some (.int res))) 0 0 (e_A G) := by
  refine Met.ofW (cc := cX8_held) (maxL := 1) (ret := (some FieldType.int)) (by decide) rfl ?_
  intro p e s m args below meth c s₁ B hml hv
  obtain ⟨rfl, hS, hP⟩ := hv
  have E := e_enter (own := RX8) (ret := (some FieldType.int)) B hml rfl hS hP
  have J : e_J G s h s.heap [] := ⟨hP, va_S.rf⟩
  have hl := lv_entry ([.int l0]) (n := 1) (Nat.le_of_ble_eq_true rfl)
  rw [lg_entry_eq]
  generalize (lg_sl ([.int l0]) ++ List.replicate (1 - (lg_sl ([.int l0])).length) Slot.unset).toArray = ls at hl ⊢
  have hl : lv_has ls 1 [(0, .int l0)] := hl
  obtain ⟨hx, hb, hr, hml, hown, hts, hlocks, hES, hbs⟩ := id E
  unfold fX8_held at hM
  refine lv_bipush (v := -99) hx hb dX8_held_0 (by decide) ?_
  refine lv_bipush (v := nI 99) hx hb dX8_held_2 (by decide) ?_
  refine lv_iload_n hx hb dX8_held_4 rfl (lv_at hl 0 rfl) ?_
  refine va_mmin hx hb (hml.trans hl.1.symm) hown (hts _ q_2_75) (hts _ q_2_76) (hts _ q_1_12) (hts _ q_2_77) (Nat.le_of_ble_eq_true rfl) (Nat.le_of_ble_eq_true rfl) (Nat.zero_le _) (Nat.zero_le _) dX8_held_5 ?_
  refine va_mmax hx hb (hml.trans hl.1.symm) hown (hts _ q_2_78) (hts _ q_2_79) (hts _ q_1_12) (hts _ q_2_80) (Nat.le_of_ble_eq_true rfl) (Nat.le_of_ble_eq_true rfl) (Nat.zero_le _) (Nat.zero_le _) dX8_held_8 ?_
  obtain rfl := e_so hM
  exact e_iret E J dX8_held_11
set_option maxRecDepth 100000 in
set_option maxHeartbeats 4000000 in
theorem mX7_termAt_b29 {p : Program} {l : Launch} {e : Env} {s : State} {m : MethodId} {args : Array Value} {below : List Frame} {meth : Method} {c : Code} {G : e_G} {res : (Int32 × e_H)} (E : e_M G p s args m meth c cX7_termAt 7 (some FieldType.int) RX7) (l0 : Nat) (l1 : Nat) (l2 : Int32) (l3 : Int32) (l5 : Int32) (t0 : Int32) (h : e_H) (hM : fX7_termAt_b29 l0 l1 l2 l3 l5 t0 h = some res) {H : Heap} {locs : List Loc} (J : e_J G s h H locs) {ls : Array Slot} (hl : lv_has ls 7 [(0, .ref (e_ad G l0)), (1, .ref (e_ad G l1)), (2, .int l2), (3, .int l3), (5, .int l5)]) : W p l e (e_rm 3 75) s m args below meth c H locs 0 0 (MQ below (e_Q G res.2 (some (.int res.1))) args s 0 0 (e_A G)) (F0 m 29 ls [.int t0]) := by
  obtain ⟨hx, hb, hr, hml, hown, hts, hlocks, hES, hbs⟩ := id E
  unfold fX7_termAt_b29 at hM
  refine lv_istore (lv' := [(6, .int t0), (0, .ref (e_ad G l0)), (1, .ref (e_ad G l1)), (2, .int l2), (3, .int l3), (5, .int l5)]) hx hb dX7_termAt_29 hl (by decide) rfl (fun ls hl => ?_)
  refine lv_aload_n hx hb dX7_termAt_31 rfl (lv_at hl 2 rfl) ?_
  refine lv_iload_n hx hb dX7_termAt_32 rfl (lv_at hl 3 rfl) ?_
  refine lv_iload_n hx hb dX7_termAt_33 rfl (lv_at hl 4 rfl) ?_
  obtain ⟨v1, hv, hM⟩ := e_bs hM
  obtain ⟨fs_, hk, -⟩ := e_bs hv
  refine e_callV (ci := 0) (As := [.int l2, .int l3]) (rest := []) (n := 2) E J hk rfl (mX0_factor (l := l) (G := G) l1 l2 l3 h _ hv) q_2_43 q_2_44 q_2_45 q_1_3 q_2_46 (by decide +kernel) rfl ⟨Nat.le_of_ble_eq_true rfl, Nat.le_of_ble_eq_true rfl⟩ (st0 := [.int l3, .int l2, .ref (e_ad G l1)]) (st1 := [.int v1]) rfl rfl hl.1 (Nat.le_of_ble_eq_true rfl) dX7_termAt_34 ⟨Nat.le_refl _, Nat.le_refl _⟩ (fun H locs J => ?_)
  refine lv_aload_n hx hb dX7_termAt_37 rfl (lv_at hl 1 rfl) ?_
  refine lv_iconst (v := nI 0) hx hb dX7_termAt_38 (by decide) ?_
  refine lv_iload hx hb dX7_termAt_39 (lv_at hl 5 rfl) ?_
  refine lv_iload hx hb dX7_termAt_41 (lv_at hl 0 rfl) ?_
  refine lv_aload_n hx hb dX7_termAt_43 rfl (lv_at hl 2 rfl) ?_
  refine lv_iload hx hb dX7_termAt_44 (lv_at hl 5 rfl) ?_
  refine lv_iload hx hb dX7_termAt_46 (lv_at hl 0 rfl) ?_
  obtain ⟨v2, hv, hM⟩ := e_bs hM
  obtain ⟨fs_, hk, -⟩ := e_bs hv
  refine e_callV (ci := 0) (As := [.int l5, .int t0]) (rest := [.int t0, .int l5, .int (nI 0), .ref (e_ad G l0), .int v1]) (n := 2) E J hk rfl (mX0_number (l := l) (G := G) l1 l5 t0 h _ hv) q_2_47 q_2_48 q_2_49 q_1_3 q_2_50 (by decide +kernel) rfl ⟨Nat.le_of_ble_eq_true rfl, Nat.le_of_ble_eq_true rfl⟩ (st0 := [.int t0, .int l5, .ref (e_ad G l1), .int t0, .int l5, .int (nI 0), .ref (e_ad G l0), .int v1]) (st1 := [.int v2, .int t0, .int l5, .int (nI 0), .ref (e_ad G l0), .int v1]) rfl rfl hl.1 (Nat.le_of_ble_eq_true rfl) dX7_termAt_48 ⟨Nat.le_refl _, Nat.le_refl _⟩ (fun H locs J => ?_)
  refine lv_aload_n hx hb dX7_termAt_51 rfl (lv_at hl 2 rfl) ?_
  refine lv_iload hx hb dX7_termAt_52 (lv_at hl 5 rfl) ?_
  refine lv_iload hx hb dX7_termAt_54 (lv_at hl 0 rfl) ?_
  obtain ⟨v3, hv, hM⟩ := e_bs hM
  obtain ⟨fs_, hk, -⟩ := e_bs hv
  refine e_callV (ci := 0) (As := [.int l5, .int t0]) (rest := [.int v2, .int t0, .int l5, .int (nI 0), .ref (e_ad G l0), .int v1]) (n := 2) E J hk rfl (mX0_number (l := l) (G := G) l1 l5 t0 h _ hv) q_2_47 q_2_48 q_2_49 q_1_3 q_2_50 (by decide +kernel) rfl ⟨Nat.le_of_ble_eq_true rfl, Nat.le_of_ble_eq_true rfl⟩ (st0 := [.int t0, .int l5, .ref (e_ad G l1), .int v2, .int t0, .int l5, .int (nI 0), .ref (e_ad G l0), .int v1]) (st1 := [.int v3, .int v2, .int t0, .int l5, .int (nI 0), .ref (e_ad G l0), .int v1]) rfl rfl hl.1 (Nat.le_of_ble_eq_true rfl) dX7_termAt_56 ⟨Nat.le_refl _, Nat.le_refl _⟩ (fun H locs J => ?_)
  obtain ⟨p4, hv, hM⟩ := e_bs hM
  obtain ⟨fs_, hk, -⟩ := e_bs hv
  refine e_callV (ci := 7) (As := [.int (nI 0), .int l5, .int t0, .int v2, .int v3]) (rest := [.int v1]) (n := 5) E J hk rfl (mX7_lawGives (l := l) (G := G) l0 (nI 0) l5 t0 v2 v3 h _ hv) q_2_53 q_2_54 q_2_55 q_1_2 q_2_56 (by decide +kernel) rfl ⟨Nat.le_of_ble_eq_true rfl, Nat.le_of_ble_eq_true rfl⟩ (st0 := [.int v3, .int v2, .int t0, .int l5, .int (nI 0), .ref (e_ad G l0), .int v1]) (st1 := [.int p4.1, .int v1]) rfl rfl hl.1 (Nat.le_of_ble_eq_true rfl) dX7_termAt_59 ⟨Nat.le_refl _, Nat.le_refl _⟩ (fun H locs J => ?_)
  obtain ⟨v5, hv, hM⟩ := e_bs hM
  refine e_callSN (As := [.int p4.1]) (rest := [.int v1]) (n := 1) (host := RX8) E J (mX8_held (l := l) (G := G) p4.1 p4.2 _ hv) (List.mem_of_getElem? (i := 10) rfl) q_2_73 q_1_1 q_2_74 (by decide +kernel) rfl ⟨Nat.le_of_ble_eq_true rfl, Nat.le_of_ble_eq_true rfl⟩ (st0 := [.int p4.1, .int v1]) (st1 := [.int v5, .int v1]) rfl rfl hl.1 (Nat.le_of_ble_eq_true rfl) dX7_termAt_62 ⟨Nat.le_refl _, Nat.le_refl _⟩ (fun H locs J => ?_)
  refine lv_imul hx hb dX7_termAt_65 ?_
  obtain rfl := e_so hM
  exact e_iret E J dX7_termAt_66
set_option maxRecDepth 100000 in
set_option maxHeartbeats 4000000 in
theorem mX7_termAt_b17 {p : Program} {l : Launch} {e : Env} {s : State} {m : MethodId} {args : Array Value} {below : List Frame} {meth : Method} {c : Code} {G : e_G} {res : (Int32 × e_H)} (E : e_M G p s args m meth c cX7_termAt 7 (some FieldType.int) RX7) (l0 : Nat) (l1 : Nat) (l2 : Int32) (l3 : Int32) (l4 : Int32) (t0 : Int32) (h : e_H) (hM : fX7_termAt_b17 l0 l1 l2 l3 l4 t0 h = some res) {H : Heap} {locs : List Loc} (J : e_J G s h H locs) {ls : Array Slot} (hl : lv_has ls 7 [(0, .ref (e_ad G l0)), (1, .ref (e_ad G l1)), (2, .int l2), (3, .int l3), (4, .int l4)]) : W p l e (e_rm 3 75) s m args below meth c H locs 0 0 (MQ below (e_Q G res.2 (some (.int res.1))) args s 0 0 (e_A G)) (F0 m 17 ls [.int t0]) := by
  obtain ⟨hx, hb, hr, hml, hown, hts, hlocks, hES, hbs⟩ := id E
  unfold fX7_termAt_b17 at hM
  refine lv_istore (lv' := [(5, .int t0), (0, .ref (e_ad G l0)), (1, .ref (e_ad G l1)), (2, .int l2), (3, .int l3), (4, .int l4)]) hx hb dX7_termAt_17 hl (by decide) rfl (fun ls hl => ?_)
  refine lv_iload hx hb dX7_termAt_19 (lv_at hl 5 rfl) ?_
  refine lv_if_eq (tgt := 28) hx hb dX7_termAt_21 (by decide) (fun hc => ?_) (fun hc => ?_)
  · have hM := e_ip hc hM
    refine lv_iload_n hx hb dX7_termAt_28 rfl (lv_at hl 4 rfl) ?_
    exact mX7_termAt_b29 E l0 l1 l2 l3 t0 l3 h hM J (lv_sub hl [1, 2, 3, 4, 0] rfl)
  · have hM := e_in hc hM
    refine lv_iload_n hx hb dX7_termAt_24 rfl (lv_at hl 3 rfl) ?_
    refine lv_goto (tgt := 29) hx hb dX7_termAt_25 (by decide) ?_
    exact mX7_termAt_b29 E l0 l1 l2 l3 t0 l2 h hM J (lv_sub hl [1, 2, 3, 4, 0] rfl)
set_option maxRecDepth 100000 in
set_option maxHeartbeats 4000000 in
theorem mX7_termAt {l : Launch} {G : e_G} (l0 : Nat) (l1 : Nat) (l2 : Int32) (l3 : Int32) (h : e_H) (res : (Int32 × e_H)) (hM : fX7_termAt l0 l1 l2 l3 h = some res) : Met l yX7_termAt (e_W yX7_termAt cX7_termAt 7 (some FieldType.int)) (e_rm 3 75) (e_Pc G h [.ref (e_ad G l0), .ref (e_ad G l1), .int l2, .int l3]) (e_Q G res.2 (some (.int res.1))) 0 0 (e_A G) := by
  refine Met.ofW (cc := cX7_termAt) (maxL := 7) (ret := (some FieldType.int)) (by decide) rfl ?_
  intro p e s m args below meth c s₁ B hml hv
  obtain ⟨rfl, hS, hP⟩ := hv
  have E := e_enter (own := RX7) (ret := (some FieldType.int)) B hml rfl hS hP
  have J : e_J G s h s.heap [] := ⟨hP, va_S.rf⟩
  have hl := lv_entry ([.ref (e_ad G l0), .ref (e_ad G l1), .int l2, .int l3]) (n := 7) (Nat.le_of_ble_eq_true rfl)
  rw [lg_entry_eq]
  generalize (lg_sl ([.ref (e_ad G l0), .ref (e_ad G l1), .int l2, .int l3]) ++ List.replicate (7 - (lg_sl ([.ref (e_ad G l0), .ref (e_ad G l1), .int l2, .int l3])).length) Slot.unset).toArray = ls at hl ⊢
  have hl : lv_has ls 7 [(0, .ref (e_ad G l0)), (1, .ref (e_ad G l1)), (2, .int l2), (3, .int l3)] := hl
  obtain ⟨hx, hb, hr, hml, hown, hts, hlocks, hES, hbs⟩ := id E
  unfold fX7_termAt at hM
  obtain ⟨fs_, hk_, hM⟩ := e_bs hM
  refine lv_aload_n hx hb dX7_termAt_0 rfl (lv_at hl 1 rfl) ?_
  refine lv_iconst (v := nI 1) hx hb dX7_termAt_1 (by decide) ?_
  obtain ⟨v1, hv, hM⟩ := e_bs hM
  obtain ⟨fs_, hk, -⟩ := e_bs hv
  refine e_callV (ci := 0) (As := [.int (nI 1)]) (rest := []) (n := 1) E J hk rfl (mX0_isOf (l := l) (G := G) l1 (nI 1) h _ hv) q_2_39 q_2_40 q_2_41 q_1_3 q_2_42 (by decide +kernel) rfl ⟨Nat.le_of_ble_eq_true rfl, Nat.le_of_ble_eq_true rfl⟩ (st0 := [.int (nI 1), .ref (e_ad G l1)]) (st1 := [.int (e_b v1)]) rfl rfl hl.1 (Nat.le_of_ble_eq_true rfl) dX7_termAt_2 ⟨Nat.le_refl _, Nat.le_refl _⟩ (fun H locs J => ?_)
  refine lv_istore (lv' := [(4, .int (e_b v1)), (0, .ref (e_ad G l0)), (1, .ref (e_ad G l1)), (2, .int l2), (3, .int l3)]) hx hb dX7_termAt_5 hl (by decide) rfl (fun ls hl => ?_)
  refine lv_iload hx hb dX7_termAt_7 (lv_at hl 0 rfl) ?_
  refine lv_if_eq (tgt := 16) hx hb dX7_termAt_9 (by decide) (fun hc => ?_) (fun hc => ?_)
  · have hM := e_ip hc hM
    refine lv_iload_n hx hb dX7_termAt_16 rfl (lv_at hl 3 rfl) ?_
    exact mX7_termAt_b17 E l0 l1 l2 l3 (e_b v1) l2 h hM J (lv_sub hl [1, 2, 3, 4, 0] rfl)
  · have hM := e_in hc hM
    refine lv_iload_n hx hb dX7_termAt_12 rfl (lv_at hl 4 rfl) ?_
    refine lv_goto (tgt := 17) hx hb dX7_termAt_13 (by decide) ?_
    exact mX7_termAt_b17 E l0 l1 l2 l3 (e_b v1) l3 h hM J (lv_sub hl [1, 2, 3, 4, 0] rfl)
set_option maxRecDepth 100000 in
set_option maxHeartbeats 4000000 in
theorem mX8_term {l : Launch} {G : e_G} (l0 : Nat) (l1 : Int32) (l2 : Int32) (l3 : Int32) (h : e_H) (res : (Int32 × e_H)) (hM : fX8_term l0 l1 l2 l3 h = some res) : Met l yX8_term (e_W yX8_term cX8_term 8 (some FieldType.int)) (e_rm 4 101) (e_Pc G h [.ref (e_ad G l0), .int l1, .int l2, .int l3]) (e_Q G res.2 (some (.int res.1))) 0 0 (e_A G) := by
  refine Met.ofW (cc := cX8_term) (maxL := 8) (ret := (some FieldType.int)) (by decide) rfl ?_
  intro p e s m args below meth c s₁ B hml hv
  obtain ⟨rfl, hS, hP⟩ := hv
  have E := e_enter (own := RX8) (ret := (some FieldType.int)) B hml rfl hS hP
  have J : e_J G s h s.heap [] := ⟨hP, va_S.rf⟩
  have hl := lv_entry ([.ref (e_ad G l0), .int l1, .int l2, .int l3]) (n := 8) (Nat.le_of_ble_eq_true rfl)
  rw [lg_entry_eq]
  generalize (lg_sl ([.ref (e_ad G l0), .int l1, .int l2, .int l3]) ++ List.replicate (8 - (lg_sl ([.ref (e_ad G l0), .int l1, .int l2, .int l3])).length) Slot.unset).toArray = ls at hl ⊢
  have hl : lv_has ls 8 [(0, .ref (e_ad G l0)), (1, .int l1), (2, .int l2), (3, .int l3)] := hl
  obtain ⟨hx, hb, hr, hml, hown, hts, hlocks, hES, hbs⟩ := id E
  unfold fX8_term at hM
  obtain ⟨fs_, hk_, hM⟩ := e_bs hM
  refine lv_aload_n hx hb dX8_term_0 rfl (lv_at hl 0 rfl) ?_
  obtain ⟨v1, hv, hM⟩ := e_bs hM
  refine e_getR (C := RX8) (T := TX8) (N := 10) E J hv rfl inX8 (by decide) q_1_199 dX8_term_1 ?_
  rcases v1 with _ | a2
  · have hM := e_on0 hM
    refine W.eq (g2 := F0 m 4 ls [.null]) rfl ?_
    refine lv_iload_n hx hb dX8_term_4 rfl (lv_at hl 1 rfl) ?_
    exact e_no hM
  · have hM := e_on1 hM
    refine W.eq (g2 := F0 m 4 ls [.ref (e_ad G a2)]) rfl ?_
    refine lv_iload_n hx hb dX8_term_4 rfl (lv_at hl 1 rfl) ?_
    obtain ⟨v3, hv, hM⟩ := e_bs hM
    obtain ⟨fs_, hk, -⟩ := e_bs hv
    refine e_callV (ci := 7) (As := [.int l1]) (rest := []) (n := 1) E J hk rfl (mX7_curveOf (l := l) (G := G) a2 l1 h _ hv) q_2_14 q_2_15 q_2_16 q_1_2 q_2_17 (by decide +kernel) rfl ⟨Nat.le_of_ble_eq_true rfl, Nat.le_of_ble_eq_true rfl⟩ (st0 := [.int l1, .ref (e_ad G a2)]) (st1 := [e_r G v3]) rfl rfl hl.1 (Nat.le_of_ble_eq_true rfl) dX8_term_5 ⟨Nat.le_refl _, Nat.le_refl _⟩ (fun H locs J => ?_)
    rcases v3 with _ | a4
    · have hM := e_on0 hM
      refine W.eq (g2 := F0 m 8 ls [.null]) rfl ?_
      refine lv_astoreN (lv' := [(4, .null), (0, .ref (e_ad G l0)), (1, .int l1), (2, .int l2), (3, .int l3)]) hx hb dX8_term_8 hl (by decide) rfl (fun ls hl => ?_)
      refine lv_iload_n hx hb dX8_term_10 rfl (lv_at hl 3 rfl) ?_
      refine lv_bipush (v := nI 10) hx hb dX8_term_11 (by decide) ?_
      refine lv_idiv hx hb dX8_term_13 (by decide) ?_
      refine lv_istore (lv' := [(5, .int (l2 / (nI 10))), (4, .null), (0, .ref (e_ad G l0)), (1, .int l1), (2, .int l2), (3, .int l3)]) hx hb dX8_term_14 hl (by decide) rfl (fun ls hl => ?_)
      refine lv_iload_n hx hb dX8_term_16 rfl (lv_at hl 4 rfl) ?_
      refine lv_bipush (v := nI 10) hx hb dX8_term_17 (by decide) ?_
      refine lv_irem hx hb dX8_term_19 (by decide) ?_
      refine lv_istore (lv' := [(6, .int (l2 - l2 / (nI 10) * (nI 10))), (5, .int (l2 / (nI 10))), (4, .null), (0, .ref (e_ad G l0)), (1, .int l1), (2, .int l2), (3, .int l3)]) hx hb dX8_term_20 hl (by decide) rfl (fun ls hl => ?_)
      refine lv_iload hx hb dX8_term_22 (lv_at hl 1 rfl) ?_
      refine lv_iload hx hb dX8_term_24 (lv_at hl 0 rfl) ?_
      obtain ⟨v5, hv, hM⟩ := e_bs hM
      refine e_callS (As := [.int (l2 / (nI 10)), .int (l2 - l2 / (nI 10) * (nI 10))]) (rest := []) (n := 2) E J (mX8_indexOf (l := l) (G := G) (l2 / (nI 10)) (l2 - l2 / (nI 10) * (nI 10)) h _ hv) q_2_18 q_2_19 q_1_1 q_2_20 (by decide +kernel) rfl ⟨Nat.le_of_ble_eq_true rfl, Nat.le_of_ble_eq_true rfl⟩ (st0 := [.int (l2 - l2 / (nI 10) * (nI 10)), .int (l2 / (nI 10))]) (st1 := [.int v5]) rfl rfl hl.1 (Nat.le_of_ble_eq_true rfl) dX8_term_26 ⟨Nat.le_refl _, Nat.le_refl _⟩ (fun H locs J => ?_)
      refine lv_istore (lv' := [(7, .int v5), (6, .int (l2 - l2 / (nI 10) * (nI 10))), (5, .int (l2 / (nI 10))), (4, .null), (0, .ref (e_ad G l0)), (1, .int l1), (2, .int l2), (3, .int l3)]) hx hb dX8_term_29 hl (by decide) rfl (fun ls hl => ?_)
      refine lv_aloadN hx hb dX8_term_31 (lv_at hl 3 rfl) ?_
      refine lv_ifnullN (tgt := 50) hx hb dX8_term_33 (by decide) ?_
      refine lv_ldc (v := -1000000001) hx hb hown (hts _ q_1_237) dX8_term_50 ?_
      obtain rfl := e_so hM
      exact e_iret E J dX8_term_52
    · have hM := e_on1 hM
      refine W.eq (g2 := F0 m 8 ls [.ref (e_ad G a4)]) rfl ?_
      refine lv_astore (lv' := [(4, .ref (e_ad G a4)), (0, .ref (e_ad G l0)), (1, .int l1), (2, .int l2), (3, .int l3)]) hx hb dX8_term_8 hl (by decide) rfl (fun ls hl => ?_)
      refine lv_iload_n hx hb dX8_term_10 rfl (lv_at hl 3 rfl) ?_
      refine lv_bipush (v := nI 10) hx hb dX8_term_11 (by decide) ?_
      refine lv_idiv hx hb dX8_term_13 (by decide) ?_
      refine lv_istore (lv' := [(5, .int (l2 / (nI 10))), (4, .ref (e_ad G a4)), (0, .ref (e_ad G l0)), (1, .int l1), (2, .int l2), (3, .int l3)]) hx hb dX8_term_14 hl (by decide) rfl (fun ls hl => ?_)
      refine lv_iload_n hx hb dX8_term_16 rfl (lv_at hl 4 rfl) ?_
      refine lv_bipush (v := nI 10) hx hb dX8_term_17 (by decide) ?_
      refine lv_irem hx hb dX8_term_19 (by decide) ?_
      refine lv_istore (lv' := [(6, .int (l2 - l2 / (nI 10) * (nI 10))), (5, .int (l2 / (nI 10))), (4, .ref (e_ad G a4)), (0, .ref (e_ad G l0)), (1, .int l1), (2, .int l2), (3, .int l3)]) hx hb dX8_term_20 hl (by decide) rfl (fun ls hl => ?_)
      refine lv_iload hx hb dX8_term_22 (lv_at hl 1 rfl) ?_
      refine lv_iload hx hb dX8_term_24 (lv_at hl 0 rfl) ?_
      obtain ⟨v6, hv, hM⟩ := e_bs hM
      refine e_callS (As := [.int (l2 / (nI 10)), .int (l2 - l2 / (nI 10) * (nI 10))]) (rest := []) (n := 2) E J (mX8_indexOf (l := l) (G := G) (l2 / (nI 10)) (l2 - l2 / (nI 10) * (nI 10)) h _ hv) q_2_18 q_2_19 q_1_1 q_2_20 (by decide +kernel) rfl ⟨Nat.le_of_ble_eq_true rfl, Nat.le_of_ble_eq_true rfl⟩ (st0 := [.int (l2 - l2 / (nI 10) * (nI 10)), .int (l2 / (nI 10))]) (st1 := [.int v6]) rfl rfl hl.1 (Nat.le_of_ble_eq_true rfl) dX8_term_26 ⟨Nat.le_refl _, Nat.le_refl _⟩ (fun H locs J => ?_)
      refine lv_istore (lv' := [(7, .int v6), (6, .int (l2 - l2 / (nI 10) * (nI 10))), (5, .int (l2 / (nI 10))), (4, .ref (e_ad G a4)), (0, .ref (e_ad G l0)), (1, .int l1), (2, .int l2), (3, .int l3)]) hx hb dX8_term_29 hl (by decide) rfl (fun ls hl => ?_)
      refine lv_aload hx hb dX8_term_31 (lv_at hl 3 rfl) ?_
      refine lv_ifnull hx hb dX8_term_33 ?_
      refine lv_iload hx hb dX8_term_36 (lv_at hl 0 rfl) ?_
      refine lv_if_lt (tgt := 50) hx hb dX8_term_38 (by decide) (fun hc => ?_) (fun hc => ?_)
      · have hM := e_ip hc hM
        refine lv_ldc (v := -1000000001) hx hb hown (hts _ q_1_237) dX8_term_50 ?_
        obtain rfl := e_so hM
        exact e_iret E J dX8_term_52
      · have hM := e_in hc hM
        refine lv_iload_n hx hb dX8_term_41 rfl (lv_at hl 7 rfl) ?_
        refine lv_if_lt (tgt := 50) hx hb dX8_term_42 (by decide) (fun hc => ?_) (fun hc => ?_)
        · have hM := e_ip hc hM
          refine lv_ldc (v := -1000000001) hx hb hown (hts _ q_1_237) dX8_term_50 ?_
          obtain rfl := e_so hM
          exact e_iret E J dX8_term_52
        · have hM := e_in hc hM
          refine lv_iload_n hx hb dX8_term_45 rfl (lv_at hl 7 rfl) ?_
          refine lv_iconst (v := nI 1) hx hb dX8_term_46 (by decide) ?_
          refine lv_icmp_le (tgt := 53) hx hb dX8_term_47 (by decide) (fun hc => ?_) (fun hc => ?_)
          · have hM := e_ip hc hM
            refine lv_iload_n hx hb dX8_term_53 rfl (lv_at hl 7 rfl) ?_
            refine lv_if_ne (tgt := 67) hx hb dX8_term_54 (by decide) (fun hc => ?_) (fun hc => ?_)
            · have hM := e_in hc hM
              refine lv_aload_n hx hb dX8_term_67 rfl (lv_at hl 4 rfl) ?_
              obtain ⟨v8, hv, hM⟩ := e_bs hM
              refine e_getR (C := RX8) (T := TX8) (N := 10) E J hv rfl inX8 (by decide) q_1_199 dX8_term_68 ?_
              rcases v8 with _ | a9
              · have hM := e_on0 hM
                refine W.eq (g2 := F0 m 71 ls [.null]) rfl ?_
                refine lv_aload hx hb dX8_term_71 (lv_at hl 3 rfl) ?_
                refine lv_iload hx hb dX8_term_73 (lv_at hl 2 rfl) ?_
                refine lv_iload hx hb dX8_term_75 (lv_at hl 1 rfl) ?_
                exact e_no hM
              · have hM := e_on1 hM
                refine W.eq (g2 := F0 m 71 ls [.ref (e_ad G a9)]) rfl ?_
                refine lv_aload hx hb dX8_term_71 (lv_at hl 3 rfl) ?_
                refine lv_iload hx hb dX8_term_73 (lv_at hl 2 rfl) ?_
                refine lv_iload hx hb dX8_term_75 (lv_at hl 1 rfl) ?_
                obtain ⟨p10, hv, hM⟩ := e_bs hM
                obtain ⟨fs_, hk, -⟩ := e_bs hv
                refine e_callV (ci := 7) (As := [.ref (e_ad G a4), .int (l2 / (nI 10)), .int (l2 - l2 / (nI 10) * (nI 10))]) (rest := []) (n := 3) E J hk rfl (mX7_termAt (l := l) (G := G) a9 a4 (l2 / (nI 10)) (l2 - l2 / (nI 10) * (nI 10)) h _ hv) q_2_35 q_2_36 q_2_37 q_1_2 q_2_38 (by decide +kernel) rfl ⟨Nat.le_of_ble_eq_true rfl, Nat.le_of_ble_eq_true rfl⟩ (st0 := [.int (l2 - l2 / (nI 10) * (nI 10)), .int (l2 / (nI 10)), .ref (e_ad G a4), .ref (e_ad G a9)]) (st1 := [.int p10.1]) rfl rfl hl.1 (Nat.le_of_ble_eq_true rfl) dX8_term_77 ⟨Nat.le_refl _, Nat.le_refl _⟩ (fun H locs J => ?_)
                obtain rfl := e_so hM
                exact e_iret E J dX8_term_80
            · have hM := e_ip hc hM
              refine lv_aload hx hb dX8_term_57 (lv_at hl 3 rfl) ?_
              refine lv_iload hx hb dX8_term_59 (lv_at hl 0 rfl) ?_
              obtain ⟨v7, hv, hM⟩ := e_bs hM
              obtain ⟨fs_, hk, -⟩ := e_bs hv
              refine e_callV (ci := 0) (As := [.int v6]) (rest := []) (n := 1) E J hk rfl (mX0_numberAt (l := l) (G := G) a4 v6 h _ hv) q_2_23 q_2_24 q_2_25 q_1_3 q_2_26 (by decide +kernel) rfl ⟨Nat.le_of_ble_eq_true rfl, Nat.le_of_ble_eq_true rfl⟩ (st0 := [.int v6, .ref (e_ad G a4)]) (st1 := [.int v7]) rfl rfl hl.1 (Nat.le_of_ble_eq_true rfl) dX8_term_61 ⟨Nat.le_refl _, Nat.le_refl _⟩ (fun H locs J => ?_)
              refine lv_goto (tgt := 80) hx hb dX8_term_64 (by decide) ?_
              obtain rfl := e_so hM
              exact e_iret E J dX8_term_80
          · have hM := e_in hc hM
            refine lv_ldc (v := -1000000001) hx hb hown (hts _ q_1_237) dX8_term_50 ?_
            obtain rfl := e_so hM
            exact e_iret E J dX8_term_52
set_option maxRecDepth 100000 in
set_option maxHeartbeats 4000000 in
theorem mX0_notZero_b25 {p : Program} {l : Launch} {e : Env} {s : State} {m : MethodId} {args : Array Value} {below : List Frame} {meth : Method} {c : Code} {G : e_G} {res : Int32} {k4 : Nat → Int32 → Int32 → Option Int32} (E : e_M G p s args m meth c cX0_notZero 3 (some FieldType.int) RX0) (h : e_H) (K4 : ∀ (l0 : Nat) (l1 : Int32) (l2 : Int32), k4 l0 l1 l2 = some res → ∀ (H : Heap) (locs : List Loc), e_J G s h H locs → ∀ (ls : Array Slot), lv_has ls 3 [(0, .ref (e_ad G l0)), (1, .int l1), (2, .int l2)] → W p l e (e_rm 0 0) s m args below meth c H locs 0 0 (MQ below (e_Q G h (some (.int res))) args s 0 0 (e_A G)) (F0 m 4 ls [])) (l0 : Nat) (l1 : Int32) (l2 : Int32) (hM : fX0_notZero_b25 h k4 l0 l1 l2 = some res) {H : Heap} {locs : List Loc} (J : e_J G s h H locs) {ls : Array Slot} (hl : lv_has ls 3 [(0, .ref (e_ad G l0)), (1, .int l1), (2, .int l2)]) : W p l e (e_rm 0 0) s m args below meth c H locs 0 0 (MQ below (e_Q G h (some (.int res))) args s 0 0 (e_A G)) (F0 m 25 ls []) := by
  obtain ⟨hx, hb, hr, hml, hown, hts, hlocks, hES, hbs⟩ := id E
  unfold fX0_notZero_b25 at hM
  refine lv_iinc (v := (l2 + (nI 1))) (lv' := [(2, .int (l2 + (nI 1))), (0, .ref (e_ad G l0)), (1, .int l1)]) hx hb dX0_notZero_25 hl (k := 2) rfl rfl (by decide) rfl (fun ls hl => ?_)
  refine lv_goto (tgt := 4) hx hb dX0_notZero_28 (by decide) ?_
  exact K4 l0 l1 (l2 + (nI 1)) hM _ _ J _ (lv_sub hl [1, 2, 0] rfl)
set_option maxRecDepth 100000 in
set_option maxHeartbeats 4000000 in
theorem mX0_notZero_b4 {p : Program} {l : Launch} {e : Env} {s : State} {m : MethodId} {args : Array Value} {below : List Frame} {meth : Method} {c : Code} {G : e_G} {res : Int32} {k4 : Nat → Int32 → Int32 → Option Int32} (E : e_M G p s args m meth c cX0_notZero 3 (some FieldType.int) RX0) (h : e_H) (K4 : ∀ (l0 : Nat) (l1 : Int32) (l2 : Int32), k4 l0 l1 l2 = some res → ∀ (H : Heap) (locs : List Loc), e_J G s h H locs → ∀ (ls : Array Slot), lv_has ls 3 [(0, .ref (e_ad G l0)), (1, .int l1), (2, .int l2)] → W p l e (e_rm 0 0) s m args below meth c H locs 0 0 (MQ below (e_Q G h (some (.int res))) args s 0 0 (e_A G)) (F0 m 4 ls [])) (l0 : Nat) (l1 : Int32) (l2 : Int32) (hM : fX0_notZero_b4 h k4 l0 l1 l2 = some res) {H : Heap} {locs : List Loc} (J : e_J G s h H locs) {ls : Array Slot} (hl : lv_has ls 3 [(0, .ref (e_ad G l0)), (1, .int l1), (2, .int l2)]) : W p l e (e_rm 0 0) s m args below meth c H locs 0 0 (MQ below (e_Q G h (some (.int res))) args s 0 0 (e_A G)) (F0 m 4 ls []) := by
  obtain ⟨hx, hb, hr, hml, hown, hts, hlocks, hES, hbs⟩ := id E
  unfold fX0_notZero_b4 at hM
  refine lv_iload_n hx hb dX0_notZero_4 rfl (lv_at hl 2 rfl) ?_
  refine lv_aload_n hx hb dX0_notZero_5 rfl (lv_at hl 0 rfl) ?_
  obtain ⟨v1, hv, hM⟩ := e_bs hM
  refine e_getR (C := RX0) (T := TX0) (N := 2) E J hv rfl inX0 (by decide) q_1_44 dX0_notZero_6 ?_
  rcases v1 with _ | a2
  · have hM := e_on0 hM
    refine W.eq (g2 := F0 m 9 ls [.null, .int l2]) rfl ?_
    exact e_no hM
  · have hM := e_on1 hM
    refine W.eq (g2 := F0 m 9 ls [.ref (e_ad G a2), .int l2]) rfl ?_
    obtain ⟨v3, hv, hM⟩ := e_bs hM
    refine e_alen E J hv rfl rfl dX0_notZero_9 ?_
    refine lv_icmp_ge (tgt := 31) hx hb dX0_notZero_10 (by decide) (fun hc => ?_) (fun hc => ?_)
    · have hM := e_ip hc hM
      refine lv_iload_n hx hb dX0_notZero_31 rfl (lv_at hl 1 rfl) ?_
      obtain rfl := e_so hM
      exact e_iret E J dX0_notZero_32
    · have hM := e_in hc hM
      refine lv_aload_n hx hb dX0_notZero_13 rfl (lv_at hl 0 rfl) ?_
      obtain ⟨v4, hv, hM⟩ := e_bs hM
      refine e_getR (C := RX0) (T := TX0) (N := 2) E J hv rfl inX0 (by decide) q_1_44 dX0_notZero_14 ?_
      rcases v4 with _ | a5
      · have hM := e_on0 hM
        refine W.eq (g2 := F0 m 17 ls [.null]) rfl ?_
        refine lv_iload_n hx hb dX0_notZero_17 rfl (lv_at hl 2 rfl) ?_
        exact e_no hM
      · have hM := e_on1 hM
        refine W.eq (g2 := F0 m 17 ls [.ref (e_ad G a5)]) rfl ?_
        refine lv_iload_n hx hb dX0_notZero_17 rfl (lv_at hl 2 rfl) ?_
        obtain ⟨v6, hv, hM⟩ := e_bs hM
        refine e_iald E J hv dX0_notZero_18 ?_
        refine lv_if_eq (tgt := 25) hx hb dX0_notZero_19 (by decide) (fun hc => ?_) (fun hc => ?_)
        · have hM := e_ip hc hM
          exact mX0_notZero_b25 E h K4 l0 l1 l2 hM J (lv_sub hl [0, 1, 2] rfl)
        · have hM := e_in hc hM
          refine lv_iinc (v := (l1 + (nI 1))) (lv' := [(1, .int (l1 + (nI 1))), (0, .ref (e_ad G l0)), (2, .int l2)]) hx hb dX0_notZero_22 hl (k := 1) rfl rfl (by decide) rfl (fun ls hl => ?_)
          exact mX0_notZero_b25 E h K4 l0 (l1 + (nI 1)) l2 hM J (lv_sub hl [1, 0, 2] rfl)
set_option maxRecDepth 100000 in
set_option maxHeartbeats 4000000 in
theorem mX0_notZero_L4 {p : Program} {l : Launch} {e : Env} {s : State} {m : MethodId} {args : Array Value} {below : List Frame} {meth : Method} {c : Code} {G : e_G} {res : Int32} (E : e_M G p s args m meth c cX0_notZero 3 (some FieldType.int) RX0) (h : e_H) (n : Nat) (l0 : Nat) (l1 : Int32) (l2 : Int32) (hM : fX0_notZero_L4 h n l0 l1 l2 = some res) {H : Heap} {locs : List Loc} (J : e_J G s h H locs) {ls : Array Slot} (hl : lv_has ls 3 [(0, .ref (e_ad G l0)), (1, .int l1), (2, .int l2)]) : W p l e (e_rm 0 0) s m args below meth c H locs 0 0 (MQ below (e_Q G h (some (.int res))) args s 0 0 (e_A G)) (F0 m 4 ls []) := by
  induction n generalizing l0 l1 l2 H locs ls with
  | zero => exact e_no hM
  | succ n ih => exact mX0_notZero_b4 (k4 := (fX0_notZero_L4 h n)) E h  (fun l0 l1 l2 hM H locs J ls hl => ih l0 l1 l2 hM J hl) l0 l1 l2 hM J hl
set_option maxRecDepth 100000 in
set_option maxHeartbeats 4000000 in
theorem mX0_notZero {l : Launch} {G : e_G} (l0 : Nat) (h : e_H) (res : Int32) (hM : fX0_notZero l0 h = some res) : Met l yX0_notZero (e_W yX0_notZero cX0_notZero 3 (some FieldType.int)) (e_rm 0 0) (e_Pc G h [.ref (e_ad G l0)]) (e_Q G h (some (.int res))) 0 0 (e_A G) := by
  refine Met.ofW (cc := cX0_notZero) (maxL := 3) (ret := (some FieldType.int)) (by decide) rfl ?_
  intro p e s m args below meth c s₁ B hml hv
  obtain ⟨rfl, hS, hP⟩ := hv
  have E := e_enter (own := RX0) (ret := (some FieldType.int)) B hml rfl hS hP
  have J : e_J G s h s.heap [] := ⟨hP, va_S.rf⟩
  have hl := lv_entry ([.ref (e_ad G l0)]) (n := 3) (Nat.le_of_ble_eq_true rfl)
  rw [lg_entry_eq]
  generalize (lg_sl ([.ref (e_ad G l0)]) ++ List.replicate (3 - (lg_sl ([.ref (e_ad G l0)])).length) Slot.unset).toArray = ls at hl ⊢
  have hl : lv_has ls 3 [(0, .ref (e_ad G l0))] := hl
  obtain ⟨hx, hb, hr, hml, hown, hts, hlocks, hES, hbs⟩ := id E
  unfold fX0_notZero at hM
  obtain ⟨fs_, hk_, hM⟩ := e_bs hM
  refine lv_iconst (v := nI 0) hx hb dX0_notZero_0 (by decide) ?_
  refine lv_istore_n (lv' := [(1, .int (nI 0)), (0, .ref (e_ad G l0))]) hx hb dX0_notZero_1 rfl hl (by decide) rfl (fun ls hl => ?_)
  refine lv_iconst (v := nI 0) hx hb dX0_notZero_2 (by decide) ?_
  refine lv_istore_n (lv' := [(2, .int (nI 0)), (1, .int (nI 0)), (0, .ref (e_ad G l0))]) hx hb dX0_notZero_3 rfl hl (by decide) rfl (fun ls hl => ?_)
  exact mX0_notZero_L4 E h 200 l0 (nI 0) (nI 0) hM J (lv_sub hl [2, 1, 0] rfl)
set_option maxRecDepth 100000 in
set_option maxHeartbeats 4000000 in
theorem mX0_worth {l : Launch} {G : e_G} (l0 : Nat) (h : e_H) (res : Int32) (hM : fX0_worth l0 h = some res) : Met l yX0_worth (e_W yX0_worth cX0_worth 1 (some FieldType.int)) (e_rm 2 43) (e_Pc G h [.ref (e_ad G l0)]) (e_Q G h (some (.int res))) 0 0 (e_A G) := by
  refine Met.ofW (cc := cX0_worth) (maxL := 1) (ret := (some FieldType.int)) (by decide) rfl ?_
  intro p e s m args below meth c s₁ B hml hv
  obtain ⟨rfl, hS, hP⟩ := hv
  have E := e_enter (own := RX0) (ret := (some FieldType.int)) B hml rfl hS hP
  have J : e_J G s h s.heap [] := ⟨hP, va_S.rf⟩
  have hl := lv_entry ([.ref (e_ad G l0)]) (n := 1) (Nat.le_of_ble_eq_true rfl)
  rw [lg_entry_eq]
  generalize (lg_sl ([.ref (e_ad G l0)]) ++ List.replicate (1 - (lg_sl ([.ref (e_ad G l0)])).length) Slot.unset).toArray = ls at hl ⊢
  have hl : lv_has ls 1 [(0, .ref (e_ad G l0))] := hl
  obtain ⟨hx, hb, hr, hml, hown, hts, hlocks, hES, hbs⟩ := id E
  unfold fX0_worth at hM
  obtain ⟨fs_, hk_, hM⟩ := e_bs hM
  refine lv_aload_n hx hb dX0_worth_0 rfl (lv_at hl 0 rfl) ?_
  obtain ⟨v1, hv, hM⟩ := e_bs hM
  refine e_getI (C := RX0) (T := TX0) (N := 2) E J hv rfl inX0 (by decide) q_1_42 dX0_worth_1 ?_
  by_cases hc0 : v1 = nI 1
  · have hM := e_ip hc0 hM
    refine e_tin (y := nI 1) (off := 36) (tgt := 40) hx hb dX0_worth_4 hc0 (by decide) (by decide) (by decide +kernel) (by decide) ?_
    refine lv_aload_n hx hb dX0_worth_40 rfl (lv_at hl 0 rfl) ?_
    obtain ⟨v2, hv, hM⟩ := e_bs hM
    obtain ⟨fs_, hk, -⟩ := e_bs hv
    refine e_callV (ci := 0) (As := []) (rest := []) (n := 0) E J hk rfl (mX0_notZero (l := l) (G := G) l0 h _ hv) q_2_89 q_2_90 q_2_91 q_1_3 q_2_92 (by decide +kernel) rfl ⟨Nat.le_of_ble_eq_true rfl, Nat.le_of_ble_eq_true rfl⟩ (st0 := [.ref (e_ad G l0)]) (st1 := [.int v2]) rfl rfl hl.1 (Nat.le_of_ble_eq_true rfl) dX0_worth_41 ⟨Nat.le_refl _, Nat.le_refl _⟩ (fun H locs J => ?_)
    refine lv_aload_n hx hb dX0_worth_44 rfl (lv_at hl 0 rfl) ?_
    refine lv_iconst (v := nI 1) hx hb dX0_worth_45 (by decide) ?_
    refine lv_iconst (v := nI 0) hx hb dX0_worth_46 (by decide) ?_
    obtain ⟨v3, hv, hM⟩ := e_bs hM
    obtain ⟨fs_, hk, -⟩ := e_bs hv
    refine e_callV (ci := 0) (As := [.int (nI 1), .int (nI 0)]) (rest := [.int v2]) (n := 2) E J hk rfl (mX0_number (l := l) (G := G) l0 (nI 1) (nI 0) h _ hv) q_2_93 q_2_48 q_2_49 q_1_3 q_2_50 (by decide +kernel) rfl ⟨Nat.le_of_ble_eq_true rfl, Nat.le_of_ble_eq_true rfl⟩ (st0 := [.int (nI 0), .int (nI 1), .ref (e_ad G l0), .int v2]) (st1 := [.int v3, .int v2]) rfl rfl hl.1 (Nat.le_of_ble_eq_true rfl) dX0_worth_47 ⟨Nat.le_refl _, Nat.le_refl _⟩ (fun H locs J => ?_)
    refine lv_iadd hx hb dX0_worth_50 ?_
    obtain rfl := e_so hM
    exact e_iret E J dX0_worth_51
  have hM := e_in hc0 hM
  by_cases hc1 : v1 = nI 2
  · have hM := e_ip hc1 hM
    refine e_tin (y := nI 2) (off := 61) (tgt := 65) hx hb dX0_worth_4 hc1 (by decide) (by decide) (by decide +kernel) (by decide) ?_
    refine lv_iconst (v := nI 2) hx hb dX0_worth_65 (by decide) ?_
    refine lv_aload_n hx hb dX0_worth_66 rfl (lv_at hl 0 rfl) ?_
    obtain ⟨v4, hv, hM⟩ := e_bs hM
    obtain ⟨fs_, hk, -⟩ := e_bs hv
    refine e_callV (ci := 0) (As := []) (rest := [.int (nI 2)]) (n := 0) E J hk rfl (mX0_notZero (l := l) (G := G) l0 h _ hv) q_2_89 q_2_90 q_2_91 q_1_3 q_2_92 (by decide +kernel) rfl ⟨Nat.le_of_ble_eq_true rfl, Nat.le_of_ble_eq_true rfl⟩ (st0 := [.ref (e_ad G l0), .int (nI 2)]) (st1 := [.int v4, .int (nI 2)]) rfl rfl hl.1 (Nat.le_of_ble_eq_true rfl) dX0_worth_67 ⟨Nat.le_refl _, Nat.le_refl _⟩ (fun H locs J => ?_)
    refine lv_imul hx hb dX0_worth_70 ?_
    obtain rfl := e_so hM
    exact e_iret E J dX0_worth_71
  have hM := e_in hc1 hM
  by_cases hc2 : v1 = nI 3
  · have hM := e_ip hc2 hM
    refine e_tin (y := nI 3) (off := 48) (tgt := 52) hx hb dX0_worth_4 hc2 (by decide) (by decide) (by decide +kernel) (by decide) ?_
    refine lv_aload_n hx hb dX0_worth_52 rfl (lv_at hl 0 rfl) ?_
    obtain ⟨v5, hv, hM⟩ := e_bs hM
    obtain ⟨fs_, hk, -⟩ := e_bs hv
    refine e_callV (ci := 0) (As := []) (rest := []) (n := 0) E J hk rfl (mX0_notZero (l := l) (G := G) l0 h _ hv) q_2_89 q_2_90 q_2_91 q_1_3 q_2_92 (by decide +kernel) rfl ⟨Nat.le_of_ble_eq_true rfl, Nat.le_of_ble_eq_true rfl⟩ (st0 := [.ref (e_ad G l0)]) (st1 := [.int v5]) rfl rfl hl.1 (Nat.le_of_ble_eq_true rfl) dX0_worth_53 ⟨Nat.le_refl _, Nat.le_refl _⟩ (fun H locs J => ?_)
    refine lv_aload_n hx hb dX0_worth_56 rfl (lv_at hl 0 rfl) ?_
    refine lv_iconst (v := nI 1) hx hb dX0_worth_57 (by decide) ?_
    refine lv_iconst (v := nI 0) hx hb dX0_worth_58 (by decide) ?_
    obtain ⟨v6, hv, hM⟩ := e_bs hM
    obtain ⟨fs_, hk, -⟩ := e_bs hv
    refine e_callV (ci := 0) (As := [.int (nI 1), .int (nI 0)]) (rest := [.int v5]) (n := 2) E J hk rfl (mX0_number (l := l) (G := G) l0 (nI 1) (nI 0) h _ hv) q_2_93 q_2_48 q_2_49 q_1_3 q_2_50 (by decide +kernel) rfl ⟨Nat.le_of_ble_eq_true rfl, Nat.le_of_ble_eq_true rfl⟩ (st0 := [.int (nI 0), .int (nI 1), .ref (e_ad G l0), .int v5]) (st1 := [.int v6, .int v5]) rfl rfl hl.1 (Nat.le_of_ble_eq_true rfl) dX0_worth_59 ⟨Nat.le_refl _, Nat.le_refl _⟩ (fun H locs J => ?_)
    refine lv_iadd hx hb dX0_worth_62 ?_
    refine lv_ineg hx hb dX0_worth_63 ?_
    obtain rfl := e_so hM
    exact e_iret E J dX0_worth_64
  have hM := e_in hc2 hM
  by_cases hc3 : v1 = nI 4
  · have hM := e_ip hc3 hM
    refine e_tin (y := nI 4) (off := 68) (tgt := 72) hx hb dX0_worth_4 hc3 (by decide) (by decide) (by decide +kernel) (by decide) ?_
    refine lv_iconst (v := nI 2) hx hb dX0_worth_72 (by decide) ?_
    refine lv_aload_n hx hb dX0_worth_73 rfl (lv_at hl 0 rfl) ?_
    obtain ⟨v7, hv, hM⟩ := e_bs hM
    obtain ⟨fs_, hk, -⟩ := e_bs hv
    refine e_callV (ci := 0) (As := []) (rest := [.int (nI 2)]) (n := 0) E J hk rfl (mX0_notZero (l := l) (G := G) l0 h _ hv) q_2_89 q_2_90 q_2_91 q_1_3 q_2_92 (by decide +kernel) rfl ⟨Nat.le_of_ble_eq_true rfl, Nat.le_of_ble_eq_true rfl⟩ (st0 := [.ref (e_ad G l0), .int (nI 2)]) (st1 := [.int v7, .int (nI 2)]) rfl rfl hl.1 (Nat.le_of_ble_eq_true rfl) dX0_worth_74 ⟨Nat.le_refl _, Nat.le_refl _⟩ (fun H locs J => ?_)
    refine lv_imul hx hb dX0_worth_77 ?_
    refine lv_iconst (v := nI 1) hx hb dX0_worth_78 (by decide) ?_
    refine lv_iadd hx hb dX0_worth_79 ?_
    obtain rfl := e_so hM
    exact e_iret E J dX0_worth_80
  have hM := e_in hc3 hM
  by_cases hc4 : v1 = nI 5
  · have hM := e_ip hc4 hM
    refine e_tin (y := nI 5) (off := 77) (tgt := 81) hx hb dX0_worth_4 hc4 (by decide) (by decide) (by decide +kernel) (by decide) ?_
    refine lv_aload_n hx hb dX0_worth_81 rfl (lv_at hl 0 rfl) ?_
    refine lv_iconst (v := nI 0) hx hb dX0_worth_82 (by decide) ?_
    refine lv_iconst (v := nI 0) hx hb dX0_worth_83 (by decide) ?_
    obtain ⟨v8, hv, hM⟩ := e_bs hM
    obtain ⟨fs_, hk, -⟩ := e_bs hv
    refine e_callV (ci := 0) (As := [.int (nI 0), .int (nI 0)]) (rest := []) (n := 2) E J hk rfl (mX0_number (l := l) (G := G) l0 (nI 0) (nI 0) h _ hv) q_2_93 q_2_48 q_2_49 q_1_3 q_2_50 (by decide +kernel) rfl ⟨Nat.le_of_ble_eq_true rfl, Nat.le_of_ble_eq_true rfl⟩ (st0 := [.int (nI 0), .int (nI 0), .ref (e_ad G l0)]) (st1 := [.int v8]) rfl rfl hl.1 (Nat.le_of_ble_eq_true rfl) dX0_worth_84 ⟨Nat.le_refl _, Nat.le_refl _⟩ (fun H locs J => ?_)
    obtain rfl := e_so hM
    exact e_iret E J dX0_worth_87
  have hM := e_in hc4 hM
  refine lv_tableOut (tgt := 88) hx hb dX0_worth_4 (Classical.byContradiction fun hn => by
      have h9 : v1.toInt = 1 ∨ v1.toInt = 2 ∨ v1.toInt = 3 ∨ v1.toInt = 4 ∨ v1.toInt = 5 := by omega
      rcases h9 with h9 | h9 | h9 | h9 | h9
      · exact hc0 (e_i32 (h9.trans (by decide)))
      · exact hc1 (e_i32 (h9.trans (by decide)))
      · exact hc2 (e_i32 (h9.trans (by decide)))
      · exact hc3 (e_i32 (h9.trans (by decide)))
      · exact hc4 (e_i32 (h9.trans (by decide)))) (by decide) ?_
  refine lv_aload_n hx hb dX0_worth_88 rfl (lv_at hl 0 rfl) ?_
  obtain ⟨v9, hv, hM⟩ := e_bs hM
  obtain ⟨fs_, hk, -⟩ := e_bs hv
  refine e_callV (ci := 0) (As := []) (rest := []) (n := 0) E J hk rfl (mX0_notZero (l := l) (G := G) l0 h _ hv) q_2_89 q_2_90 q_2_91 q_1_3 q_2_92 (by decide +kernel) rfl ⟨Nat.le_of_ble_eq_true rfl, Nat.le_of_ble_eq_true rfl⟩ (st0 := [.ref (e_ad G l0)]) (st1 := [.int v9]) rfl rfl hl.1 (Nat.le_of_ble_eq_true rfl) dX0_worth_89 ⟨Nat.le_refl _, Nat.le_refl _⟩ (fun H locs J => ?_)
  obtain rfl := e_so hM
  exact e_iret E J dX0_worth_92
set_option maxRecDepth 100000 in
set_option maxHeartbeats 4000000 in
theorem mX6_setTerm {l : Launch} {G : e_G} (l0 : Nat) (l1 : Int32) (l2 : Int32) (h : e_H) (res : e_H) (hM : fX6_setTerm l0 l1 l2 h = some res) : Met l yX6_setTerm (e_W yX6_setTerm cX6_setTerm 3 none) (e_rm 0 0) (e_Pc G h [.ref (e_ad G l0), .int l1, .int l2]) (e_Q G res (none)) 0 0 (e_A G) := by
  refine Met.ofW (cc := cX6_setTerm) (maxL := 3) (ret := none) (by decide) rfl ?_
  intro p e s m args below meth c s₁ B hml hv
  obtain ⟨rfl, hS, hP⟩ := hv
  have E := e_enter (own := RX6) (ret := none) B hml rfl hS hP
  have J : e_J G s h s.heap [] := ⟨hP, va_S.rf⟩
  have hl := lv_entry ([.ref (e_ad G l0), .int l1, .int l2]) (n := 3) (Nat.le_of_ble_eq_true rfl)
  rw [lg_entry_eq]
  generalize (lg_sl ([.ref (e_ad G l0), .int l1, .int l2]) ++ List.replicate (3 - (lg_sl ([.ref (e_ad G l0), .int l1, .int l2])).length) Slot.unset).toArray = ls at hl ⊢
  have hl : lv_has ls 3 [(0, .ref (e_ad G l0)), (1, .int l1), (2, .int l2)] := hl
  obtain ⟨hx, hb, hr, hml, hown, hts, hlocks, hES, hbs⟩ := id E
  unfold fX6_setTerm at hM
  obtain ⟨fs_, hk_, hM⟩ := e_bs hM
  refine lv_iload_n hx hb dX6_setTerm_0 rfl (lv_at hl 1 rfl) ?_
  refine lv_if_lt (tgt := 20) hx hb dX6_setTerm_1 (by decide) (fun hc => ?_) (fun hc => ?_)
  · have hM := e_ip hc hM
    obtain rfl := e_so hM
    exact e_vret E J dX6_setTerm_20
  · have hM := e_in hc hM
    refine lv_iload_n hx hb dX6_setTerm_4 rfl (lv_at hl 1 rfl) ?_
    refine lv_aload_n hx hb dX6_setTerm_5 rfl (lv_at hl 0 rfl) ?_
    obtain ⟨v1, hv, hM⟩ := e_bs hM
    refine e_getR (C := RX6) (T := TX6) (N := 9) E J hv rfl inX6 (by decide) q_1_98 dX6_setTerm_6 ?_
    rcases v1 with _ | a2
    · have hM := e_on0 hM
      refine W.eq (g2 := F0 m 9 ls [.null, .int l1]) rfl ?_
      exact e_no hM
    · have hM := e_on1 hM
      refine W.eq (g2 := F0 m 9 ls [.ref (e_ad G a2), .int l1]) rfl ?_
      obtain ⟨v3, hv, hM⟩ := e_bs hM
      refine e_alen E J hv rfl rfl dX6_setTerm_9 ?_
      refine lv_icmp_ge (tgt := 20) hx hb dX6_setTerm_10 (by decide) (fun hc => ?_) (fun hc => ?_)
      · have hM := e_ip hc hM
        obtain rfl := e_so hM
        exact e_vret E J dX6_setTerm_20
      · have hM := e_in hc hM
        refine lv_aload_n hx hb dX6_setTerm_13 rfl (lv_at hl 0 rfl) ?_
        obtain ⟨v4, hv, hM⟩ := e_bs hM
        refine e_getR (C := RX6) (T := TX6) (N := 9) E J hv rfl inX6 (by decide) q_1_98 dX6_setTerm_14 ?_
        rcases v4 with _ | a5
        · have hM := e_on0 hM
          refine W.eq (g2 := F0 m 17 ls [.null]) rfl ?_
          refine lv_iload_n hx hb dX6_setTerm_17 rfl (lv_at hl 1 rfl) ?_
          refine lv_iload_n hx hb dX6_setTerm_18 rfl (lv_at hl 2 rfl) ?_
          exact e_no hM
        · have hM := e_on1 hM
          refine W.eq (g2 := F0 m 17 ls [.ref (e_ad G a5)]) rfl ?_
          refine lv_iload_n hx hb dX6_setTerm_17 rfl (lv_at hl 1 rfl) ?_
          refine lv_iload_n hx hb dX6_setTerm_18 rfl (lv_at hl 2 rfl) ?_
          obtain ⟨h7, hv, hM⟩ := e_bs hM
          refine e_iast E J hv dX6_setTerm_19 (fun H locs J => ?_)
          obtain rfl := e_so hM
          exact e_vret E J dX6_setTerm_20
set_option maxRecDepth 100000 in
set_option maxHeartbeats 4000000 in
theorem mX6_look_b9 {p : Program} {l : Launch} {e : Env} {s : State} {m : MethodId} {args : Array Value} {below : List Frame} {meth : Method} {c : Code} {G : e_G} {res : e_H} {k2 : Nat → Nat → Int32 → e_H → Option e_H} {k9 : Nat → Nat → Int32 → Int32 → e_H → Option e_H} (E : e_M G p s args m meth c cX6_look 4 none RX6) (K2 : ∀ (l0 : Nat) (l1 : Nat) (l2 : Int32) (h : e_H), k2 l0 l1 l2 h = some res → ∀ (H : Heap) (locs : List Loc), e_J G s h H locs → ∀ (ls : Array Slot), lv_has ls 4 [(0, .ref (e_ad G l0)), (1, .ref (e_ad G l1)), (2, .int l2)] → W p l e (e_rm 4 101) s m args below meth c H locs 0 0 (MQ below (e_Q G res (none)) args s 0 0 (e_A G)) (F0 m 2 ls [])) (K9 : ∀ (l0 : Nat) (l1 : Nat) (l2 : Int32) (l3 : Int32) (h : e_H), k9 l0 l1 l2 l3 h = some res → ∀ (H : Heap) (locs : List Loc), e_J G s h H locs → ∀ (ls : Array Slot), lv_has ls 4 [(0, .ref (e_ad G l0)), (1, .ref (e_ad G l1)), (2, .int l2), (3, .int l3)] → W p l e (e_rm 4 101) s m args below meth c H locs 0 0 (MQ below (e_Q G res (none)) args s 0 0 (e_A G)) (F0 m 9 ls [])) (l0 : Nat) (l1 : Nat) (l2 : Int32) (l3 : Int32) (h : e_H) (hM : fX6_look_b9 k2 k9 l0 l1 l2 l3 h = some res) {H : Heap} {locs : List Loc} (J : e_J G s h H locs) {ls : Array Slot} (hl : lv_has ls 4 [(0, .ref (e_ad G l0)), (1, .ref (e_ad G l1)), (2, .int l2), (3, .int l3)]) : W p l e (e_rm 4 101) s m args below meth c H locs 0 0 (MQ below (e_Q G res (none)) args s 0 0 (e_A G)) (F0 m 9 ls []) := by
  obtain ⟨hx, hb, hr, hml, hown, hts, hlocks, hES, hbs⟩ := id E
  unfold fX6_look_b9 at hM
  refine lv_iload_n hx hb dX6_look_9 rfl (lv_at hl 3 rfl) ?_
  refine lv_iconst (v := nI 4) hx hb dX6_look_10 (by decide) ?_
  refine lv_iload_n hx hb dX6_look_11 rfl (lv_at hl 2 rfl) ?_
  refine lv_isub hx hb dX6_look_12 ?_
  refine lv_icmp_gt (tgt := 41) hx hb dX6_look_13 (by decide) (fun hc => ?_) (fun hc => ?_)
  · have hM := e_ip hc hM
    refine lv_iinc (v := (l2 + (nI 1))) (lv' := [(2, .int (l2 + (nI 1))), (0, .ref (e_ad G l0)), (1, .ref (e_ad G l1)), (3, .int l3)]) hx hb dX6_look_41 hl (k := 2) rfl rfl (by decide) rfl (fun ls hl => ?_)
    refine lv_goto (tgt := 2) hx hb dX6_look_44 (by decide) ?_
    exact K2 l0 l1 (l2 + (nI 1)) h hM _ _ J _ (lv_sub hl [1, 2, 0] rfl)
  · have hM := e_in hc hM
    refine lv_aload_n hx hb dX6_look_16 rfl (lv_at hl 0 rfl) ?_
    refine lv_iload_n hx hb dX6_look_17 rfl (lv_at hl 2 rfl) ?_
    refine lv_iload_n hx hb dX6_look_18 rfl (lv_at hl 3 rfl) ?_
    obtain ⟨v1, hv, hM⟩ := e_bs hM
    refine e_callSN (As := [.int l2, .int l3]) (rest := [.ref (e_ad G l0)]) (n := 2) (host := RX8) E J (mX8_indexOf (l := l) (G := G) l2 l3 h _ hv) (List.mem_of_getElem? (i := 9) rfl) q_2_19 q_1_1 q_2_20 (by decide +kernel) rfl ⟨Nat.le_of_ble_eq_true rfl, Nat.le_of_ble_eq_true rfl⟩ (st0 := [.int l3, .int l2, .ref (e_ad G l0)]) (st1 := [.int v1, .ref (e_ad G l0)]) rfl rfl hl.1 (Nat.le_of_ble_eq_true rfl) dX6_look_19 ⟨Nat.le_refl _, Nat.le_refl _⟩ (fun H locs J => ?_)
    refine lv_aload_n hx hb dX6_look_22 rfl (lv_at hl 0 rfl) ?_
    obtain ⟨v2, hv, hM⟩ := e_bs hM
    refine e_getR (C := RX6) (T := TX6) (N := 9) E J hv rfl inX6 (by decide) q_1_97 dX6_look_23 ?_
    rcases v2 with _ | a3
    · have hM := e_on0 hM
      refine W.eq (g2 := F0 m 26 ls [.null, .int v1, .ref (e_ad G l0)]) rfl ?_
      refine lv_aload_n hx hb dX6_look_26 rfl (lv_at hl 1 rfl) ?_
      refine lv_iload_n hx hb dX6_look_27 rfl (lv_at hl 2 rfl) ?_
      refine lv_iload_n hx hb dX6_look_28 rfl (lv_at hl 3 rfl) ?_
      exact e_no hM
    · have hM := e_on1 hM
      refine W.eq (g2 := F0 m 26 ls [.ref (e_ad G a3), .int v1, .ref (e_ad G l0)]) rfl ?_
      refine lv_aload_n hx hb dX6_look_26 rfl (lv_at hl 1 rfl) ?_
      refine lv_iload_n hx hb dX6_look_27 rfl (lv_at hl 2 rfl) ?_
      refine lv_iload_n hx hb dX6_look_28 rfl (lv_at hl 3 rfl) ?_
      obtain ⟨p4, hv, hM⟩ := e_bs hM
      obtain ⟨fs_, hk, -⟩ := e_bs hv
      refine e_callV (ci := 7) (As := [.ref (e_ad G l1), .int l2, .int l3]) (rest := [.int v1, .ref (e_ad G l0)]) (n := 3) E J hk rfl (mX7_termAt (l := l) (G := G) a3 l1 l2 l3 h _ hv) q_2_99 q_2_36 q_2_37 q_1_2 q_2_38 (by decide +kernel) rfl ⟨Nat.le_of_ble_eq_true rfl, Nat.le_of_ble_eq_true rfl⟩ (st0 := [.int l3, .int l2, .ref (e_ad G l1), .ref (e_ad G a3), .int v1, .ref (e_ad G l0)]) (st1 := [.int p4.1, .int v1, .ref (e_ad G l0)]) rfl rfl hl.1 (Nat.le_of_ble_eq_true rfl) dX6_look_29 ⟨Nat.le_refl _, Nat.le_refl _⟩ (fun H locs J => ?_)
      obtain ⟨h5, hv, hM⟩ := e_bs hM
      obtain ⟨fs_, hk, -⟩ := e_bs hv
      refine e_callV (ci := 6) (As := [.int v1, .int p4.1]) (rest := []) (n := 2) E J hk rfl (mX6_setTerm (l := l) (G := G) l0 v1 p4.1 p4.2 _ hv) q_2_100 q_2_102 q_p_0 q_1_4 q_2_103 (by decide +kernel) rfl ⟨Nat.le_of_ble_eq_true rfl, Nat.le_of_ble_eq_true rfl⟩ (st0 := [.int p4.1, .int v1, .ref (e_ad G l0)]) (st1 := []) rfl rfl hl.1 (Nat.le_of_ble_eq_true rfl) dX6_look_32 ⟨Nat.le_refl _, Nat.le_refl _⟩ (fun H locs J => ?_)
      refine lv_iinc (v := (l3 + (nI 1))) (lv' := [(3, .int (l3 + (nI 1))), (0, .ref (e_ad G l0)), (1, .ref (e_ad G l1)), (2, .int l2)]) hx hb dX6_look_35 hl (k := 3) rfl rfl (by decide) rfl (fun ls hl => ?_)
      refine lv_goto (tgt := 9) hx hb dX6_look_38 (by decide) ?_
      exact K9 l0 l1 l2 (l3 + (nI 1)) h5 hM _ _ J _ (lv_sub hl [1, 2, 3, 0] rfl)
set_option maxRecDepth 100000 in
set_option maxHeartbeats 4000000 in
theorem mX6_look_L9 {p : Program} {l : Launch} {e : Env} {s : State} {m : MethodId} {args : Array Value} {below : List Frame} {meth : Method} {c : Code} {G : e_G} {res : e_H} {k2 : Nat → Nat → Int32 → e_H → Option e_H} (E : e_M G p s args m meth c cX6_look 4 none RX6) (K2 : ∀ (l0 : Nat) (l1 : Nat) (l2 : Int32) (h : e_H), k2 l0 l1 l2 h = some res → ∀ (H : Heap) (locs : List Loc), e_J G s h H locs → ∀ (ls : Array Slot), lv_has ls 4 [(0, .ref (e_ad G l0)), (1, .ref (e_ad G l1)), (2, .int l2)] → W p l e (e_rm 4 101) s m args below meth c H locs 0 0 (MQ below (e_Q G res (none)) args s 0 0 (e_A G)) (F0 m 2 ls [])) (n : Nat) (l0 : Nat) (l1 : Nat) (l2 : Int32) (l3 : Int32) (h : e_H) (hM : fX6_look_L9 k2 n l0 l1 l2 l3 h = some res) {H : Heap} {locs : List Loc} (J : e_J G s h H locs) {ls : Array Slot} (hl : lv_has ls 4 [(0, .ref (e_ad G l0)), (1, .ref (e_ad G l1)), (2, .int l2), (3, .int l3)]) : W p l e (e_rm 4 101) s m args below meth c H locs 0 0 (MQ below (e_Q G res (none)) args s 0 0 (e_A G)) (F0 m 9 ls []) := by
  induction n generalizing l0 l1 l2 l3 h H locs ls with
  | zero => exact e_no hM
  | succ n ih => exact mX6_look_b9 (k9 := (fX6_look_L9 k2 n)) E  K2 (fun l0 l1 l2 l3 h hM H locs J ls hl => ih l0 l1 l2 l3 h hM J hl) l0 l1 l2 l3 h hM J hl
set_option maxRecDepth 100000 in
set_option maxHeartbeats 4000000 in
theorem mX6_look_b2 {p : Program} {l : Launch} {e : Env} {s : State} {m : MethodId} {args : Array Value} {below : List Frame} {meth : Method} {c : Code} {G : e_G} {res : e_H} {k2 : Nat → Nat → Int32 → e_H → Option e_H} (E : e_M G p s args m meth c cX6_look 4 none RX6) (K2 : ∀ (l0 : Nat) (l1 : Nat) (l2 : Int32) (h : e_H), k2 l0 l1 l2 h = some res → ∀ (H : Heap) (locs : List Loc), e_J G s h H locs → ∀ (ls : Array Slot), lv_has ls 4 [(0, .ref (e_ad G l0)), (1, .ref (e_ad G l1)), (2, .int l2)] → W p l e (e_rm 4 101) s m args below meth c H locs 0 0 (MQ below (e_Q G res (none)) args s 0 0 (e_A G)) (F0 m 2 ls [])) (l0 : Nat) (l1 : Nat) (l2 : Int32) (h : e_H) (hM : fX6_look_b2 k2 l0 l1 l2 h = some res) {H : Heap} {locs : List Loc} (J : e_J G s h H locs) {ls : Array Slot} (hl : lv_has ls 4 [(0, .ref (e_ad G l0)), (1, .ref (e_ad G l1)), (2, .int l2)]) : W p l e (e_rm 4 101) s m args below meth c H locs 0 0 (MQ below (e_Q G res (none)) args s 0 0 (e_A G)) (F0 m 2 ls []) := by
  obtain ⟨hx, hb, hr, hml, hown, hts, hlocks, hES, hbs⟩ := id E
  unfold fX6_look_b2 at hM
  refine lv_iload_n hx hb dX6_look_2 rfl (lv_at hl 2 rfl) ?_
  refine lv_iconst (v := nI 4) hx hb dX6_look_3 (by decide) ?_
  refine lv_icmp_gt (tgt := 47) hx hb dX6_look_4 (by decide) (fun hc => ?_) (fun hc => ?_)
  · have hM := e_ip hc hM
    obtain rfl := e_so hM
    exact e_vret E J dX6_look_47
  · have hM := e_in hc hM
    refine lv_iconst (v := nI 0) hx hb dX6_look_7 (by decide) ?_
    refine lv_istore_n (lv' := [(3, .int (nI 0)), (0, .ref (e_ad G l0)), (1, .ref (e_ad G l1)), (2, .int l2)]) hx hb dX6_look_8 rfl hl (by decide) rfl (fun ls hl => ?_)
    exact mX6_look_L9 E K2 200 l0 l1 l2 (nI 0) h hM J (lv_sub hl [1, 2, 3, 0] rfl)
set_option maxRecDepth 100000 in
set_option maxHeartbeats 4000000 in
theorem mX6_look_L2 {p : Program} {l : Launch} {e : Env} {s : State} {m : MethodId} {args : Array Value} {below : List Frame} {meth : Method} {c : Code} {G : e_G} {res : e_H} (E : e_M G p s args m meth c cX6_look 4 none RX6) (n : Nat) (l0 : Nat) (l1 : Nat) (l2 : Int32) (h : e_H) (hM : fX6_look_L2 n l0 l1 l2 h = some res) {H : Heap} {locs : List Loc} (J : e_J G s h H locs) {ls : Array Slot} (hl : lv_has ls 4 [(0, .ref (e_ad G l0)), (1, .ref (e_ad G l1)), (2, .int l2)]) : W p l e (e_rm 4 101) s m args below meth c H locs 0 0 (MQ below (e_Q G res (none)) args s 0 0 (e_A G)) (F0 m 2 ls []) := by
  induction n generalizing l0 l1 l2 h H locs ls with
  | zero => exact e_no hM
  | succ n ih => exact mX6_look_b2 (k2 := (fX6_look_L2 n)) E   (fun l0 l1 l2 h hM H locs J ls hl => ih l0 l1 l2 h hM J hl) l0 l1 l2 h hM J hl
set_option maxRecDepth 100000 in
set_option maxHeartbeats 4000000 in
theorem mX6_look {l : Launch} {G : e_G} (l0 : Nat) (l1 : Nat) (h : e_H) (res : e_H) (hM : fX6_look l0 l1 h = some res) : Met l yX6_look (e_W yX6_look cX6_look 4 none) (e_rm 4 101) (e_Pc G h [.ref (e_ad G l0), .ref (e_ad G l1)]) (e_Q G res (none)) 0 0 (e_A G) := by
  refine Met.ofW (cc := cX6_look) (maxL := 4) (ret := none) (by decide) rfl ?_
  intro p e s m args below meth c s₁ B hml hv
  obtain ⟨rfl, hS, hP⟩ := hv
  have E := e_enter (own := RX6) (ret := none) B hml rfl hS hP
  have J : e_J G s h s.heap [] := ⟨hP, va_S.rf⟩
  have hl := lv_entry ([.ref (e_ad G l0), .ref (e_ad G l1)]) (n := 4) (Nat.le_of_ble_eq_true rfl)
  rw [lg_entry_eq]
  generalize (lg_sl ([.ref (e_ad G l0), .ref (e_ad G l1)]) ++ List.replicate (4 - (lg_sl ([.ref (e_ad G l0), .ref (e_ad G l1)])).length) Slot.unset).toArray = ls at hl ⊢
  have hl : lv_has ls 4 [(0, .ref (e_ad G l0)), (1, .ref (e_ad G l1))] := hl
  obtain ⟨hx, hb, hr, hml, hown, hts, hlocks, hES, hbs⟩ := id E
  unfold fX6_look at hM
  obtain ⟨fs_, hk_, hM⟩ := e_bs hM
  refine lv_iconst (v := nI 0) hx hb dX6_look_0 (by decide) ?_
  refine lv_istore_n (lv' := [(2, .int (nI 0)), (0, .ref (e_ad G l0)), (1, .ref (e_ad G l1))]) hx hb dX6_look_1 rfl hl (by decide) rfl (fun ls hl => ?_)
  exact mX6_look_L2 E 200 l0 l1 (nI 0) h hM J (lv_sub hl [1, 2, 0] rfl)
set_option maxRecDepth 100000 in
set_option maxHeartbeats 4000000 in
theorem mX6_termOf {l : Launch} {G : e_G} (l0 : Nat) (l1 : Int32) (l2 : Int32) (h : e_H) (res : Int32) (hM : fX6_termOf l0 l1 l2 h = some res) : Met l yX6_termOf (e_W yX6_termOf cX6_termOf 4 (some FieldType.int)) (e_rm 1 21) (e_Pc G h [.ref (e_ad G l0), .int l1, .int l2]) (e_Q G h (some (.int res))) 0 0 (e_A G) := by
  refine Met.ofW (cc := cX6_termOf) (maxL := 4) (ret := (some FieldType.int)) (by decide) rfl ?_
  intro p e s m args below meth c s₁ B hml hv
  obtain ⟨rfl, hS, hP⟩ := hv
  have E := e_enter (own := RX6) (ret := (some FieldType.int)) B hml rfl hS hP
  have J : e_J G s h s.heap [] := ⟨hP, va_S.rf⟩
  have hl := lv_entry ([.ref (e_ad G l0), .int l1, .int l2]) (n := 4) (Nat.le_of_ble_eq_true rfl)
  rw [lg_entry_eq]
  generalize (lg_sl ([.ref (e_ad G l0), .int l1, .int l2]) ++ List.replicate (4 - (lg_sl ([.ref (e_ad G l0), .int l1, .int l2])).length) Slot.unset).toArray = ls at hl ⊢
  have hl : lv_has ls 4 [(0, .ref (e_ad G l0)), (1, .int l1), (2, .int l2)] := hl
  obtain ⟨hx, hb, hr, hml, hown, hts, hlocks, hES, hbs⟩ := id E
  unfold fX6_termOf at hM
  obtain ⟨fs_, hk_, hM⟩ := e_bs hM
  refine lv_iload_n hx hb dX6_termOf_0 rfl (lv_at hl 1 rfl) ?_
  refine lv_iload_n hx hb dX6_termOf_1 rfl (lv_at hl 2 rfl) ?_
  obtain ⟨v1, hv, hM⟩ := e_bs hM
  refine e_callSN (As := [.int l1, .int l2]) (rest := []) (n := 2) (host := RX8) E J (mX8_indexOf (l := l) (G := G) l1 l2 h _ hv) (List.mem_of_getElem? (i := 9) rfl) q_2_19 q_1_1 q_2_20 (by decide +kernel) rfl ⟨Nat.le_of_ble_eq_true rfl, Nat.le_of_ble_eq_true rfl⟩ (st0 := [.int l2, .int l1]) (st1 := [.int v1]) rfl rfl hl.1 (Nat.le_of_ble_eq_true rfl) dX6_termOf_2 ⟨Nat.le_refl _, Nat.le_refl _⟩ (fun H locs J => ?_)
  refine lv_istore_n (lv' := [(3, .int v1), (0, .ref (e_ad G l0)), (1, .int l1), (2, .int l2)]) hx hb dX6_termOf_5 rfl hl (by decide) rfl (fun ls hl => ?_)
  refine lv_iload_n hx hb dX6_termOf_6 rfl (lv_at hl 0 rfl) ?_
  refine lv_if_lt (tgt := 19) hx hb dX6_termOf_7 (by decide) (fun hc => ?_) (fun hc => ?_)
  · have hM := e_ip hc hM
    refine lv_iconst (v := nI 0) hx hb dX6_termOf_19 (by decide) ?_
    refine lv_goto (tgt := 29) hx hb dX6_termOf_20 (by decide) ?_
    obtain rfl := e_so hM
    exact e_iret E J dX6_termOf_29
  · have hM := e_in hc hM
    refine lv_iload_n hx hb dX6_termOf_10 rfl (lv_at hl 0 rfl) ?_
    refine lv_aload_n hx hb dX6_termOf_11 rfl (lv_at hl 1 rfl) ?_
    obtain ⟨v2, hv, hM⟩ := e_bs hM
    refine e_getR (C := RX6) (T := TX6) (N := 9) E J hv rfl inX6 (by decide) q_1_98 dX6_termOf_12 ?_
    rcases v2 with _ | a3
    · have hM := e_on0 hM
      refine W.eq (g2 := F0 m 15 ls [.null, .int v1]) rfl ?_
      exact e_no hM
    · have hM := e_on1 hM
      refine W.eq (g2 := F0 m 15 ls [.ref (e_ad G a3), .int v1]) rfl ?_
      obtain ⟨v4, hv, hM⟩ := e_bs hM
      refine e_alen E J hv rfl rfl dX6_termOf_15 ?_
      refine lv_icmp_lt (tgt := 23) hx hb dX6_termOf_16 (by decide) (fun hc => ?_) (fun hc => ?_)
      · have hM := e_ip hc hM
        refine lv_aload_n hx hb dX6_termOf_23 rfl (lv_at hl 1 rfl) ?_
        obtain ⟨v5, hv, hM⟩ := e_bs hM
        refine e_getR (C := RX6) (T := TX6) (N := 9) E J hv rfl inX6 (by decide) q_1_98 dX6_termOf_24 ?_
        rcases v5 with _ | a6
        · have hM := e_on0 hM
          refine W.eq (g2 := F0 m 27 ls [.null]) rfl ?_
          refine lv_iload_n hx hb dX6_termOf_27 rfl (lv_at hl 0 rfl) ?_
          exact e_no hM
        · have hM := e_on1 hM
          refine W.eq (g2 := F0 m 27 ls [.ref (e_ad G a6)]) rfl ?_
          refine lv_iload_n hx hb dX6_termOf_27 rfl (lv_at hl 0 rfl) ?_
          obtain ⟨v7, hv, hM⟩ := e_bs hM
          refine e_iald E J hv dX6_termOf_28 ?_
          obtain rfl := e_so hM
          exact e_iret E J dX6_termOf_29
      · have hM := e_in hc hM
        refine lv_iconst (v := nI 0) hx hb dX6_termOf_19 (by decide) ?_
        refine lv_goto (tgt := 29) hx hb dX6_termOf_20 (by decide) ?_
        obtain rfl := e_so hM
        exact e_iret E J dX6_termOf_29
set_option maxRecDepth 100000 in
set_option maxHeartbeats 4000000 in
theorem mX6_degree_b35 {p : Program} {l : Launch} {e : Env} {s : State} {m : MethodId} {args : Array Value} {below : List Frame} {meth : Method} {c : Code} {G : e_G} {res : Int32} {k4 : Nat → Int32 → Int32 → Option Int32} {k11 : Nat → Int32 → Int32 → Int32 → Option Int32} (E : e_M G p s args m meth c cX6_degree 4 (some FieldType.int) RX6) (h : e_H) (K4 : ∀ (l0 : Nat) (l1 : Int32) (l2 : Int32), k4 l0 l1 l2 = some res → ∀ (H : Heap) (locs : List Loc), e_J G s h H locs → ∀ (ls : Array Slot), lv_has ls 4 [(0, .ref (e_ad G l0)), (1, .int l1), (2, .int l2)] → W p l e (e_rm 2 44) s m args below meth c H locs 0 0 (MQ below (e_Q G h (some (.int res))) args s 0 0 (e_A G)) (F0 m 4 ls [])) (K11 : ∀ (l0 : Nat) (l1 : Int32) (l2 : Int32) (l3 : Int32), k11 l0 l1 l2 l3 = some res → ∀ (H : Heap) (locs : List Loc), e_J G s h H locs → ∀ (ls : Array Slot), lv_has ls 4 [(0, .ref (e_ad G l0)), (1, .int l1), (2, .int l2), (3, .int l3)] → W p l e (e_rm 2 44) s m args below meth c H locs 0 0 (MQ below (e_Q G h (some (.int res))) args s 0 0 (e_A G)) (F0 m 11 ls [])) (l0 : Nat) (l1 : Int32) (l2 : Int32) (l3 : Int32) (hM : fX6_degree_b35 h k4 k11 l0 l1 l2 l3 = some res) {H : Heap} {locs : List Loc} (J : e_J G s h H locs) {ls : Array Slot} (hl : lv_has ls 4 [(0, .ref (e_ad G l0)), (1, .int l1), (2, .int l2), (3, .int l3)]) : W p l e (e_rm 2 44) s m args below meth c H locs 0 0 (MQ below (e_Q G h (some (.int res))) args s 0 0 (e_A G)) (F0 m 35 ls []) := by
  obtain ⟨hx, hb, hr, hml, hown, hts, hlocks, hES, hbs⟩ := id E
  unfold fX6_degree_b35 at hM
  refine lv_iinc (v := (l3 + (nI 1))) (lv' := [(3, .int (l3 + (nI 1))), (0, .ref (e_ad G l0)), (1, .int l1), (2, .int l2)]) hx hb dX6_degree_35 hl (k := 3) rfl rfl (by decide) rfl (fun ls hl => ?_)
  refine lv_goto (tgt := 11) hx hb dX6_degree_38 (by decide) ?_
  exact K11 l0 l1 l2 (l3 + (nI 1)) hM _ _ J _ (lv_sub hl [1, 2, 3, 0] rfl)
set_option maxRecDepth 100000 in
set_option maxHeartbeats 4000000 in
theorem mX6_degree_b11 {p : Program} {l : Launch} {e : Env} {s : State} {m : MethodId} {args : Array Value} {below : List Frame} {meth : Method} {c : Code} {G : e_G} {res : Int32} {k4 : Nat → Int32 → Int32 → Option Int32} {k11 : Nat → Int32 → Int32 → Int32 → Option Int32} (E : e_M G p s args m meth c cX6_degree 4 (some FieldType.int) RX6) (h : e_H) (K4 : ∀ (l0 : Nat) (l1 : Int32) (l2 : Int32), k4 l0 l1 l2 = some res → ∀ (H : Heap) (locs : List Loc), e_J G s h H locs → ∀ (ls : Array Slot), lv_has ls 4 [(0, .ref (e_ad G l0)), (1, .int l1), (2, .int l2)] → W p l e (e_rm 2 44) s m args below meth c H locs 0 0 (MQ below (e_Q G h (some (.int res))) args s 0 0 (e_A G)) (F0 m 4 ls [])) (K11 : ∀ (l0 : Nat) (l1 : Int32) (l2 : Int32) (l3 : Int32), k11 l0 l1 l2 l3 = some res → ∀ (H : Heap) (locs : List Loc), e_J G s h H locs → ∀ (ls : Array Slot), lv_has ls 4 [(0, .ref (e_ad G l0)), (1, .int l1), (2, .int l2), (3, .int l3)] → W p l e (e_rm 2 44) s m args below meth c H locs 0 0 (MQ below (e_Q G h (some (.int res))) args s 0 0 (e_A G)) (F0 m 11 ls [])) (l0 : Nat) (l1 : Int32) (l2 : Int32) (l3 : Int32) (hM : fX6_degree_b11 h k4 k11 l0 l1 l2 l3 = some res) {H : Heap} {locs : List Loc} (J : e_J G s h H locs) {ls : Array Slot} (hl : lv_has ls 4 [(0, .ref (e_ad G l0)), (1, .int l1), (2, .int l2), (3, .int l3)]) : W p l e (e_rm 2 44) s m args below meth c H locs 0 0 (MQ below (e_Q G h (some (.int res))) args s 0 0 (e_A G)) (F0 m 11 ls []) := by
  obtain ⟨hx, hb, hr, hml, hown, hts, hlocks, hES, hbs⟩ := id E
  unfold fX6_degree_b11 at hM
  refine lv_iload_n hx hb dX6_degree_11 rfl (lv_at hl 3 rfl) ?_
  refine lv_iconst (v := nI 4) hx hb dX6_degree_12 (by decide) ?_
  refine lv_iload_n hx hb dX6_degree_13 rfl (lv_at hl 2 rfl) ?_
  refine lv_isub hx hb dX6_degree_14 ?_
  refine lv_icmp_gt (tgt := 41) hx hb dX6_degree_15 (by decide) (fun hc => ?_) (fun hc => ?_)
  · have hM := e_ip hc hM
    refine lv_iinc (v := (l2 + (nI 1))) (lv' := [(2, .int (l2 + (nI 1))), (0, .ref (e_ad G l0)), (1, .int l1), (3, .int l3)]) hx hb dX6_degree_41 hl (k := 2) rfl rfl (by decide) rfl (fun ls hl => ?_)
    refine lv_goto (tgt := 4) hx hb dX6_degree_44 (by decide) ?_
    exact K4 l0 l1 (l2 + (nI 1)) hM _ _ J _ (lv_sub hl [1, 2, 0] rfl)
  · have hM := e_in hc hM
    refine lv_aload_n hx hb dX6_degree_18 rfl (lv_at hl 0 rfl) ?_
    refine lv_iload_n hx hb dX6_degree_19 rfl (lv_at hl 2 rfl) ?_
    refine lv_iload_n hx hb dX6_degree_20 rfl (lv_at hl 3 rfl) ?_
    obtain ⟨v1, hv, hM⟩ := e_bs hM
    obtain ⟨fs_, hk, -⟩ := e_bs hv
    refine e_callV (ci := 6) (As := [.int l2, .int l3]) (rest := []) (n := 2) E J hk rfl (mX6_termOf (l := l) (G := G) l0 l2 l3 h _ hv) q_2_108 q_2_110 q_p_1 q_1_4 q_2_111 (by decide +kernel) rfl ⟨Nat.le_of_ble_eq_true rfl, Nat.le_of_ble_eq_true rfl⟩ (st0 := [.int l3, .int l2, .ref (e_ad G l0)]) (st1 := [.int v1]) rfl rfl hl.1 (Nat.le_of_ble_eq_true rfl) dX6_degree_21 ⟨Nat.le_refl _, Nat.le_refl _⟩ (fun H locs J => ?_)
    refine lv_if_eq (tgt := 35) hx hb dX6_degree_24 (by decide) (fun hc => ?_) (fun hc => ?_)
    · have hM := e_ip hc hM
      exact mX6_degree_b35 E h K4 K11 l0 l1 l2 l3 hM J (lv_sub hl [0, 1, 2, 3] rfl)
    · have hM := e_in hc hM
      refine lv_iload_n hx hb dX6_degree_27 rfl (lv_at hl 1 rfl) ?_
      refine lv_iload_n hx hb dX6_degree_28 rfl (lv_at hl 2 rfl) ?_
      refine lv_iload_n hx hb dX6_degree_29 rfl (lv_at hl 3 rfl) ?_
      refine lv_iadd hx hb dX6_degree_30 ?_
      refine va_mmax hx hb (hml.trans hl.1.symm) hown (hts _ q_2_112) (hts _ q_2_79) (hts _ q_1_12) (hts _ q_2_80) (Nat.le_of_ble_eq_true rfl) (Nat.le_of_ble_eq_true rfl) (Nat.zero_le _) (Nat.zero_le _) dX6_degree_31 ?_
      refine lv_istore_n (lv' := [(1, .int (if l1 < (l2 + l3) then (l2 + l3) else l1)), (0, .ref (e_ad G l0)), (2, .int l2), (3, .int l3)]) hx hb dX6_degree_34 rfl hl (by decide) rfl (fun ls hl => ?_)
      exact mX6_degree_b35 E h K4 K11 l0 (if l1 < (l2 + l3) then (l2 + l3) else l1) l2 l3 hM J (lv_sub hl [1, 0, 2, 3] rfl)
set_option maxRecDepth 100000 in
set_option maxHeartbeats 4000000 in
theorem mX6_degree_L11 {p : Program} {l : Launch} {e : Env} {s : State} {m : MethodId} {args : Array Value} {below : List Frame} {meth : Method} {c : Code} {G : e_G} {res : Int32} {k4 : Nat → Int32 → Int32 → Option Int32} (E : e_M G p s args m meth c cX6_degree 4 (some FieldType.int) RX6) (h : e_H) (K4 : ∀ (l0 : Nat) (l1 : Int32) (l2 : Int32), k4 l0 l1 l2 = some res → ∀ (H : Heap) (locs : List Loc), e_J G s h H locs → ∀ (ls : Array Slot), lv_has ls 4 [(0, .ref (e_ad G l0)), (1, .int l1), (2, .int l2)] → W p l e (e_rm 2 44) s m args below meth c H locs 0 0 (MQ below (e_Q G h (some (.int res))) args s 0 0 (e_A G)) (F0 m 4 ls [])) (n : Nat) (l0 : Nat) (l1 : Int32) (l2 : Int32) (l3 : Int32) (hM : fX6_degree_L11 h k4 n l0 l1 l2 l3 = some res) {H : Heap} {locs : List Loc} (J : e_J G s h H locs) {ls : Array Slot} (hl : lv_has ls 4 [(0, .ref (e_ad G l0)), (1, .int l1), (2, .int l2), (3, .int l3)]) : W p l e (e_rm 2 44) s m args below meth c H locs 0 0 (MQ below (e_Q G h (some (.int res))) args s 0 0 (e_A G)) (F0 m 11 ls []) := by
  induction n generalizing l0 l1 l2 l3 H locs ls with
  | zero => exact e_no hM
  | succ n ih => exact mX6_degree_b11 (k11 := (fX6_degree_L11 h k4 n)) E h K4 (fun l0 l1 l2 l3 hM H locs J ls hl => ih l0 l1 l2 l3 hM J hl) l0 l1 l2 l3 hM J hl
set_option maxRecDepth 100000 in
set_option maxHeartbeats 4000000 in
theorem mX6_degree_b4 {p : Program} {l : Launch} {e : Env} {s : State} {m : MethodId} {args : Array Value} {below : List Frame} {meth : Method} {c : Code} {G : e_G} {res : Int32} {k4 : Nat → Int32 → Int32 → Option Int32} (E : e_M G p s args m meth c cX6_degree 4 (some FieldType.int) RX6) (h : e_H) (K4 : ∀ (l0 : Nat) (l1 : Int32) (l2 : Int32), k4 l0 l1 l2 = some res → ∀ (H : Heap) (locs : List Loc), e_J G s h H locs → ∀ (ls : Array Slot), lv_has ls 4 [(0, .ref (e_ad G l0)), (1, .int l1), (2, .int l2)] → W p l e (e_rm 2 44) s m args below meth c H locs 0 0 (MQ below (e_Q G h (some (.int res))) args s 0 0 (e_A G)) (F0 m 4 ls [])) (l0 : Nat) (l1 : Int32) (l2 : Int32) (hM : fX6_degree_b4 h k4 l0 l1 l2 = some res) {H : Heap} {locs : List Loc} (J : e_J G s h H locs) {ls : Array Slot} (hl : lv_has ls 4 [(0, .ref (e_ad G l0)), (1, .int l1), (2, .int l2)]) : W p l e (e_rm 2 44) s m args below meth c H locs 0 0 (MQ below (e_Q G h (some (.int res))) args s 0 0 (e_A G)) (F0 m 4 ls []) := by
  obtain ⟨hx, hb, hr, hml, hown, hts, hlocks, hES, hbs⟩ := id E
  unfold fX6_degree_b4 at hM
  refine lv_iload_n hx hb dX6_degree_4 rfl (lv_at hl 2 rfl) ?_
  refine lv_iconst (v := nI 4) hx hb dX6_degree_5 (by decide) ?_
  refine lv_icmp_gt (tgt := 47) hx hb dX6_degree_6 (by decide) (fun hc => ?_) (fun hc => ?_)
  · have hM := e_ip hc hM
    refine lv_iload_n hx hb dX6_degree_47 rfl (lv_at hl 1 rfl) ?_
    obtain rfl := e_so hM
    exact e_iret E J dX6_degree_48
  · have hM := e_in hc hM
    refine lv_iconst (v := nI 0) hx hb dX6_degree_9 (by decide) ?_
    refine lv_istore_n (lv' := [(3, .int (nI 0)), (0, .ref (e_ad G l0)), (1, .int l1), (2, .int l2)]) hx hb dX6_degree_10 rfl hl (by decide) rfl (fun ls hl => ?_)
    exact mX6_degree_L11 E h K4 200 l0 l1 l2 (nI 0) hM J (lv_sub hl [1, 2, 3, 0] rfl)
set_option maxRecDepth 100000 in
set_option maxHeartbeats 4000000 in
theorem mX6_degree_L4 {p : Program} {l : Launch} {e : Env} {s : State} {m : MethodId} {args : Array Value} {below : List Frame} {meth : Method} {c : Code} {G : e_G} {res : Int32} (E : e_M G p s args m meth c cX6_degree 4 (some FieldType.int) RX6) (h : e_H) (n : Nat) (l0 : Nat) (l1 : Int32) (l2 : Int32) (hM : fX6_degree_L4 h n l0 l1 l2 = some res) {H : Heap} {locs : List Loc} (J : e_J G s h H locs) {ls : Array Slot} (hl : lv_has ls 4 [(0, .ref (e_ad G l0)), (1, .int l1), (2, .int l2)]) : W p l e (e_rm 2 44) s m args below meth c H locs 0 0 (MQ below (e_Q G h (some (.int res))) args s 0 0 (e_A G)) (F0 m 4 ls []) := by
  induction n generalizing l0 l1 l2 H locs ls with
  | zero => exact e_no hM
  | succ n ih => exact mX6_degree_b4 (k4 := (fX6_degree_L4 h n)) E h  (fun l0 l1 l2 hM H locs J ls hl => ih l0 l1 l2 hM J hl) l0 l1 l2 hM J hl
set_option maxRecDepth 100000 in
set_option maxHeartbeats 4000000 in
theorem mX6_degree {l : Launch} {G : e_G} (l0 : Nat) (h : e_H) (res : Int32) (hM : fX6_degree l0 h = some res) : Met l yX6_degree (e_W yX6_degree cX6_degree 4 (some FieldType.int)) (e_rm 2 44) (e_Pc G h [.ref (e_ad G l0)]) (e_Q G h (some (.int res))) 0 0 (e_A G) := by
  refine Met.ofW (cc := cX6_degree) (maxL := 4) (ret := (some FieldType.int)) (by decide) rfl ?_
  intro p e s m args below meth c s₁ B hml hv
  obtain ⟨rfl, hS, hP⟩ := hv
  have E := e_enter (own := RX6) (ret := (some FieldType.int)) B hml rfl hS hP
  have J : e_J G s h s.heap [] := ⟨hP, va_S.rf⟩
  have hl := lv_entry ([.ref (e_ad G l0)]) (n := 4) (Nat.le_of_ble_eq_true rfl)
  rw [lg_entry_eq]
  generalize (lg_sl ([.ref (e_ad G l0)]) ++ List.replicate (4 - (lg_sl ([.ref (e_ad G l0)])).length) Slot.unset).toArray = ls at hl ⊢
  have hl : lv_has ls 4 [(0, .ref (e_ad G l0))] := hl
  obtain ⟨hx, hb, hr, hml, hown, hts, hlocks, hES, hbs⟩ := id E
  unfold fX6_degree at hM
  obtain ⟨fs_, hk_, hM⟩ := e_bs hM
  refine lv_iconst (v := -1) hx hb dX6_degree_0 (by decide) ?_
  refine lv_istore_n (lv' := [(1, .int (-1 : Int32)), (0, .ref (e_ad G l0))]) hx hb dX6_degree_1 rfl hl (by decide) rfl (fun ls hl => ?_)
  refine lv_iconst (v := nI 0) hx hb dX6_degree_2 (by decide) ?_
  refine lv_istore_n (lv' := [(2, .int (nI 0)), (1, .int (-1 : Int32)), (0, .ref (e_ad G l0))]) hx hb dX6_degree_3 rfl hl (by decide) rfl (fun ls hl => ?_)
  exact mX6_degree_L4 E h 200 l0 (-1 : Int32) (nI 0) hM J (lv_sub hl [2, 1, 0] rfl)
set_option maxRecDepth 100000 in
set_option maxHeartbeats 4000000 in
theorem mX6_termsNotZero_b25 {p : Program} {l : Launch} {e : Env} {s : State} {m : MethodId} {args : Array Value} {below : List Frame} {meth : Method} {c : Code} {G : e_G} {res : Int32} {k4 : Nat → Int32 → Int32 → Option Int32} (E : e_M G p s args m meth c cX6_termsNotZero 3 (some FieldType.int) RX6) (h : e_H) (K4 : ∀ (l0 : Nat) (l1 : Int32) (l2 : Int32), k4 l0 l1 l2 = some res → ∀ (H : Heap) (locs : List Loc), e_J G s h H locs → ∀ (ls : Array Slot), lv_has ls 3 [(0, .ref (e_ad G l0)), (1, .int l1), (2, .int l2)] → W p l e (e_rm 0 0) s m args below meth c H locs 0 0 (MQ below (e_Q G h (some (.int res))) args s 0 0 (e_A G)) (F0 m 4 ls [])) (l0 : Nat) (l1 : Int32) (l2 : Int32) (hM : fX6_termsNotZero_b25 h k4 l0 l1 l2 = some res) {H : Heap} {locs : List Loc} (J : e_J G s h H locs) {ls : Array Slot} (hl : lv_has ls 3 [(0, .ref (e_ad G l0)), (1, .int l1), (2, .int l2)]) : W p l e (e_rm 0 0) s m args below meth c H locs 0 0 (MQ below (e_Q G h (some (.int res))) args s 0 0 (e_A G)) (F0 m 25 ls []) := by
  obtain ⟨hx, hb, hr, hml, hown, hts, hlocks, hES, hbs⟩ := id E
  unfold fX6_termsNotZero_b25 at hM
  refine lv_iinc (v := (l2 + (nI 1))) (lv' := [(2, .int (l2 + (nI 1))), (0, .ref (e_ad G l0)), (1, .int l1)]) hx hb dX6_termsNotZero_25 hl (k := 2) rfl rfl (by decide) rfl (fun ls hl => ?_)
  refine lv_goto (tgt := 4) hx hb dX6_termsNotZero_28 (by decide) ?_
  exact K4 l0 l1 (l2 + (nI 1)) hM _ _ J _ (lv_sub hl [1, 2, 0] rfl)
set_option maxRecDepth 100000 in
set_option maxHeartbeats 4000000 in
theorem mX6_termsNotZero_b4 {p : Program} {l : Launch} {e : Env} {s : State} {m : MethodId} {args : Array Value} {below : List Frame} {meth : Method} {c : Code} {G : e_G} {res : Int32} {k4 : Nat → Int32 → Int32 → Option Int32} (E : e_M G p s args m meth c cX6_termsNotZero 3 (some FieldType.int) RX6) (h : e_H) (K4 : ∀ (l0 : Nat) (l1 : Int32) (l2 : Int32), k4 l0 l1 l2 = some res → ∀ (H : Heap) (locs : List Loc), e_J G s h H locs → ∀ (ls : Array Slot), lv_has ls 3 [(0, .ref (e_ad G l0)), (1, .int l1), (2, .int l2)] → W p l e (e_rm 0 0) s m args below meth c H locs 0 0 (MQ below (e_Q G h (some (.int res))) args s 0 0 (e_A G)) (F0 m 4 ls [])) (l0 : Nat) (l1 : Int32) (l2 : Int32) (hM : fX6_termsNotZero_b4 h k4 l0 l1 l2 = some res) {H : Heap} {locs : List Loc} (J : e_J G s h H locs) {ls : Array Slot} (hl : lv_has ls 3 [(0, .ref (e_ad G l0)), (1, .int l1), (2, .int l2)]) : W p l e (e_rm 0 0) s m args below meth c H locs 0 0 (MQ below (e_Q G h (some (.int res))) args s 0 0 (e_A G)) (F0 m 4 ls []) := by
  obtain ⟨hx, hb, hr, hml, hown, hts, hlocks, hES, hbs⟩ := id E
  unfold fX6_termsNotZero_b4 at hM
  refine lv_iload_n hx hb dX6_termsNotZero_4 rfl (lv_at hl 2 rfl) ?_
  refine lv_aload_n hx hb dX6_termsNotZero_5 rfl (lv_at hl 0 rfl) ?_
  obtain ⟨v1, hv, hM⟩ := e_bs hM
  refine e_getR (C := RX6) (T := TX6) (N := 9) E J hv rfl inX6 (by decide) q_1_98 dX6_termsNotZero_6 ?_
  rcases v1 with _ | a2
  · have hM := e_on0 hM
    refine W.eq (g2 := F0 m 9 ls [.null, .int l2]) rfl ?_
    exact e_no hM
  · have hM := e_on1 hM
    refine W.eq (g2 := F0 m 9 ls [.ref (e_ad G a2), .int l2]) rfl ?_
    obtain ⟨v3, hv, hM⟩ := e_bs hM
    refine e_alen E J hv rfl rfl dX6_termsNotZero_9 ?_
    refine lv_icmp_ge (tgt := 31) hx hb dX6_termsNotZero_10 (by decide) (fun hc => ?_) (fun hc => ?_)
    · have hM := e_ip hc hM
      refine lv_iload_n hx hb dX6_termsNotZero_31 rfl (lv_at hl 1 rfl) ?_
      obtain rfl := e_so hM
      exact e_iret E J dX6_termsNotZero_32
    · have hM := e_in hc hM
      refine lv_aload_n hx hb dX6_termsNotZero_13 rfl (lv_at hl 0 rfl) ?_
      obtain ⟨v4, hv, hM⟩ := e_bs hM
      refine e_getR (C := RX6) (T := TX6) (N := 9) E J hv rfl inX6 (by decide) q_1_98 dX6_termsNotZero_14 ?_
      rcases v4 with _ | a5
      · have hM := e_on0 hM
        refine W.eq (g2 := F0 m 17 ls [.null]) rfl ?_
        refine lv_iload_n hx hb dX6_termsNotZero_17 rfl (lv_at hl 2 rfl) ?_
        exact e_no hM
      · have hM := e_on1 hM
        refine W.eq (g2 := F0 m 17 ls [.ref (e_ad G a5)]) rfl ?_
        refine lv_iload_n hx hb dX6_termsNotZero_17 rfl (lv_at hl 2 rfl) ?_
        obtain ⟨v6, hv, hM⟩ := e_bs hM
        refine e_iald E J hv dX6_termsNotZero_18 ?_
        refine lv_if_eq (tgt := 25) hx hb dX6_termsNotZero_19 (by decide) (fun hc => ?_) (fun hc => ?_)
        · have hM := e_ip hc hM
          exact mX6_termsNotZero_b25 E h K4 l0 l1 l2 hM J (lv_sub hl [0, 1, 2] rfl)
        · have hM := e_in hc hM
          refine lv_iinc (v := (l1 + (nI 1))) (lv' := [(1, .int (l1 + (nI 1))), (0, .ref (e_ad G l0)), (2, .int l2)]) hx hb dX6_termsNotZero_22 hl (k := 1) rfl rfl (by decide) rfl (fun ls hl => ?_)
          exact mX6_termsNotZero_b25 E h K4 l0 (l1 + (nI 1)) l2 hM J (lv_sub hl [1, 0, 2] rfl)
set_option maxRecDepth 100000 in
set_option maxHeartbeats 4000000 in
theorem mX6_termsNotZero_L4 {p : Program} {l : Launch} {e : Env} {s : State} {m : MethodId} {args : Array Value} {below : List Frame} {meth : Method} {c : Code} {G : e_G} {res : Int32} (E : e_M G p s args m meth c cX6_termsNotZero 3 (some FieldType.int) RX6) (h : e_H) (n : Nat) (l0 : Nat) (l1 : Int32) (l2 : Int32) (hM : fX6_termsNotZero_L4 h n l0 l1 l2 = some res) {H : Heap} {locs : List Loc} (J : e_J G s h H locs) {ls : Array Slot} (hl : lv_has ls 3 [(0, .ref (e_ad G l0)), (1, .int l1), (2, .int l2)]) : W p l e (e_rm 0 0) s m args below meth c H locs 0 0 (MQ below (e_Q G h (some (.int res))) args s 0 0 (e_A G)) (F0 m 4 ls []) := by
  induction n generalizing l0 l1 l2 H locs ls with
  | zero => exact e_no hM
  | succ n ih => exact mX6_termsNotZero_b4 (k4 := (fX6_termsNotZero_L4 h n)) E h  (fun l0 l1 l2 hM H locs J ls hl => ih l0 l1 l2 hM J hl) l0 l1 l2 hM J hl
set_option maxRecDepth 100000 in
set_option maxHeartbeats 4000000 in
theorem mX6_termsNotZero {l : Launch} {G : e_G} (l0 : Nat) (h : e_H) (res : Int32) (hM : fX6_termsNotZero l0 h = some res) : Met l yX6_termsNotZero (e_W yX6_termsNotZero cX6_termsNotZero 3 (some FieldType.int)) (e_rm 0 0) (e_Pc G h [.ref (e_ad G l0)]) (e_Q G h (some (.int res))) 0 0 (e_A G) := by
  refine Met.ofW (cc := cX6_termsNotZero) (maxL := 3) (ret := (some FieldType.int)) (by decide) rfl ?_
  intro p e s m args below meth c s₁ B hml hv
  obtain ⟨rfl, hS, hP⟩ := hv
  have E := e_enter (own := RX6) (ret := (some FieldType.int)) B hml rfl hS hP
  have J : e_J G s h s.heap [] := ⟨hP, va_S.rf⟩
  have hl := lv_entry ([.ref (e_ad G l0)]) (n := 3) (Nat.le_of_ble_eq_true rfl)
  rw [lg_entry_eq]
  generalize (lg_sl ([.ref (e_ad G l0)]) ++ List.replicate (3 - (lg_sl ([.ref (e_ad G l0)])).length) Slot.unset).toArray = ls at hl ⊢
  have hl : lv_has ls 3 [(0, .ref (e_ad G l0))] := hl
  obtain ⟨hx, hb, hr, hml, hown, hts, hlocks, hES, hbs⟩ := id E
  unfold fX6_termsNotZero at hM
  obtain ⟨fs_, hk_, hM⟩ := e_bs hM
  refine lv_iconst (v := nI 0) hx hb dX6_termsNotZero_0 (by decide) ?_
  refine lv_istore_n (lv' := [(1, .int (nI 0)), (0, .ref (e_ad G l0))]) hx hb dX6_termsNotZero_1 rfl hl (by decide) rfl (fun ls hl => ?_)
  refine lv_iconst (v := nI 0) hx hb dX6_termsNotZero_2 (by decide) ?_
  refine lv_istore_n (lv' := [(2, .int (nI 0)), (1, .int (nI 0)), (0, .ref (e_ad G l0))]) hx hb dX6_termsNotZero_3 rfl hl (by decide) rfl (fun ls hl => ?_)
  exact mX6_termsNotZero_L4 E h 200 l0 (nI 0) (nI 0) hM J (lv_sub hl [2, 1, 0] rfl)
set_option maxRecDepth 100000 in
set_option maxHeartbeats 4000000 in
theorem mX8_told {l : Launch} {G : e_G} (l0 : Nat) (l1 : Int32) (l2 : Int32) (h : e_H) (res : (Int32 × e_H)) (hM : fX8_told l0 l1 l2 h = some res) : Met l yX8_told (e_W yX8_told cX8_told 4 (some FieldType.int)) (e_rm 5 124) (e_Pc G h [.ref (e_ad G l0), .int l1, .int l2]) (e_Q G res.2 (some (.int res.1))) 0 0 (e_A G) := by
  refine Met.ofW (cc := cX8_told) (maxL := 4) (ret := (some FieldType.int)) (by decide) rfl ?_
  intro p e s m args below meth c s₁ B hml hv
  obtain ⟨rfl, hS, hP⟩ := hv
  have E := e_enter (own := RX8) (ret := (some FieldType.int)) B hml rfl hS hP
  have J : e_J G s h s.heap [] := ⟨hP, va_S.rf⟩
  have hl := lv_entry ([.ref (e_ad G l0), .int l1, .int l2]) (n := 4) (Nat.le_of_ble_eq_true rfl)
  rw [lg_entry_eq]
  generalize (lg_sl ([.ref (e_ad G l0), .int l1, .int l2]) ++ List.replicate (4 - (lg_sl ([.ref (e_ad G l0), .int l1, .int l2])).length) Slot.unset).toArray = ls at hl ⊢
  have hl : lv_has ls 4 [(0, .ref (e_ad G l0)), (1, .int l1), (2, .int l2)] := hl
  obtain ⟨hx, hb, hr, hml, hown, hts, hlocks, hES, hbs⟩ := id E
  unfold fX8_told at hM
  obtain ⟨fs_, hk_, hM⟩ := e_bs hM
  refine lv_aload_n hx hb dX8_told_0 rfl (lv_at hl 0 rfl) ?_
  obtain ⟨v1, hv, hM⟩ := e_bs hM
  refine e_getR (C := RX8) (T := TX8) (N := 10) E J hv rfl inX8 (by decide) q_1_199 dX8_told_1 ?_
  rcases v1 with _ | a2
  · have hM := e_on0 hM
    refine W.eq (g2 := F0 m 4 ls [.null]) rfl ?_
    refine lv_iload_n hx hb dX8_told_4 rfl (lv_at hl 1 rfl) ?_
    exact e_no hM
  · have hM := e_on1 hM
    refine W.eq (g2 := F0 m 4 ls [.ref (e_ad G a2)]) rfl ?_
    refine lv_iload_n hx hb dX8_told_4 rfl (lv_at hl 1 rfl) ?_
    obtain ⟨v3, hv, hM⟩ := e_bs hM
    obtain ⟨fs_, hk, -⟩ := e_bs hv
    refine e_callV (ci := 7) (As := [.int l1]) (rest := []) (n := 1) E J hk rfl (mX7_curveOf (l := l) (G := G) a2 l1 h _ hv) q_2_14 q_2_15 q_2_16 q_1_2 q_2_17 (by decide +kernel) rfl ⟨Nat.le_of_ble_eq_true rfl, Nat.le_of_ble_eq_true rfl⟩ (st0 := [.int l1, .ref (e_ad G a2)]) (st1 := [e_r G v3]) rfl rfl hl.1 (Nat.le_of_ble_eq_true rfl) dX8_told_5 ⟨Nat.le_refl _, Nat.le_refl _⟩ (fun H locs J => ?_)
    rcases v3 with _ | a4
    · have hM := e_on0 hM
      refine W.eq (g2 := F0 m 8 ls [.null]) rfl ?_
      refine lv_astore_nN (lv' := [(3, .null), (0, .ref (e_ad G l0)), (1, .int l1), (2, .int l2)]) hx hb dX8_told_8 rfl hl (by decide) rfl (fun ls hl => ?_)
      refine lv_aload_nN hx hb dX8_told_9 rfl (lv_at hl 0 rfl) ?_
      refine lv_ifnullN (tgt := 22) hx hb dX8_told_10 (by decide) ?_
      refine lv_ldc (v := -1000000001) hx hb hown (hts _ q_1_237) dX8_told_22 ?_
      obtain rfl := e_so hM
      exact e_iret E J dX8_told_24
    · have hM := e_on1 hM
      refine W.eq (g2 := F0 m 8 ls [.ref (e_ad G a4)]) rfl ?_
      refine lv_astore_n (lv' := [(3, .ref (e_ad G a4)), (0, .ref (e_ad G l0)), (1, .int l1), (2, .int l2)]) hx hb dX8_told_8 rfl hl (by decide) rfl (fun ls hl => ?_)
      refine lv_aload_n hx hb dX8_told_9 rfl (lv_at hl 0 rfl) ?_
      refine lv_ifnull hx hb dX8_told_10 ?_
      refine lv_iload_n hx hb dX8_told_13 rfl (lv_at hl 3 rfl) ?_
      refine lv_if_lt (tgt := 22) hx hb dX8_told_14 (by decide) (fun hc => ?_) (fun hc => ?_)
      · have hM := e_ip hc hM
        refine lv_ldc (v := -1000000001) hx hb hown (hts _ q_1_237) dX8_told_22 ?_
        obtain rfl := e_so hM
        exact e_iret E J dX8_told_24
      · have hM := e_in hc hM
        refine lv_iload_n hx hb dX8_told_17 rfl (lv_at hl 3 rfl) ?_
        refine lv_iconst (v := nI 3) hx hb dX8_told_18 (by decide) ?_
        refine lv_icmp_le (tgt := 25) hx hb dX8_told_19 (by decide) (fun hc => ?_) (fun hc => ?_)
        · have hM := e_ip hc hM
          refine lv_iload_n hx hb dX8_told_25 rfl (lv_at hl 3 rfl) ?_
          refine lv_if_ne (tgt := 34) hx hb dX8_told_26 (by decide) (fun hc => ?_) (fun hc => ?_)
          · have hM := e_in hc hM
            refine lv_iload_n hx hb dX8_told_34 rfl (lv_at hl 3 rfl) ?_
            refine lv_iconst (v := nI 2) hx hb dX8_told_35 (by decide) ?_
            refine lv_icmp_ne (tgt := 44) hx hb dX8_told_36 (by decide) (fun hc => ?_) (fun hc => ?_)
            · have hM := e_in hc hM
              refine lv_aload_n hx hb dX8_told_44 rfl (lv_at hl 1 rfl) ?_
              obtain ⟨v7, hv, hM⟩ := e_bs hM
              refine e_getR (C := RX8) (T := TX8) (N := 10) E J hv rfl inX8 (by decide) q_1_201 dX8_told_45 ?_
              rcases v7 with _ | a8
              · have hM := e_on0 hM
                refine W.eq (g2 := F0 m 48 ls [.null]) rfl ?_
                refine lv_aload_n hx hb dX8_told_48 rfl (lv_at hl 0 rfl) ?_
                exact e_no hM
              · have hM := e_on1 hM
                refine W.eq (g2 := F0 m 48 ls [.ref (e_ad G a8)]) rfl ?_
                refine lv_aload_n hx hb dX8_told_48 rfl (lv_at hl 0 rfl) ?_
                obtain ⟨h9, hv, hM⟩ := e_bs hM
                obtain ⟨fs_, hk, -⟩ := e_bs hv
                refine e_callV (ci := 6) (As := [.ref (e_ad G a4)]) (rest := []) (n := 1) E J hk rfl (mX6_look (l := l) (G := G) a8 a4 h _ hv) q_2_94 q_2_95 q_2_96 q_1_4 q_2_97 (by decide +kernel) rfl ⟨Nat.le_of_ble_eq_true rfl, Nat.le_of_ble_eq_true rfl⟩ (st0 := [.ref (e_ad G a4), .ref (e_ad G a8)]) (st1 := []) rfl rfl hl.1 (Nat.le_of_ble_eq_true rfl) dX8_told_49 ⟨Nat.le_refl _, Nat.le_refl _⟩ (fun H locs J => ?_)
                refine lv_iload_n hx hb dX8_told_52 rfl (lv_at hl 3 rfl) ?_
                refine lv_iconst (v := nI 1) hx hb dX8_told_53 (by decide) ?_
                refine lv_icmp_ne (tgt := 67) hx hb dX8_told_54 (by decide) (fun hc => ?_) (fun hc => ?_)
                · have hM := e_in hc hM
                  refine lv_aload_n hx hb dX8_told_67 rfl (lv_at hl 1 rfl) ?_
                  obtain ⟨v13, hv, hM⟩ := e_bs hM
                  refine e_getR (C := RX8) (T := TX8) (N := 10) E J hv rfl inX8 (by decide) q_1_201 dX8_told_68 ?_
                  rcases v13 with _ | a14
                  · have hM := e_on0 hM
                    refine W.eq (g2 := F0 m 71 ls [.null]) rfl ?_
                    exact e_no hM
                  · have hM := e_on1 hM
                    refine W.eq (g2 := F0 m 71 ls [.ref (e_ad G a14)]) rfl ?_
                    obtain ⟨v15, hv, hM⟩ := e_bs hM
                    obtain ⟨fs_, hk, -⟩ := e_bs hv
                    refine e_callV (ci := 6) (As := []) (rest := []) (n := 0) E J hk rfl (mX6_termsNotZero (l := l) (G := G) a14 h9 _ hv) q_2_113 q_2_114 q_2_115 q_1_4 q_2_116 (by decide +kernel) rfl ⟨Nat.le_of_ble_eq_true rfl, Nat.le_of_ble_eq_true rfl⟩ (st0 := [.ref (e_ad G a14)]) (st1 := [.int v15]) rfl rfl hl.1 (Nat.le_of_ble_eq_true rfl) dX8_told_71 ⟨Nat.le_refl _, Nat.le_refl _⟩ (fun H locs J => ?_)
                    obtain rfl := e_so hM
                    exact e_iret E J dX8_told_74
                · have hM := e_ip hc hM
                  refine lv_aload_n hx hb dX8_told_57 rfl (lv_at hl 1 rfl) ?_
                  obtain ⟨v10, hv, hM⟩ := e_bs hM
                  refine e_getR (C := RX8) (T := TX8) (N := 10) E J hv rfl inX8 (by decide) q_1_201 dX8_told_58 ?_
                  rcases v10 with _ | a11
                  · have hM := e_on0 hM
                    refine W.eq (g2 := F0 m 61 ls [.null]) rfl ?_
                    exact e_no hM
                  · have hM := e_on1 hM
                    refine W.eq (g2 := F0 m 61 ls [.ref (e_ad G a11)]) rfl ?_
                    obtain ⟨v12, hv, hM⟩ := e_bs hM
                    obtain ⟨fs_, hk, -⟩ := e_bs hv
                    refine e_callV (ci := 6) (As := []) (rest := []) (n := 0) E J hk rfl (mX6_degree (l := l) (G := G) a11 h9 _ hv) q_2_104 q_2_105 q_2_106 q_1_4 q_2_107 (by decide +kernel) rfl ⟨Nat.le_of_ble_eq_true rfl, Nat.le_of_ble_eq_true rfl⟩ (st0 := [.ref (e_ad G a11)]) (st1 := [.int v12]) rfl rfl hl.1 (Nat.le_of_ble_eq_true rfl) dX8_told_61 ⟨Nat.le_refl _, Nat.le_refl _⟩ (fun H locs J => ?_)
                    refine lv_goto (tgt := 74) hx hb dX8_told_64 (by decide) ?_
                    obtain rfl := e_so hM
                    exact e_iret E J dX8_told_74
            · have hM := e_ip hc hM
              refine lv_aload_n hx hb dX8_told_39 rfl (lv_at hl 0 rfl) ?_
              obtain ⟨v6, hv, hM⟩ := e_bs hM
              obtain ⟨fs_, hk, -⟩ := e_bs hv
              refine e_callV (ci := 0) (As := []) (rest := []) (n := 0) E J hk rfl (mX0_worth (l := l) (G := G) a4 h _ hv) q_2_85 q_2_86 q_2_87 q_1_3 q_2_88 (by decide +kernel) rfl ⟨Nat.le_of_ble_eq_true rfl, Nat.le_of_ble_eq_true rfl⟩ (st0 := [.ref (e_ad G a4)]) (st1 := [.int v6]) rfl rfl hl.1 (Nat.le_of_ble_eq_true rfl) dX8_told_40 ⟨Nat.le_refl _, Nat.le_refl _⟩ (fun H locs J => ?_)
              obtain rfl := e_so hM
              exact e_iret E J dX8_told_43
          · have hM := e_ip hc hM
            refine lv_aload_n hx hb dX8_told_29 rfl (lv_at hl 0 rfl) ?_
            obtain ⟨v5, hv, hM⟩ := e_bs hM
            refine e_getI (C := RX0) (T := TX0) (N := 2) E J hv rfl inX0 (by decide) q_1_43 dX8_told_30 ?_
            obtain rfl := e_so hM
            exact e_iret E J dX8_told_33
        · have hM := e_in hc hM
          refine lv_ldc (v := -1000000001) hx hb hown (hts _ q_1_237) dX8_told_22 ?_
          obtain rfl := e_so hM
          exact e_iret E J dX8_told_24
set_option maxRecDepth 100000 in
set_option maxHeartbeats 4000000 in
theorem mX8_as {l : Launch} {G : e_G} (l0 : Nat) (l1 : Int32) (l2 : Int32) (h : e_H) (res : Int32) (hM : fX8_as l0 l1 l2 h = some res) : Met l yX8_as (e_W yX8_as cX8_as 4 (some FieldType.int)) (e_rm 2 43) (e_Pc G h [.ref (e_ad G l0), .int l1, .int l2]) (e_Q G h (some (.int res))) 0 0 (e_A G) := by
  refine Met.ofW (cc := cX8_as) (maxL := 4) (ret := (some FieldType.int)) (by decide) rfl ?_
  intro p e s m args below meth c s₁ B hml hv
  obtain ⟨rfl, hS, hP⟩ := hv
  have E := e_enter (own := RX8) (ret := (some FieldType.int)) B hml rfl hS hP
  have J : e_J G s h s.heap [] := ⟨hP, va_S.rf⟩
  have hl := lv_entry ([.ref (e_ad G l0), .int l1, .int l2]) (n := 4) (Nat.le_of_ble_eq_true rfl)
  rw [lg_entry_eq]
  generalize (lg_sl ([.ref (e_ad G l0), .int l1, .int l2]) ++ List.replicate (4 - (lg_sl ([.ref (e_ad G l0), .int l1, .int l2])).length) Slot.unset).toArray = ls at hl ⊢
  have hl : lv_has ls 4 [(0, .ref (e_ad G l0)), (1, .int l1), (2, .int l2)] := hl
  obtain ⟨hx, hb, hr, hml, hown, hts, hlocks, hES, hbs⟩ := id E
  unfold fX8_as at hM
  obtain ⟨fs_, hk_, hM⟩ := e_bs hM
  refine lv_aload_n hx hb dX8_as_0 rfl (lv_at hl 0 rfl) ?_
  obtain ⟨v1, hv, hM⟩ := e_bs hM
  refine e_getR (C := RX8) (T := TX8) (N := 10) E J hv rfl inX8 (by decide) q_1_199 dX8_as_1 ?_
  rcases v1 with _ | a2
  · have hM := e_on0 hM
    refine W.eq (g2 := F0 m 4 ls [.null]) rfl ?_
    refine lv_iload_n hx hb dX8_as_4 rfl (lv_at hl 1 rfl) ?_
    exact e_no hM
  · have hM := e_on1 hM
    refine W.eq (g2 := F0 m 4 ls [.ref (e_ad G a2)]) rfl ?_
    refine lv_iload_n hx hb dX8_as_4 rfl (lv_at hl 1 rfl) ?_
    obtain ⟨v3, hv, hM⟩ := e_bs hM
    obtain ⟨fs_, hk, -⟩ := e_bs hv
    refine e_callV (ci := 7) (As := [.int l1]) (rest := []) (n := 1) E J hk rfl (mX7_curveOf (l := l) (G := G) a2 l1 h _ hv) q_2_14 q_2_15 q_2_16 q_1_2 q_2_17 (by decide +kernel) rfl ⟨Nat.le_of_ble_eq_true rfl, Nat.le_of_ble_eq_true rfl⟩ (st0 := [.int l1, .ref (e_ad G a2)]) (st1 := [e_r G v3]) rfl rfl hl.1 (Nat.le_of_ble_eq_true rfl) dX8_as_5 ⟨Nat.le_refl _, Nat.le_refl _⟩ (fun H locs J => ?_)
    rcases v3 with _ | a4
    · have hM := e_on0 hM
      refine W.eq (g2 := F0 m 8 ls [.null]) rfl ?_
      refine lv_astore_nN (lv' := [(3, .null), (0, .ref (e_ad G l0)), (1, .int l1), (2, .int l2)]) hx hb dX8_as_8 rfl hl (by decide) rfl (fun ls hl => ?_)
      refine lv_aload_nN hx hb dX8_as_9 rfl (lv_at hl 0 rfl) ?_
      refine lv_ifnullN (tgt := 20) hx hb dX8_as_10 (by decide) ?_
      refine lv_ldc (v := -1000000001) hx hb hown (hts _ q_1_237) dX8_as_20 ?_
      obtain rfl := e_so hM
      exact e_iret E J dX8_as_22
    · have hM := e_on1 hM
      refine W.eq (g2 := F0 m 8 ls [.ref (e_ad G a4)]) rfl ?_
      refine lv_astore_n (lv' := [(3, .ref (e_ad G a4)), (0, .ref (e_ad G l0)), (1, .int l1), (2, .int l2)]) hx hb dX8_as_8 rfl hl (by decide) rfl (fun ls hl => ?_)
      refine lv_aload_n hx hb dX8_as_9 rfl (lv_at hl 0 rfl) ?_
      refine lv_ifnull hx hb dX8_as_10 ?_
      refine lv_iload_n hx hb dX8_as_13 rfl (lv_at hl 3 rfl) ?_
      obtain ⟨v5, hv, hM⟩ := e_bs hM
      refine e_callS (As := [.int l2]) (rest := []) (n := 1) E J (mX8_isKind (l := l) (G := G) l2 h _ hv) q_1_234 q_1_235 q_1_1 q_1_236 (by decide +kernel) rfl ⟨Nat.le_of_ble_eq_true rfl, Nat.le_of_ble_eq_true rfl⟩ (st0 := [.int l2]) (st1 := [.int (e_b v5)]) rfl rfl hl.1 (Nat.le_of_ble_eq_true rfl) dX8_as_14 ⟨Nat.le_refl _, Nat.le_refl _⟩ (fun H locs J => ?_)
      refine lv_if_ne (tgt := 23) hx hb dX8_as_17 (by decide) (fun hc => ?_) (fun hc => ?_)
      · have hM := e_in hc hM
        refine lv_aload_n hx hb dX8_as_23 rfl (lv_at hl 0 rfl) ?_
        refine lv_iload_n hx hb dX8_as_24 rfl (lv_at hl 3 rfl) ?_
        obtain ⟨v6, hv, hM⟩ := e_bs hM
        obtain ⟨fs_, hk, -⟩ := e_bs hv
        refine e_callV (ci := 0) (As := [.int l2]) (rest := []) (n := 1) E J hk rfl (mX0_isOf (l := l) (G := G) a4 l2 h _ hv) q_2_121 q_2_40 q_2_41 q_1_3 q_2_42 (by decide +kernel) rfl ⟨Nat.le_of_ble_eq_true rfl, Nat.le_of_ble_eq_true rfl⟩ (st0 := [.int l2, .ref (e_ad G a4)]) (st1 := [.int (e_b v6)]) rfl rfl hl.1 (Nat.le_of_ble_eq_true rfl) dX8_as_25 ⟨Nat.le_refl _, Nat.le_refl _⟩ (fun H locs J => ?_)
        refine lv_if_eq (tgt := 40) hx hb dX8_as_28 (by decide) (fun hc => ?_) (fun hc => ?_)
        · have hM := e_ip hc hM
          refine lv_ldc (v := -1000000012) hx hb hown (hts _ q_2_123) dX8_as_40 ?_
          obtain rfl := e_so hM
          exact e_iret E J dX8_as_42
        · have hM := e_in hc hM
          refine lv_aload_n hx hb dX8_as_31 rfl (lv_at hl 0 rfl) ?_
          refine lv_iconst (v := nI 0) hx hb dX8_as_32 (by decide) ?_
          refine lv_iconst (v := nI 0) hx hb dX8_as_33 (by decide) ?_
          obtain ⟨v7, hv, hM⟩ := e_bs hM
          obtain ⟨fs_, hk, -⟩ := e_bs hv
          refine e_callV (ci := 0) (As := [.int (nI 0), .int (nI 0)]) (rest := []) (n := 2) E J hk rfl (mX0_number (l := l) (G := G) a4 (nI 0) (nI 0) h _ hv) q_2_122 q_2_48 q_2_49 q_1_3 q_2_50 (by decide +kernel) rfl ⟨Nat.le_of_ble_eq_true rfl, Nat.le_of_ble_eq_true rfl⟩ (st0 := [.int (nI 0), .int (nI 0), .ref (e_ad G a4)]) (st1 := [.int v7]) rfl rfl hl.1 (Nat.le_of_ble_eq_true rfl) dX8_as_34 ⟨Nat.le_refl _, Nat.le_refl _⟩ (fun H locs J => ?_)
          refine lv_goto (tgt := 42) hx hb dX8_as_37 (by decide) ?_
          obtain rfl := e_so hM
          exact e_iret E J dX8_as_42
      · have hM := e_ip hc hM
        refine lv_ldc (v := -1000000001) hx hb hown (hts _ q_1_237) dX8_as_20 ?_
        obtain rfl := e_so hM
        exact e_iret E J dX8_as_22
set_option maxRecDepth 100000 in
set_option maxHeartbeats 4000000 in
theorem mX8_turns {l : Launch} {G : e_G} (l0 : Nat) (l1 : Int32) (l2 : Int32) (h : e_H) (res : (Int32 × e_H)) (hM : fX8_turns l0 l1 l2 h = some res) : Met l yX8_turns (e_W yX8_turns cX8_turns 5 (some FieldType.int)) (e_rm 1 21) (e_Pc G h [.ref (e_ad G l0), .int l1, .int l2]) (e_Q G res.2 (some (.int res.1))) 0 0 (e_A G) := by
  refine Met.ofW (cc := cX8_turns) (maxL := 5) (ret := (some FieldType.int)) (by decide) rfl ?_
  intro p e s m args below meth c s₁ B hml hv
  obtain ⟨rfl, hS, hP⟩ := hv
  have E := e_enter (own := RX8) (ret := (some FieldType.int)) B hml rfl hS hP
  have J : e_J G s h s.heap [] := ⟨hP, va_S.rf⟩
  have hl := lv_entry ([.ref (e_ad G l0), .int l1, .int l2]) (n := 5) (Nat.le_of_ble_eq_true rfl)
  rw [lg_entry_eq]
  generalize (lg_sl ([.ref (e_ad G l0), .int l1, .int l2]) ++ List.replicate (5 - (lg_sl ([.ref (e_ad G l0), .int l1, .int l2])).length) Slot.unset).toArray = ls at hl ⊢
  have hl : lv_has ls 5 [(0, .ref (e_ad G l0)), (1, .int l1), (2, .int l2)] := hl
  obtain ⟨hx, hb, hr, hml, hown, hts, hlocks, hES, hbs⟩ := id E
  unfold fX8_turns at hM
  obtain ⟨fs_, hk_, hM⟩ := e_bs hM
  refine lv_aload_n hx hb dX8_turns_0 rfl (lv_at hl 0 rfl) ?_
  obtain ⟨v1, hv, hM⟩ := e_bs hM
  refine e_getR (C := RX8) (T := TX8) (N := 10) E J hv rfl inX8 (by decide) q_1_199 dX8_turns_1 ?_
  rcases v1 with _ | a2
  · have hM := e_on0 hM
    refine W.eq (g2 := F0 m 4 ls [.null]) rfl ?_
    refine lv_iload_n hx hb dX8_turns_4 rfl (lv_at hl 1 rfl) ?_
    exact e_no hM
  · have hM := e_on1 hM
    refine W.eq (g2 := F0 m 4 ls [.ref (e_ad G a2)]) rfl ?_
    refine lv_iload_n hx hb dX8_turns_4 rfl (lv_at hl 1 rfl) ?_
    obtain ⟨v3, hv, hM⟩ := e_bs hM
    obtain ⟨fs_, hk, -⟩ := e_bs hv
    refine e_callV (ci := 7) (As := [.int l1]) (rest := []) (n := 1) E J hk rfl (mX7_curveOf (l := l) (G := G) a2 l1 h _ hv) q_2_14 q_2_15 q_2_16 q_1_2 q_2_17 (by decide +kernel) rfl ⟨Nat.le_of_ble_eq_true rfl, Nat.le_of_ble_eq_true rfl⟩ (st0 := [.int l1, .ref (e_ad G a2)]) (st1 := [e_r G v3]) rfl rfl hl.1 (Nat.le_of_ble_eq_true rfl) dX8_turns_5 ⟨Nat.le_refl _, Nat.le_refl _⟩ (fun H locs J => ?_)
    rcases v3 with _ | a4
    · have hM := e_on0 hM
      refine W.eq (g2 := F0 m 8 ls [.null]) rfl ?_
      refine lv_astore_nN (lv' := [(3, .null), (0, .ref (e_ad G l0)), (1, .int l1), (2, .int l2)]) hx hb dX8_turns_8 rfl hl (by decide) rfl (fun ls hl => ?_)
      refine lv_aload_nN hx hb dX8_turns_9 rfl (lv_at hl 0 rfl) ?_
      refine lv_ifnullN (tgt := 20) hx hb dX8_turns_10 (by decide) ?_
      refine lv_ldc (v := -1000000001) hx hb hown (hts _ q_1_237) dX8_turns_20 ?_
      obtain rfl := e_so hM
      exact e_iret E J dX8_turns_22
    · have hM := e_on1 hM
      refine W.eq (g2 := F0 m 8 ls [.ref (e_ad G a4)]) rfl ?_
      refine lv_astore_n (lv' := [(3, .ref (e_ad G a4)), (0, .ref (e_ad G l0)), (1, .int l1), (2, .int l2)]) hx hb dX8_turns_8 rfl hl (by decide) rfl (fun ls hl => ?_)
      refine lv_aload_n hx hb dX8_turns_9 rfl (lv_at hl 0 rfl) ?_
      refine lv_ifnull hx hb dX8_turns_10 ?_
      refine lv_iload_n hx hb dX8_turns_13 rfl (lv_at hl 3 rfl) ?_
      obtain ⟨v5, hv, hM⟩ := e_bs hM
      refine e_callS (As := [.int l2]) (rest := []) (n := 1) E J (mX8_isKind (l := l) (G := G) l2 h _ hv) q_1_234 q_1_235 q_1_1 q_1_236 (by decide +kernel) rfl ⟨Nat.le_of_ble_eq_true rfl, Nat.le_of_ble_eq_true rfl⟩ (st0 := [.int l2]) (st1 := [.int (e_b v5)]) rfl rfl hl.1 (Nat.le_of_ble_eq_true rfl) dX8_turns_14 ⟨Nat.le_refl _, Nat.le_refl _⟩ (fun H locs J => ?_)
      refine lv_if_ne (tgt := 23) hx hb dX8_turns_17 (by decide) (fun hc => ?_) (fun hc => ?_)
      · have hM := e_in hc hM
        refine lv_aload_n hx hb dX8_turns_23 rfl (lv_at hl 0 rfl) ?_
        obtain ⟨v6, hv, hM⟩ := e_bs hM
        refine e_getI (C := RX0) (T := TX0) (N := 2) E J hv rfl inX0 (by decide) q_1_43 dX8_turns_24 ?_
        refine lv_istore (lv' := [(4, .int v6), (3, .ref (e_ad G a4)), (0, .ref (e_ad G l0)), (1, .int l1), (2, .int l2)]) hx hb dX8_turns_27 hl (by decide) rfl (fun ls hl => ?_)
        refine lv_aload_n hx hb dX8_turns_29 rfl (lv_at hl 1 rfl) ?_
        refine lv_iload_n hx hb dX8_turns_30 rfl (lv_at hl 4 rfl) ?_
        obtain ⟨h7, hv, hM⟩ := e_bs hM
        refine e_putv (C := RX0) (T := TX0) (N := 2) E J hv rfl rfl inX0 tyX0 tyX0_ok nmX0 (by decide) q_1_43 rfl rfl rfl rfl dX8_turns_31 (fun H locs J => ?_)
        refine lv_iload hx hb dX8_turns_34 (lv_at hl 0 rfl) ?_
        obtain rfl := e_so hM
        exact e_iret E J dX8_turns_36
      · have hM := e_ip hc hM
        refine lv_ldc (v := -1000000001) hx hb hown (hts _ q_1_237) dX8_turns_20 ?_
        obtain rfl := e_so hM
        exact e_iret E J dX8_turns_22
set_option maxRecDepth 100000 in
set_option maxHeartbeats 4000000 in
theorem mX8_mix_b74 {p : Program} {l : Launch} {e : Env} {s : State} {m : MethodId} {args : Array Value} {below : List Frame} {meth : Method} {c : Code} {G : e_G} {res : (Int32 × e_H)} {k74 : Nat → Nat → Nat → Int32 → Int32 → e_H → Option (Int32 × e_H)} (E : e_M G p s args m meth c cX8_mix 10 (some FieldType.int) RX8) (K74 : ∀ (l5 : Nat) (l6 : Nat) (l7 : Nat) (l8 : Int32) (l9 : Int32) (h : e_H), k74 l5 l6 l7 l8 l9 h = some res → ∀ (H : Heap) (locs : List Loc), e_J G s h H locs → ∀ (ls : Array Slot), lv_has ls 10 [(5, .ref (e_ad G l5)), (6, .ref (e_ad G l6)), (7, .ref (e_ad G l7)), (8, .int l8), (9, .int l9)] → W p l e (e_rm 2 60) s m args below meth c H locs 0 0 (MQ below (e_Q G res.2 (some (.int res.1))) args s 0 0 (e_A G)) (F0 m 74 ls [])) (l5 : Nat) (l6 : Nat) (l7 : Nat) (l8 : Int32) (l9 : Int32) (h : e_H) (hM : fX8_mix_b74 k74 l5 l6 l7 l8 l9 h = some res) {H : Heap} {locs : List Loc} (J : e_J G s h H locs) {ls : Array Slot} (hl : lv_has ls 10 [(5, .ref (e_ad G l5)), (6, .ref (e_ad G l6)), (7, .ref (e_ad G l7)), (8, .int l8), (9, .int l9)]) : W p l e (e_rm 2 60) s m args below meth c H locs 0 0 (MQ below (e_Q G res.2 (some (.int res.1))) args s 0 0 (e_A G)) (F0 m 74 ls []) := by
  obtain ⟨hx, hb, hr, hml, hown, hts, hlocks, hES, hbs⟩ := id E
  unfold fX8_mix_b74 at hM
  refine lv_iload hx hb dX8_mix_74 (lv_at hl 4 rfl) ?_
  refine lv_bipush (v := nI 15) hx hb dX8_mix_76 (by decide) ?_
  refine lv_icmp_ge (tgt := 115) hx hb dX8_mix_78 (by decide) (fun hc => ?_) (fun hc => ?_)
  · have hM := e_ip hc hM
    refine lv_aload hx hb dX8_mix_115 (lv_at hl 0 rfl) ?_
    obtain ⟨v1, hv, hM⟩ := e_bs hM
    obtain ⟨fs_, hk, -⟩ := e_bs hv
    refine e_callV (ci := 0) (As := []) (rest := []) (n := 0) E J hk rfl (mX0_notZero (l := l) (G := G) l5 h _ hv) q_2_133 q_2_90 q_2_91 q_1_3 q_2_92 (by decide +kernel) rfl ⟨Nat.le_of_ble_eq_true rfl, Nat.le_of_ble_eq_true rfl⟩ (st0 := [.ref (e_ad G l5)]) (st1 := [.int v1]) rfl rfl hl.1 (Nat.le_of_ble_eq_true rfl) dX8_mix_117 ⟨Nat.le_refl _, Nat.le_refl _⟩ (fun H locs J => ?_)
    obtain rfl := e_so hM
    exact e_iret E J dX8_mix_120
  · have hM := e_in hc hM
    refine lv_aload hx hb dX8_mix_81 (lv_at hl 0 rfl) ?_
    refine lv_iload hx hb dX8_mix_83 (lv_at hl 4 rfl) ?_
    refine lv_aload hx hb dX8_mix_85 (lv_at hl 2 rfl) ?_
    refine lv_iload hx hb dX8_mix_87 (lv_at hl 4 rfl) ?_
    obtain ⟨v2, hv, hM⟩ := e_bs hM
    obtain ⟨fs_, hk, -⟩ := e_bs hv
    refine e_callV (ci := 0) (As := [.int l9]) (rest := [.int l9, .ref (e_ad G l5)]) (n := 1) E J hk rfl (mX0_numberAt (l := l) (G := G) l7 l9 h _ hv) q_2_23 q_2_24 q_2_25 q_1_3 q_2_26 (by decide +kernel) rfl ⟨Nat.le_of_ble_eq_true rfl, Nat.le_of_ble_eq_true rfl⟩ (st0 := [.int l9, .ref (e_ad G l7), .int l9, .ref (e_ad G l5)]) (st1 := [.int v2, .int l9, .ref (e_ad G l5)]) rfl rfl hl.1 (Nat.le_of_ble_eq_true rfl) dX8_mix_89 ⟨Nat.le_refl _, Nat.le_refl _⟩ (fun H locs J => ?_)
    refine lv_iload hx hb dX8_mix_92 (lv_at hl 3 rfl) ?_
    refine lv_aload hx hb dX8_mix_94 (lv_at hl 1 rfl) ?_
    refine lv_iload hx hb dX8_mix_96 (lv_at hl 4 rfl) ?_
    obtain ⟨v3, hv, hM⟩ := e_bs hM
    obtain ⟨fs_, hk, -⟩ := e_bs hv
    refine e_callV (ci := 0) (As := [.int l9]) (rest := [.int l8, .int v2, .int l9, .ref (e_ad G l5)]) (n := 1) E J hk rfl (mX0_numberAt (l := l) (G := G) l6 l9 h _ hv) q_2_23 q_2_24 q_2_25 q_1_3 q_2_26 (by decide +kernel) rfl ⟨Nat.le_of_ble_eq_true rfl, Nat.le_of_ble_eq_true rfl⟩ (st0 := [.int l9, .ref (e_ad G l6), .int l8, .int v2, .int l9, .ref (e_ad G l5)]) (st1 := [.int v3, .int l8, .int v2, .int l9, .ref (e_ad G l5)]) rfl rfl hl.1 (Nat.le_of_ble_eq_true rfl) dX8_mix_98 ⟨Nat.le_refl _, Nat.le_refl _⟩ (fun H locs J => ?_)
    refine lv_imul hx hb dX8_mix_101 ?_
    refine lv_iadd hx hb dX8_mix_102 ?_
    obtain ⟨v4, hv, hM⟩ := e_bs hM
    refine e_callS (As := [.int (v2 + (l8 * v3))]) (rest := [.int l9, .ref (e_ad G l5)]) (n := 1) E J (mX8_held (l := l) (G := G) (v2 + (l8 * v3)) h _ hv) q_2_132 q_2_73 q_1_1 q_2_74 (by decide +kernel) rfl ⟨Nat.le_of_ble_eq_true rfl, Nat.le_of_ble_eq_true rfl⟩ (st0 := [.int (v2 + (l8 * v3)), .int l9, .ref (e_ad G l5)]) (st1 := [.int v4, .int l9, .ref (e_ad G l5)]) rfl rfl hl.1 (Nat.le_of_ble_eq_true rfl) dX8_mix_103 ⟨Nat.le_refl _, Nat.le_refl _⟩ (fun H locs J => ?_)
    obtain ⟨h5, hv, hM⟩ := e_bs hM
    obtain ⟨fs_, hk, -⟩ := e_bs hv
    refine e_callV (ci := 0) (As := [.int l9, .int v4]) (rest := []) (n := 2) E J hk rfl (mX0_setNumber (l := l) (G := G) l5 l9 v4 h _ hv) q_2_27 q_2_28 q_2_29 q_1_3 q_2_30 (by decide +kernel) rfl ⟨Nat.le_of_ble_eq_true rfl, Nat.le_of_ble_eq_true rfl⟩ (st0 := [.int v4, .int l9, .ref (e_ad G l5)]) (st1 := []) rfl rfl hl.1 (Nat.le_of_ble_eq_true rfl) dX8_mix_106 ⟨Nat.le_refl _, Nat.le_refl _⟩ (fun H locs J => ?_)
    refine lv_iinc (v := (l9 + (nI 1))) (lv' := [(9, .int (l9 + (nI 1))), (5, .ref (e_ad G l5)), (6, .ref (e_ad G l6)), (7, .ref (e_ad G l7)), (8, .int l8)]) hx hb dX8_mix_109 hl (k := 4) rfl rfl (by decide) rfl (fun ls hl => ?_)
    refine lv_goto (tgt := 74) hx hb dX8_mix_112 (by decide) ?_
    exact K74 l5 l6 l7 l8 (l9 + (nI 1)) h5 hM _ _ J _ (lv_sub hl [1, 2, 3, 4, 0] rfl)
set_option maxRecDepth 100000 in
set_option maxHeartbeats 4000000 in
theorem mX8_mix_L74 {p : Program} {l : Launch} {e : Env} {s : State} {m : MethodId} {args : Array Value} {below : List Frame} {meth : Method} {c : Code} {G : e_G} {res : (Int32 × e_H)} (E : e_M G p s args m meth c cX8_mix 10 (some FieldType.int) RX8) (n : Nat) (l5 : Nat) (l6 : Nat) (l7 : Nat) (l8 : Int32) (l9 : Int32) (h : e_H) (hM : fX8_mix_L74 n l5 l6 l7 l8 l9 h = some res) {H : Heap} {locs : List Loc} (J : e_J G s h H locs) {ls : Array Slot} (hl : lv_has ls 10 [(5, .ref (e_ad G l5)), (6, .ref (e_ad G l6)), (7, .ref (e_ad G l7)), (8, .int l8), (9, .int l9)]) : W p l e (e_rm 2 60) s m args below meth c H locs 0 0 (MQ below (e_Q G res.2 (some (.int res.1))) args s 0 0 (e_A G)) (F0 m 74 ls []) := by
  induction n generalizing l5 l6 l7 l8 l9 h H locs ls with
  | zero => exact e_no hM
  | succ n ih => exact mX8_mix_b74 (k74 := (fX8_mix_L74 n)) E   (fun l5 l6 l7 l8 l9 h hM H locs J ls hl => ih l5 l6 l7 l8 l9 h hM J hl) l5 l6 l7 l8 l9 h hM J hl
set_option maxRecDepth 100000 in
set_option maxHeartbeats 4000000 in
theorem mX8_mix_b69 {p : Program} {l : Launch} {e : Env} {s : State} {m : MethodId} {args : Array Value} {below : List Frame} {meth : Method} {c : Code} {G : e_G} {res : (Int32 × e_H)} (E : e_M G p s args m meth c cX8_mix 10 (some FieldType.int) RX8) (l5 : Nat) (l6 : Nat) (l7 : Nat) (t0 : Int32) (h : e_H) (hM : fX8_mix_b69 l5 l6 l7 t0 h = some res) {H : Heap} {locs : List Loc} (J : e_J G s h H locs) {ls : Array Slot} (hl : lv_has ls 10 [(5, .ref (e_ad G l5)), (6, .ref (e_ad G l6)), (7, .ref (e_ad G l7))]) : W p l e (e_rm 2 60) s m args below meth c H locs 0 0 (MQ below (e_Q G res.2 (some (.int res.1))) args s 0 0 (e_A G)) (F0 m 69 ls [.int t0]) := by
  obtain ⟨hx, hb, hr, hml, hown, hts, hlocks, hES, hbs⟩ := id E
  unfold fX8_mix_b69 at hM
  refine lv_istore (lv' := [(8, .int t0), (5, .ref (e_ad G l5)), (6, .ref (e_ad G l6)), (7, .ref (e_ad G l7))]) hx hb dX8_mix_69 hl (by decide) rfl (fun ls hl => ?_)
  refine lv_iconst (v := nI 0) hx hb dX8_mix_71 (by decide) ?_
  refine lv_istore (lv' := [(9, .int (nI 0)), (8, .int t0), (5, .ref (e_ad G l5)), (6, .ref (e_ad G l6)), (7, .ref (e_ad G l7))]) hx hb dX8_mix_72 hl (by decide) rfl (fun ls hl => ?_)
  exact mX8_mix_L74 E 200 l5 l6 l7 t0 (nI 0) h hM J (lv_sub hl [2, 3, 4, 1, 0] rfl)
set_option maxRecDepth 100000 in
set_option maxHeartbeats 4000000 in
theorem mX8_mix {l : Launch} {G : e_G} (l0 : Nat) (l1 : Int32) (l2 : Int32) (l3 : Int32) (l4 : Int32) (h : e_H) (res : (Int32 × e_H)) (hM : fX8_mix l0 l1 l2 l3 l4 h = some res) : Met l yX8_mix (e_W yX8_mix cX8_mix 10 (some FieldType.int)) (e_rm 2 60) (e_Pc G h [.ref (e_ad G l0), .int l1, .int l2, .int l3, .int l4]) (e_Q G res.2 (some (.int res.1))) 0 0 (e_A G) := by
  refine Met.ofW (cc := cX8_mix) (maxL := 10) (ret := (some FieldType.int)) (by decide) rfl ?_
  intro p e s m args below meth c s₁ B hml hv
  obtain ⟨rfl, hS, hP⟩ := hv
  have E := e_enter (own := RX8) (ret := (some FieldType.int)) B hml rfl hS hP
  have J : e_J G s h s.heap [] := ⟨hP, va_S.rf⟩
  have hl := lv_entry ([.ref (e_ad G l0), .int l1, .int l2, .int l3, .int l4]) (n := 10) (Nat.le_of_ble_eq_true rfl)
  rw [lg_entry_eq]
  generalize (lg_sl ([.ref (e_ad G l0), .int l1, .int l2, .int l3, .int l4]) ++ List.replicate (10 - (lg_sl ([.ref (e_ad G l0), .int l1, .int l2, .int l3, .int l4])).length) Slot.unset).toArray = ls at hl ⊢
  have hl : lv_has ls 10 [(0, .ref (e_ad G l0)), (1, .int l1), (2, .int l2), (3, .int l3), (4, .int l4)] := hl
  obtain ⟨hx, hb, hr, hml, hown, hts, hlocks, hES, hbs⟩ := id E
  unfold fX8_mix at hM
  obtain ⟨fs_, hk_, hM⟩ := e_bs hM
  refine lv_aload_n hx hb dX8_mix_0 rfl (lv_at hl 0 rfl) ?_
  obtain ⟨v1, hv, hM⟩ := e_bs hM
  refine e_getR (C := RX8) (T := TX8) (N := 10) E J hv rfl inX8 (by decide) q_1_199 dX8_mix_1 ?_
  rcases v1 with _ | a2
  · have hM := e_on0 hM
    refine W.eq (g2 := F0 m 4 ls [.null]) rfl ?_
    refine lv_iload_n hx hb dX8_mix_4 rfl (lv_at hl 1 rfl) ?_
    exact e_no hM
  · have hM := e_on1 hM
    refine W.eq (g2 := F0 m 4 ls [.ref (e_ad G a2)]) rfl ?_
    refine lv_iload_n hx hb dX8_mix_4 rfl (lv_at hl 1 rfl) ?_
    obtain ⟨v3, hv, hM⟩ := e_bs hM
    obtain ⟨fs_, hk, -⟩ := e_bs hv
    refine e_callV (ci := 7) (As := [.int l1]) (rest := []) (n := 1) E J hk rfl (mX7_curveOf (l := l) (G := G) a2 l1 h _ hv) q_2_14 q_2_15 q_2_16 q_1_2 q_2_17 (by decide +kernel) rfl ⟨Nat.le_of_ble_eq_true rfl, Nat.le_of_ble_eq_true rfl⟩ (st0 := [.int l1, .ref (e_ad G a2)]) (st1 := [e_r G v3]) rfl rfl hl.1 (Nat.le_of_ble_eq_true rfl) dX8_mix_5 ⟨Nat.le_refl _, Nat.le_refl _⟩ (fun H locs J => ?_)
    rcases v3 with _ | a4
    · have hM := e_on0 hM
      refine W.eq (g2 := F0 m 8 ls [.null]) rfl ?_
      refine lv_astoreN (lv' := [(5, .null), (0, .ref (e_ad G l0)), (1, .int l1), (2, .int l2), (3, .int l3), (4, .int l4)]) hx hb dX8_mix_8 hl (by decide) rfl (fun ls hl => ?_)
      refine lv_aload_n hx hb dX8_mix_10 rfl (lv_at hl 1 rfl) ?_
      obtain ⟨v5, hv, hM⟩ := e_bs hM
      refine e_getR (C := RX8) (T := TX8) (N := 10) E J hv rfl inX8 (by decide) q_1_199 dX8_mix_11 ?_
      rcases v5 with _ | a6
      · have hM := e_on0 hM
        refine W.eq (g2 := F0 m 14 ls [.null]) rfl ?_
        refine lv_iload_n hx hb dX8_mix_14 rfl (lv_at hl 3 rfl) ?_
        exact e_no hM
      · have hM := e_on1 hM
        refine W.eq (g2 := F0 m 14 ls [.ref (e_ad G a6)]) rfl ?_
        refine lv_iload_n hx hb dX8_mix_14 rfl (lv_at hl 3 rfl) ?_
        obtain ⟨v7, hv, hM⟩ := e_bs hM
        obtain ⟨fs_, hk, -⟩ := e_bs hv
        refine e_callV (ci := 7) (As := [.int l2]) (rest := []) (n := 1) E J hk rfl (mX7_curveOf (l := l) (G := G) a6 l2 h _ hv) q_2_14 q_2_15 q_2_16 q_1_2 q_2_17 (by decide +kernel) rfl ⟨Nat.le_of_ble_eq_true rfl, Nat.le_of_ble_eq_true rfl⟩ (st0 := [.int l2, .ref (e_ad G a6)]) (st1 := [e_r G v7]) rfl rfl hl.1 (Nat.le_of_ble_eq_true rfl) dX8_mix_15 ⟨Nat.le_refl _, Nat.le_refl _⟩ (fun H locs J => ?_)
        rcases v7 with _ | a8
        · have hM := e_on0 hM
          refine W.eq (g2 := F0 m 18 ls [.null]) rfl ?_
          refine lv_astoreN (lv' := [(6, .null), (5, .null), (0, .ref (e_ad G l0)), (1, .int l1), (2, .int l2), (3, .int l3), (4, .int l4)]) hx hb dX8_mix_18 hl (by decide) rfl (fun ls hl => ?_)
          refine lv_aload_n hx hb dX8_mix_20 rfl (lv_at hl 2 rfl) ?_
          obtain ⟨v9, hv, hM⟩ := e_bs hM
          refine e_getR (C := RX8) (T := TX8) (N := 10) E J hv rfl inX8 (by decide) q_1_199 dX8_mix_21 ?_
          rcases v9 with _ | a10
          · have hM := e_on0 hM
            refine W.eq (g2 := F0 m 24 ls [.null]) rfl ?_
            refine lv_iload_n hx hb dX8_mix_24 rfl (lv_at hl 5 rfl) ?_
            exact e_no hM
          · have hM := e_on1 hM
            refine W.eq (g2 := F0 m 24 ls [.ref (e_ad G a10)]) rfl ?_
            refine lv_iload_n hx hb dX8_mix_24 rfl (lv_at hl 5 rfl) ?_
            obtain ⟨v11, hv, hM⟩ := e_bs hM
            obtain ⟨fs_, hk, -⟩ := e_bs hv
            refine e_callV (ci := 7) (As := [.int l3]) (rest := []) (n := 1) E J hk rfl (mX7_curveOf (l := l) (G := G) a10 l3 h _ hv) q_2_14 q_2_15 q_2_16 q_1_2 q_2_17 (by decide +kernel) rfl ⟨Nat.le_of_ble_eq_true rfl, Nat.le_of_ble_eq_true rfl⟩ (st0 := [.int l3, .ref (e_ad G a10)]) (st1 := [e_r G v11]) rfl rfl hl.1 (Nat.le_of_ble_eq_true rfl) dX8_mix_25 ⟨Nat.le_refl _, Nat.le_refl _⟩ (fun H locs J => ?_)
            rcases v11 with _ | a12
            · have hM := e_on0 hM
              refine W.eq (g2 := F0 m 28 ls [.null]) rfl ?_
              refine lv_astoreN (lv' := [(7, .null), (6, .null), (5, .null), (0, .ref (e_ad G l0)), (1, .int l1), (2, .int l2), (3, .int l3), (4, .int l4)]) hx hb dX8_mix_28 hl (by decide) rfl (fun ls hl => ?_)
              refine lv_aloadN hx hb dX8_mix_30 (lv_at hl 2 rfl) ?_
              refine lv_ifnullN (tgt := 56) hx hb dX8_mix_32 (by decide) ?_
              refine lv_ldc (v := -1000000001) hx hb hown (hts _ q_1_237) dX8_mix_56 ?_
              obtain rfl := e_so hM
              exact e_iret E J dX8_mix_58
            · have hM := e_on1 hM
              refine W.eq (g2 := F0 m 28 ls [.ref (e_ad G a12)]) rfl ?_
              refine lv_astore (lv' := [(7, .ref (e_ad G a12)), (6, .null), (5, .null), (0, .ref (e_ad G l0)), (1, .int l1), (2, .int l2), (3, .int l3), (4, .int l4)]) hx hb dX8_mix_28 hl (by decide) rfl (fun ls hl => ?_)
              refine lv_aloadN hx hb dX8_mix_30 (lv_at hl 2 rfl) ?_
              refine lv_ifnullN (tgt := 56) hx hb dX8_mix_32 (by decide) ?_
              refine lv_ldc (v := -1000000001) hx hb hown (hts _ q_1_237) dX8_mix_56 ?_
              obtain rfl := e_so hM
              exact e_iret E J dX8_mix_58
        · have hM := e_on1 hM
          refine W.eq (g2 := F0 m 18 ls [.ref (e_ad G a8)]) rfl ?_
          refine lv_astore (lv' := [(6, .ref (e_ad G a8)), (5, .null), (0, .ref (e_ad G l0)), (1, .int l1), (2, .int l2), (3, .int l3), (4, .int l4)]) hx hb dX8_mix_18 hl (by decide) rfl (fun ls hl => ?_)
          refine lv_aload_n hx hb dX8_mix_20 rfl (lv_at hl 2 rfl) ?_
          obtain ⟨v13, hv, hM⟩ := e_bs hM
          refine e_getR (C := RX8) (T := TX8) (N := 10) E J hv rfl inX8 (by decide) q_1_199 dX8_mix_21 ?_
          rcases v13 with _ | a14
          · have hM := e_on0 hM
            refine W.eq (g2 := F0 m 24 ls [.null]) rfl ?_
            refine lv_iload_n hx hb dX8_mix_24 rfl (lv_at hl 5 rfl) ?_
            exact e_no hM
          · have hM := e_on1 hM
            refine W.eq (g2 := F0 m 24 ls [.ref (e_ad G a14)]) rfl ?_
            refine lv_iload_n hx hb dX8_mix_24 rfl (lv_at hl 5 rfl) ?_
            obtain ⟨v15, hv, hM⟩ := e_bs hM
            obtain ⟨fs_, hk, -⟩ := e_bs hv
            refine e_callV (ci := 7) (As := [.int l3]) (rest := []) (n := 1) E J hk rfl (mX7_curveOf (l := l) (G := G) a14 l3 h _ hv) q_2_14 q_2_15 q_2_16 q_1_2 q_2_17 (by decide +kernel) rfl ⟨Nat.le_of_ble_eq_true rfl, Nat.le_of_ble_eq_true rfl⟩ (st0 := [.int l3, .ref (e_ad G a14)]) (st1 := [e_r G v15]) rfl rfl hl.1 (Nat.le_of_ble_eq_true rfl) dX8_mix_25 ⟨Nat.le_refl _, Nat.le_refl _⟩ (fun H locs J => ?_)
            rcases v15 with _ | a16
            · have hM := e_on0 hM
              refine W.eq (g2 := F0 m 28 ls [.null]) rfl ?_
              refine lv_astoreN (lv' := [(7, .null), (6, .ref (e_ad G a8)), (5, .null), (0, .ref (e_ad G l0)), (1, .int l1), (2, .int l2), (3, .int l3), (4, .int l4)]) hx hb dX8_mix_28 hl (by decide) rfl (fun ls hl => ?_)
              refine lv_aloadN hx hb dX8_mix_30 (lv_at hl 2 rfl) ?_
              refine lv_ifnullN (tgt := 56) hx hb dX8_mix_32 (by decide) ?_
              refine lv_ldc (v := -1000000001) hx hb hown (hts _ q_1_237) dX8_mix_56 ?_
              obtain rfl := e_so hM
              exact e_iret E J dX8_mix_58
            · have hM := e_on1 hM
              refine W.eq (g2 := F0 m 28 ls [.ref (e_ad G a16)]) rfl ?_
              refine lv_astore (lv' := [(7, .ref (e_ad G a16)), (6, .ref (e_ad G a8)), (5, .null), (0, .ref (e_ad G l0)), (1, .int l1), (2, .int l2), (3, .int l3), (4, .int l4)]) hx hb dX8_mix_28 hl (by decide) rfl (fun ls hl => ?_)
              refine lv_aloadN hx hb dX8_mix_30 (lv_at hl 2 rfl) ?_
              refine lv_ifnullN (tgt := 56) hx hb dX8_mix_32 (by decide) ?_
              refine lv_ldc (v := -1000000001) hx hb hown (hts _ q_1_237) dX8_mix_56 ?_
              obtain rfl := e_so hM
              exact e_iret E J dX8_mix_58
    · have hM := e_on1 hM
      refine W.eq (g2 := F0 m 8 ls [.ref (e_ad G a4)]) rfl ?_
      refine lv_astore (lv' := [(5, .ref (e_ad G a4)), (0, .ref (e_ad G l0)), (1, .int l1), (2, .int l2), (3, .int l3), (4, .int l4)]) hx hb dX8_mix_8 hl (by decide) rfl (fun ls hl => ?_)
      refine lv_aload_n hx hb dX8_mix_10 rfl (lv_at hl 1 rfl) ?_
      obtain ⟨v17, hv, hM⟩ := e_bs hM
      refine e_getR (C := RX8) (T := TX8) (N := 10) E J hv rfl inX8 (by decide) q_1_199 dX8_mix_11 ?_
      rcases v17 with _ | a18
      · have hM := e_on0 hM
        refine W.eq (g2 := F0 m 14 ls [.null]) rfl ?_
        refine lv_iload_n hx hb dX8_mix_14 rfl (lv_at hl 3 rfl) ?_
        exact e_no hM
      · have hM := e_on1 hM
        refine W.eq (g2 := F0 m 14 ls [.ref (e_ad G a18)]) rfl ?_
        refine lv_iload_n hx hb dX8_mix_14 rfl (lv_at hl 3 rfl) ?_
        obtain ⟨v19, hv, hM⟩ := e_bs hM
        obtain ⟨fs_, hk, -⟩ := e_bs hv
        refine e_callV (ci := 7) (As := [.int l2]) (rest := []) (n := 1) E J hk rfl (mX7_curveOf (l := l) (G := G) a18 l2 h _ hv) q_2_14 q_2_15 q_2_16 q_1_2 q_2_17 (by decide +kernel) rfl ⟨Nat.le_of_ble_eq_true rfl, Nat.le_of_ble_eq_true rfl⟩ (st0 := [.int l2, .ref (e_ad G a18)]) (st1 := [e_r G v19]) rfl rfl hl.1 (Nat.le_of_ble_eq_true rfl) dX8_mix_15 ⟨Nat.le_refl _, Nat.le_refl _⟩ (fun H locs J => ?_)
        rcases v19 with _ | a20
        · have hM := e_on0 hM
          refine W.eq (g2 := F0 m 18 ls [.null]) rfl ?_
          refine lv_astoreN (lv' := [(6, .null), (5, .ref (e_ad G a4)), (0, .ref (e_ad G l0)), (1, .int l1), (2, .int l2), (3, .int l3), (4, .int l4)]) hx hb dX8_mix_18 hl (by decide) rfl (fun ls hl => ?_)
          refine lv_aload_n hx hb dX8_mix_20 rfl (lv_at hl 2 rfl) ?_
          obtain ⟨v21, hv, hM⟩ := e_bs hM
          refine e_getR (C := RX8) (T := TX8) (N := 10) E J hv rfl inX8 (by decide) q_1_199 dX8_mix_21 ?_
          rcases v21 with _ | a22
          · have hM := e_on0 hM
            refine W.eq (g2 := F0 m 24 ls [.null]) rfl ?_
            refine lv_iload_n hx hb dX8_mix_24 rfl (lv_at hl 5 rfl) ?_
            exact e_no hM
          · have hM := e_on1 hM
            refine W.eq (g2 := F0 m 24 ls [.ref (e_ad G a22)]) rfl ?_
            refine lv_iload_n hx hb dX8_mix_24 rfl (lv_at hl 5 rfl) ?_
            obtain ⟨v23, hv, hM⟩ := e_bs hM
            obtain ⟨fs_, hk, -⟩ := e_bs hv
            refine e_callV (ci := 7) (As := [.int l3]) (rest := []) (n := 1) E J hk rfl (mX7_curveOf (l := l) (G := G) a22 l3 h _ hv) q_2_14 q_2_15 q_2_16 q_1_2 q_2_17 (by decide +kernel) rfl ⟨Nat.le_of_ble_eq_true rfl, Nat.le_of_ble_eq_true rfl⟩ (st0 := [.int l3, .ref (e_ad G a22)]) (st1 := [e_r G v23]) rfl rfl hl.1 (Nat.le_of_ble_eq_true rfl) dX8_mix_25 ⟨Nat.le_refl _, Nat.le_refl _⟩ (fun H locs J => ?_)
            rcases v23 with _ | a24
            · have hM := e_on0 hM
              refine W.eq (g2 := F0 m 28 ls [.null]) rfl ?_
              refine lv_astoreN (lv' := [(7, .null), (6, .null), (5, .ref (e_ad G a4)), (0, .ref (e_ad G l0)), (1, .int l1), (2, .int l2), (3, .int l3), (4, .int l4)]) hx hb dX8_mix_28 hl (by decide) rfl (fun ls hl => ?_)
              refine lv_aload hx hb dX8_mix_30 (lv_at hl 2 rfl) ?_
              refine lv_ifnull hx hb dX8_mix_32 ?_
              refine lv_aloadN hx hb dX8_mix_35 (lv_at hl 1 rfl) ?_
              refine lv_ifnullN (tgt := 56) hx hb dX8_mix_37 (by decide) ?_
              refine lv_ldc (v := -1000000001) hx hb hown (hts _ q_1_237) dX8_mix_56 ?_
              obtain rfl := e_so hM
              exact e_iret E J dX8_mix_58
            · have hM := e_on1 hM
              refine W.eq (g2 := F0 m 28 ls [.ref (e_ad G a24)]) rfl ?_
              refine lv_astore (lv' := [(7, .ref (e_ad G a24)), (6, .null), (5, .ref (e_ad G a4)), (0, .ref (e_ad G l0)), (1, .int l1), (2, .int l2), (3, .int l3), (4, .int l4)]) hx hb dX8_mix_28 hl (by decide) rfl (fun ls hl => ?_)
              refine lv_aload hx hb dX8_mix_30 (lv_at hl 2 rfl) ?_
              refine lv_ifnull hx hb dX8_mix_32 ?_
              refine lv_aloadN hx hb dX8_mix_35 (lv_at hl 1 rfl) ?_
              refine lv_ifnullN (tgt := 56) hx hb dX8_mix_37 (by decide) ?_
              refine lv_ldc (v := -1000000001) hx hb hown (hts _ q_1_237) dX8_mix_56 ?_
              obtain rfl := e_so hM
              exact e_iret E J dX8_mix_58
        · have hM := e_on1 hM
          refine W.eq (g2 := F0 m 18 ls [.ref (e_ad G a20)]) rfl ?_
          refine lv_astore (lv' := [(6, .ref (e_ad G a20)), (5, .ref (e_ad G a4)), (0, .ref (e_ad G l0)), (1, .int l1), (2, .int l2), (3, .int l3), (4, .int l4)]) hx hb dX8_mix_18 hl (by decide) rfl (fun ls hl => ?_)
          refine lv_aload_n hx hb dX8_mix_20 rfl (lv_at hl 2 rfl) ?_
          obtain ⟨v25, hv, hM⟩ := e_bs hM
          refine e_getR (C := RX8) (T := TX8) (N := 10) E J hv rfl inX8 (by decide) q_1_199 dX8_mix_21 ?_
          rcases v25 with _ | a26
          · have hM := e_on0 hM
            refine W.eq (g2 := F0 m 24 ls [.null]) rfl ?_
            refine lv_iload_n hx hb dX8_mix_24 rfl (lv_at hl 5 rfl) ?_
            exact e_no hM
          · have hM := e_on1 hM
            refine W.eq (g2 := F0 m 24 ls [.ref (e_ad G a26)]) rfl ?_
            refine lv_iload_n hx hb dX8_mix_24 rfl (lv_at hl 5 rfl) ?_
            obtain ⟨v27, hv, hM⟩ := e_bs hM
            obtain ⟨fs_, hk, -⟩ := e_bs hv
            refine e_callV (ci := 7) (As := [.int l3]) (rest := []) (n := 1) E J hk rfl (mX7_curveOf (l := l) (G := G) a26 l3 h _ hv) q_2_14 q_2_15 q_2_16 q_1_2 q_2_17 (by decide +kernel) rfl ⟨Nat.le_of_ble_eq_true rfl, Nat.le_of_ble_eq_true rfl⟩ (st0 := [.int l3, .ref (e_ad G a26)]) (st1 := [e_r G v27]) rfl rfl hl.1 (Nat.le_of_ble_eq_true rfl) dX8_mix_25 ⟨Nat.le_refl _, Nat.le_refl _⟩ (fun H locs J => ?_)
            rcases v27 with _ | a28
            · have hM := e_on0 hM
              refine W.eq (g2 := F0 m 28 ls [.null]) rfl ?_
              refine lv_astoreN (lv' := [(7, .null), (6, .ref (e_ad G a20)), (5, .ref (e_ad G a4)), (0, .ref (e_ad G l0)), (1, .int l1), (2, .int l2), (3, .int l3), (4, .int l4)]) hx hb dX8_mix_28 hl (by decide) rfl (fun ls hl => ?_)
              refine lv_aload hx hb dX8_mix_30 (lv_at hl 2 rfl) ?_
              refine lv_ifnull hx hb dX8_mix_32 ?_
              refine lv_aload hx hb dX8_mix_35 (lv_at hl 1 rfl) ?_
              refine lv_ifnull hx hb dX8_mix_37 ?_
              refine lv_aloadN hx hb dX8_mix_40 (lv_at hl 0 rfl) ?_
              refine lv_ifnullN (tgt := 56) hx hb dX8_mix_42 (by decide) ?_
              refine lv_ldc (v := -1000000001) hx hb hown (hts _ q_1_237) dX8_mix_56 ?_
              obtain rfl := e_so hM
              exact e_iret E J dX8_mix_58
            · have hM := e_on1 hM
              refine W.eq (g2 := F0 m 28 ls [.ref (e_ad G a28)]) rfl ?_
              refine lv_astore (lv' := [(7, .ref (e_ad G a28)), (6, .ref (e_ad G a20)), (5, .ref (e_ad G a4)), (0, .ref (e_ad G l0)), (1, .int l1), (2, .int l2), (3, .int l3), (4, .int l4)]) hx hb dX8_mix_28 hl (by decide) rfl (fun ls hl => ?_)
              refine lv_aload hx hb dX8_mix_30 (lv_at hl 2 rfl) ?_
              refine lv_ifnull hx hb dX8_mix_32 ?_
              refine lv_aload hx hb dX8_mix_35 (lv_at hl 1 rfl) ?_
              refine lv_ifnull hx hb dX8_mix_37 ?_
              refine lv_aload hx hb dX8_mix_40 (lv_at hl 0 rfl) ?_
              refine lv_ifnull hx hb dX8_mix_42 ?_
              refine lv_iload hx hb dX8_mix_45 (lv_at hl 7 rfl) ?_
              refine lv_if_lt (tgt := 56) hx hb dX8_mix_47 (by decide) (fun hc => ?_) (fun hc => ?_)
              · have hM := e_ip hc hM
                refine lv_ldc (v := -1000000001) hx hb hown (hts _ q_1_237) dX8_mix_56 ?_
                obtain rfl := e_so hM
                exact e_iret E J dX8_mix_58
              · have hM := e_in hc hM
                refine lv_iload hx hb dX8_mix_50 (lv_at hl 7 rfl) ?_
                refine lv_iconst (v := nI 1) hx hb dX8_mix_52 (by decide) ?_
                refine lv_icmp_le (tgt := 59) hx hb dX8_mix_53 (by decide) (fun hc => ?_) (fun hc => ?_)
                · have hM := e_ip hc hM
                  refine lv_iload hx hb dX8_mix_59 (lv_at hl 7 rfl) ?_
                  refine lv_if_ne (tgt := 68) hx hb dX8_mix_61 (by decide) (fun hc => ?_) (fun hc => ?_)
                  · have hM := e_in hc hM
                    refine lv_iconst (v := -1) hx hb dX8_mix_68 (by decide) ?_
                    exact mX8_mix_b69 E a4 a20 a28 (-1 : Int32) h hM J (lv_sub hl [2, 1, 0] rfl)
                  · have hM := e_ip hc hM
                    refine lv_iconst (v := nI 1) hx hb dX8_mix_64 (by decide) ?_
                    refine lv_goto (tgt := 69) hx hb dX8_mix_65 (by decide) ?_
                    exact mX8_mix_b69 E a4 a20 a28 (nI 1) h hM J (lv_sub hl [2, 1, 0] rfl)
                · have hM := e_in hc hM
                  refine lv_ldc (v := -1000000001) hx hb hown (hts _ q_1_237) dX8_mix_56 ?_
                  obtain rfl := e_so hM
                  exact e_iret E J dX8_mix_58
set_option maxRecDepth 100000 in
set_option maxHeartbeats 4000000 in
theorem mX7_drawNumbers_b2 {p : Program} {l : Launch} {e : Env} {s : State} {m : MethodId} {args : Array Value} {below : List Frame} {meth : Method} {c : Code} {G : e_G} {res : e_H} {k2 : Nat → Nat → Int32 → e_H → Option e_H} (E : e_M G p s args m meth c cX7_drawNumbers 3 none RX7) (K2 : ∀ (l0 : Nat) (l1 : Nat) (l2 : Int32) (h : e_H), k2 l0 l1 l2 h = some res → ∀ (H : Heap) (locs : List Loc), e_J G s h H locs → ∀ (ls : Array Slot), lv_has ls 3 [(0, .ref (e_ad G l0)), (1, .ref (e_ad G l1)), (2, .int l2)] → W p l e (e_rm 1 22) s m args below meth c H locs 0 0 (MQ below (e_Q G res (none)) args s 0 0 (e_A G)) (F0 m 2 ls [])) (l0 : Nat) (l1 : Nat) (l2 : Int32) (h : e_H) (hM : fX7_drawNumbers_b2 k2 l0 l1 l2 h = some res) {H : Heap} {locs : List Loc} (J : e_J G s h H locs) {ls : Array Slot} (hl : lv_has ls 3 [(0, .ref (e_ad G l0)), (1, .ref (e_ad G l1)), (2, .int l2)]) : W p l e (e_rm 1 22) s m args below meth c H locs 0 0 (MQ below (e_Q G res (none)) args s 0 0 (e_A G)) (F0 m 2 ls []) := by
  obtain ⟨hx, hb, hr, hml, hown, hts, hlocks, hES, hbs⟩ := id E
  unfold fX7_drawNumbers_b2 at hM
  refine lv_iload_n hx hb dX7_drawNumbers_2 rfl (lv_at hl 2 rfl) ?_
  refine lv_bipush (v := nI 15) hx hb dX7_drawNumbers_3 (by decide) ?_
  refine lv_icmp_ge (tgt := 46) hx hb dX7_drawNumbers_5 (by decide) (fun hc => ?_) (fun hc => ?_)
  · have hM := e_ip hc hM
    obtain rfl := e_so hM
    exact e_vret E J dX7_drawNumbers_46
  · have hM := e_in hc hM
    refine lv_aload_n hx hb dX7_drawNumbers_8 rfl (lv_at hl 0 rfl) ?_
    refine lv_aload_n hx hb dX7_drawNumbers_9 rfl (lv_at hl 0 rfl) ?_
    obtain ⟨v1, hv, hM⟩ := e_bs hM
    refine e_getI (C := RX7) (T := TX7) (N := 6) E J hv rfl inX7 (by decide) q_1_55 dX7_drawNumbers_10 ?_
    refine lv_ldc (v := 1103515245) hx hb hown (hts _ q_2_142) dX7_drawNumbers_13 ?_
    refine lv_imul hx hb dX7_drawNumbers_15 ?_
    refine lv_sipush (v := nI 12345) hx hb dX7_drawNumbers_16 (by decide) ?_
    refine lv_iadd hx hb dX7_drawNumbers_19 ?_
    obtain ⟨h2, hv, hM⟩ := e_bs hM
    refine e_putv (C := RX7) (T := TX7) (N := 6) E J hv rfl rfl inX7 tyX7 tyX7_ok nmX7 (by decide) q_1_55 rfl rfl rfl rfl dX7_drawNumbers_20 (fun H locs J => ?_)
    refine lv_aload_n hx hb dX7_drawNumbers_23 rfl (lv_at hl 1 rfl) ?_
    refine lv_iload_n hx hb dX7_drawNumbers_24 rfl (lv_at hl 2 rfl) ?_
    refine lv_aload_n hx hb dX7_drawNumbers_25 rfl (lv_at hl 0 rfl) ?_
    obtain ⟨v3, hv, hM⟩ := e_bs hM
    refine e_getI (C := RX7) (T := TX7) (N := 6) E J hv rfl inX7 (by decide) q_1_55 dX7_drawNumbers_26 ?_
    refine lv_bipush (v := nI 8) hx hb dX7_drawNumbers_29 (by decide) ?_
    refine lv_iushr hx hb dX7_drawNumbers_31 rfl ?_
    refine lv_bipush (v := nI 7) hx hb dX7_drawNumbers_32 (by decide) ?_
    refine lv_irem hx hb dX7_drawNumbers_34 (by decide) ?_
    refine lv_iconst (v := nI 3) hx hb dX7_drawNumbers_35 (by decide) ?_
    refine lv_isub hx hb dX7_drawNumbers_36 ?_
    obtain ⟨h4, hv, hM⟩ := e_bs hM
    obtain ⟨fs_, hk, -⟩ := e_bs hv
    refine e_callV (ci := 0) (As := [.int l2, .int ((((v3).toUInt32 >>> (((nI 8)).toUInt32 &&& Int32.toUInt32 31)).toInt32 - ((v3).toUInt32 >>> (((nI 8)).toUInt32 &&& Int32.toUInt32 31)).toInt32 / (nI 7) * (nI 7)) - (nI 3))]) (rest := []) (n := 2) E J hk rfl (mX0_setNumber (l := l) (G := G) l1 l2 ((((v3).toUInt32 >>> (((nI 8)).toUInt32 &&& Int32.toUInt32 31)).toInt32 - ((v3).toUInt32 >>> (((nI 8)).toUInt32 &&& Int32.toUInt32 31)).toInt32 / (nI 7) * (nI 7)) - (nI 3)) h2 _ hv) q_2_143 q_2_28 q_2_29 q_1_3 q_2_30 (by decide +kernel) rfl ⟨Nat.le_of_ble_eq_true rfl, Nat.le_of_ble_eq_true rfl⟩ (st0 := [.int ((((v3).toUInt32 >>> (((nI 8)).toUInt32 &&& Int32.toUInt32 31)).toInt32 - ((v3).toUInt32 >>> (((nI 8)).toUInt32 &&& Int32.toUInt32 31)).toInt32 / (nI 7) * (nI 7)) - (nI 3)), .int l2, .ref (e_ad G l1)]) (st1 := []) rfl rfl hl.1 (Nat.le_of_ble_eq_true rfl) dX7_drawNumbers_37 ⟨Nat.le_refl _, Nat.le_refl _⟩ (fun H locs J => ?_)
    refine lv_iinc (v := (l2 + (nI 1))) (lv' := [(2, .int (l2 + (nI 1))), (0, .ref (e_ad G l0)), (1, .ref (e_ad G l1))]) hx hb dX7_drawNumbers_40 hl (k := 2) rfl rfl (by decide) rfl (fun ls hl => ?_)
    refine lv_goto (tgt := 2) hx hb dX7_drawNumbers_43 (by decide) ?_
    exact K2 l0 l1 (l2 + (nI 1)) h4 hM _ _ J _ (lv_sub hl [1, 2, 0] rfl)
set_option maxRecDepth 100000 in
set_option maxHeartbeats 4000000 in
theorem mX7_drawNumbers_L2 {p : Program} {l : Launch} {e : Env} {s : State} {m : MethodId} {args : Array Value} {below : List Frame} {meth : Method} {c : Code} {G : e_G} {res : e_H} (E : e_M G p s args m meth c cX7_drawNumbers 3 none RX7) (n : Nat) (l0 : Nat) (l1 : Nat) (l2 : Int32) (h : e_H) (hM : fX7_drawNumbers_L2 n l0 l1 l2 h = some res) {H : Heap} {locs : List Loc} (J : e_J G s h H locs) {ls : Array Slot} (hl : lv_has ls 3 [(0, .ref (e_ad G l0)), (1, .ref (e_ad G l1)), (2, .int l2)]) : W p l e (e_rm 1 22) s m args below meth c H locs 0 0 (MQ below (e_Q G res (none)) args s 0 0 (e_A G)) (F0 m 2 ls []) := by
  induction n generalizing l0 l1 l2 h H locs ls with
  | zero => exact e_no hM
  | succ n ih => exact mX7_drawNumbers_b2 (k2 := (fX7_drawNumbers_L2 n)) E   (fun l0 l1 l2 h hM H locs J ls hl => ih l0 l1 l2 h hM J hl) l0 l1 l2 h hM J hl
set_option maxRecDepth 100000 in
set_option maxHeartbeats 4000000 in
theorem mX7_drawNumbers {l : Launch} {G : e_G} (l0 : Nat) (l1 : Nat) (h : e_H) (res : e_H) (hM : fX7_drawNumbers l0 l1 h = some res) : Met l yX7_drawNumbers (e_W yX7_drawNumbers cX7_drawNumbers 3 none) (e_rm 1 22) (e_Pc G h [.ref (e_ad G l0), .ref (e_ad G l1)]) (e_Q G res (none)) 0 0 (e_A G) := by
  refine Met.ofW (cc := cX7_drawNumbers) (maxL := 3) (ret := none) (by decide) rfl ?_
  intro p e s m args below meth c s₁ B hml hv
  obtain ⟨rfl, hS, hP⟩ := hv
  have E := e_enter (own := RX7) (ret := none) B hml rfl hS hP
  have J : e_J G s h s.heap [] := ⟨hP, va_S.rf⟩
  have hl := lv_entry ([.ref (e_ad G l0), .ref (e_ad G l1)]) (n := 3) (Nat.le_of_ble_eq_true rfl)
  rw [lg_entry_eq]
  generalize (lg_sl ([.ref (e_ad G l0), .ref (e_ad G l1)]) ++ List.replicate (3 - (lg_sl ([.ref (e_ad G l0), .ref (e_ad G l1)])).length) Slot.unset).toArray = ls at hl ⊢
  have hl : lv_has ls 3 [(0, .ref (e_ad G l0)), (1, .ref (e_ad G l1))] := hl
  obtain ⟨hx, hb, hr, hml, hown, hts, hlocks, hES, hbs⟩ := id E
  unfold fX7_drawNumbers at hM
  obtain ⟨fs_, hk_, hM⟩ := e_bs hM
  refine lv_iconst (v := nI 0) hx hb dX7_drawNumbers_0 (by decide) ?_
  refine lv_istore_n (lv' := [(2, .int (nI 0)), (0, .ref (e_ad G l0)), (1, .ref (e_ad G l1))]) hx hb dX7_drawNumbers_1 rfl hl (by decide) rfl (fun ls hl => ?_)
  exact mX7_drawNumbers_L2 E 200 l0 l1 (nI 0) h hM J (lv_sub hl [1, 2, 0] rfl)
set_option maxRecDepth 100000 in
set_option maxHeartbeats 4000000 in
theorem mX8_deal_b50 {p : Program} {l : Launch} {e : Env} {s : State} {m : MethodId} {args : Array Value} {below : List Frame} {meth : Method} {c : Code} {G : e_G} {res : (Int32 × e_H)} {k18 : Nat → Int32 → Int32 → Int32 → e_H → Option (Int32 × e_H)} (E : e_M G p s args m meth c cX8_deal 5 (some FieldType.int) RX8) (K18 : ∀ (l0 : Nat) (l1 : Int32) (l2 : Int32) (l3 : Int32) (h : e_H), k18 l0 l1 l2 l3 h = some res → ∀ (H : Heap) (locs : List Loc), e_J G s h H locs → ∀ (ls : Array Slot), lv_has ls 5 [(0, .ref (e_ad G l0)), (1, .int l1), (2, .int l2), (3, .int l3)] → W p l e (e_rm 3 66) s m args below meth c H locs 0 0 (MQ below (e_Q G res.2 (some (.int res.1))) args s 0 0 (e_A G)) (F0 m 18 ls [])) (l0 : Nat) (l1 : Int32) (l2 : Int32) (l3 : Int32) (h : e_H) (hM : fX8_deal_b50 k18 l0 l1 l2 l3 h = some res) {H : Heap} {locs : List Loc} (J : e_J G s h H locs) {ls : Array Slot} (hl : lv_has ls 5 [(0, .ref (e_ad G l0)), (1, .int l1), (2, .int l2), (3, .int l3)]) : W p l e (e_rm 3 66) s m args below meth c H locs 0 0 (MQ below (e_Q G res.2 (some (.int res.1))) args s 0 0 (e_A G)) (F0 m 50 ls []) := by
  obtain ⟨hx, hb, hr, hml, hown, hts, hlocks, hES, hbs⟩ := id E
  unfold fX8_deal_b50 at hM
  refine lv_iinc (v := (l3 + (nI 1))) (lv' := [(3, .int (l3 + (nI 1))), (0, .ref (e_ad G l0)), (1, .int l1), (2, .int l2)]) hx hb dX8_deal_50 hl (k := 3) rfl rfl (by decide) rfl (fun ls hl => ?_)
  refine lv_goto (tgt := 18) hx hb dX8_deal_53 (by decide) ?_
  exact K18 l0 l1 l2 (l3 + (nI 1)) h hM _ _ J _ (lv_sub hl [1, 2, 3, 0] rfl)
set_option maxRecDepth 100000 in
set_option maxHeartbeats 4000000 in
theorem mX8_deal_b18 {p : Program} {l : Launch} {e : Env} {s : State} {m : MethodId} {args : Array Value} {below : List Frame} {meth : Method} {c : Code} {G : e_G} {res : (Int32 × e_H)} {k18 : Nat → Int32 → Int32 → Int32 → e_H → Option (Int32 × e_H)} (E : e_M G p s args m meth c cX8_deal 5 (some FieldType.int) RX8) (K18 : ∀ (l0 : Nat) (l1 : Int32) (l2 : Int32) (l3 : Int32) (h : e_H), k18 l0 l1 l2 l3 h = some res → ∀ (H : Heap) (locs : List Loc), e_J G s h H locs → ∀ (ls : Array Slot), lv_has ls 5 [(0, .ref (e_ad G l0)), (1, .int l1), (2, .int l2), (3, .int l3)] → W p l e (e_rm 3 66) s m args below meth c H locs 0 0 (MQ below (e_Q G res.2 (some (.int res.1))) args s 0 0 (e_A G)) (F0 m 18 ls [])) (l0 : Nat) (l1 : Int32) (l2 : Int32) (l3 : Int32) (h : e_H) (hM : fX8_deal_b18 k18 l0 l1 l2 l3 h = some res) {H : Heap} {locs : List Loc} (J : e_J G s h H locs) {ls : Array Slot} (hl : lv_has ls 5 [(0, .ref (e_ad G l0)), (1, .int l1), (2, .int l2), (3, .int l3)]) : W p l e (e_rm 3 66) s m args below meth c H locs 0 0 (MQ below (e_Q G res.2 (some (.int res.1))) args s 0 0 (e_A G)) (F0 m 18 ls []) := by
  obtain ⟨hx, hb, hr, hml, hown, hts, hlocks, hES, hbs⟩ := id E
  unfold fX8_deal_b18 at hM
  refine lv_iload_n hx hb dX8_deal_18 rfl (lv_at hl 3 rfl) ?_
  refine lv_iload_n hx hb dX8_deal_19 rfl (lv_at hl 1 rfl) ?_
  refine lv_icmp_ge (tgt := 56) hx hb dX8_deal_20 (by decide) (fun hc => ?_) (fun hc => ?_)
  · have hM := e_ip hc hM
    refine lv_iload_n hx hb dX8_deal_56 rfl (lv_at hl 2 rfl) ?_
    obtain rfl := e_so hM
    exact e_iret E J dX8_deal_57
  · have hM := e_in hc hM
    refine lv_aload_n hx hb dX8_deal_23 rfl (lv_at hl 0 rfl) ?_
    obtain ⟨v1, hv, hM⟩ := e_bs hM
    refine e_getR (C := RX8) (T := TX8) (N := 10) E J hv rfl inX8 (by decide) q_1_199 dX8_deal_24 ?_
    rcases v1 with _ | a2
    · have hM := e_on0 hM
      refine W.eq (g2 := F0 m 27 ls [.null]) rfl ?_
      refine lv_iconst (v := nI 0) hx hb dX8_deal_27 (by decide) ?_
      exact e_no hM
    · have hM := e_on1 hM
      refine W.eq (g2 := F0 m 27 ls [.ref (e_ad G a2)]) rfl ?_
      refine lv_iconst (v := nI 0) hx hb dX8_deal_27 (by decide) ?_
      obtain ⟨p3, hv, hM⟩ := e_bs hM
      obtain ⟨fs_, hk, -⟩ := e_bs hv
      refine e_callV (ci := 7) (As := [.int (nI 0)]) (rest := []) (n := 1) E J hk rfl (mX7_addCurve (l := l) (G := G) a2 (nI 0) h _ hv) q_1_238 q_1_239 q_2_0 q_1_2 q_2_1 (by decide +kernel) rfl ⟨Nat.le_of_ble_eq_true rfl, Nat.le_of_ble_eq_true rfl⟩ (st0 := [.int (nI 0), .ref (e_ad G a2)]) (st1 := [e_r G p3.1]) rfl rfl hl.1 (Nat.le_of_ble_eq_true rfl) dX8_deal_28 ⟨Nat.le_refl _, Nat.le_refl _⟩ (fun H locs J => ?_)
      obtain ⟨r4, hr4⟩ := p3
      rcases r4 with _ | a5
      · have hM := e_on0 hM
        refine W.eq (g2 := F0 m 31 ls [.null]) rfl ?_
        refine lv_astoreN (lv' := [(4, .null), (0, .ref (e_ad G l0)), (1, .int l1), (2, .int l2), (3, .int l3)]) hx hb dX8_deal_31 hl (by decide) rfl (fun ls hl => ?_)
        refine lv_aloadN hx hb dX8_deal_33 (lv_at hl 0 rfl) ?_
        refine lv_ifnullN (tgt := 50) hx hb dX8_deal_35 (by decide) ?_
        exact mX8_deal_b50 E K18 l0 l1 l2 l3 hr4 hM J (lv_sub hl [1, 2, 3, 4] rfl)
      · have hM := e_on1 hM
        refine W.eq (g2 := F0 m 31 ls [.ref (e_ad G a5)]) rfl ?_
        refine lv_astore (lv' := [(4, .ref (e_ad G a5)), (0, .ref (e_ad G l0)), (1, .int l1), (2, .int l2), (3, .int l3)]) hx hb dX8_deal_31 hl (by decide) rfl (fun ls hl => ?_)
        refine lv_aload hx hb dX8_deal_33 (lv_at hl 0 rfl) ?_
        refine lv_ifnull hx hb dX8_deal_35 ?_
        refine lv_aload_n hx hb dX8_deal_38 rfl (lv_at hl 1 rfl) ?_
        obtain ⟨v6, hv, hM⟩ := e_bs hM
        refine e_getR (C := RX8) (T := TX8) (N := 10) E J hv rfl inX8 (by decide) q_1_199 dX8_deal_39 ?_
        rcases v6 with _ | a7
        · have hM := e_on0 hM
          refine W.eq (g2 := F0 m 42 ls [.null]) rfl ?_
          refine lv_aload hx hb dX8_deal_42 (lv_at hl 0 rfl) ?_
          exact e_no hM
        · have hM := e_on1 hM
          refine W.eq (g2 := F0 m 42 ls [.ref (e_ad G a7)]) rfl ?_
          refine lv_aload hx hb dX8_deal_42 (lv_at hl 0 rfl) ?_
          obtain ⟨h8, hv, hM⟩ := e_bs hM
          obtain ⟨fs_, hk, -⟩ := e_bs hv
          refine e_callV (ci := 7) (As := [.ref (e_ad G a5)]) (rest := []) (n := 1) E J hk rfl (mX7_drawNumbers (l := l) (G := G) a7 a5 hr4 _ hv) q_2_138 q_2_139 q_2_140 q_1_2 q_2_141 (by decide +kernel) rfl ⟨Nat.le_of_ble_eq_true rfl, Nat.le_of_ble_eq_true rfl⟩ (st0 := [.ref (e_ad G a5), .ref (e_ad G a7)]) (st1 := []) rfl rfl hl.1 (Nat.le_of_ble_eq_true rfl) dX8_deal_44 ⟨Nat.le_refl _, Nat.le_refl _⟩ (fun H locs J => ?_)
          refine lv_iinc (v := (l2 + (nI 1))) (lv' := [(2, .int (l2 + (nI 1))), (4, .ref (e_ad G a5)), (0, .ref (e_ad G l0)), (1, .int l1), (3, .int l3)]) hx hb dX8_deal_47 hl (k := 3) rfl rfl (by decide) rfl (fun ls hl => ?_)
          exact mX8_deal_b50 E K18 l0 l1 (l2 + (nI 1)) l3 h8 hM J (lv_sub hl [2, 3, 0, 4] rfl)
set_option maxRecDepth 100000 in
set_option maxHeartbeats 4000000 in
theorem mX8_deal_L18 {p : Program} {l : Launch} {e : Env} {s : State} {m : MethodId} {args : Array Value} {below : List Frame} {meth : Method} {c : Code} {G : e_G} {res : (Int32 × e_H)} (E : e_M G p s args m meth c cX8_deal 5 (some FieldType.int) RX8) (n : Nat) (l0 : Nat) (l1 : Int32) (l2 : Int32) (l3 : Int32) (h : e_H) (hM : fX8_deal_L18 n l0 l1 l2 l3 h = some res) {H : Heap} {locs : List Loc} (J : e_J G s h H locs) {ls : Array Slot} (hl : lv_has ls 5 [(0, .ref (e_ad G l0)), (1, .int l1), (2, .int l2), (3, .int l3)]) : W p l e (e_rm 3 66) s m args below meth c H locs 0 0 (MQ below (e_Q G res.2 (some (.int res.1))) args s 0 0 (e_A G)) (F0 m 18 ls []) := by
  induction n generalizing l0 l1 l2 l3 h H locs ls with
  | zero => exact e_no hM
  | succ n ih => exact mX8_deal_b18 (k18 := (fX8_deal_L18 n)) E   (fun l0 l1 l2 l3 h hM H locs J ls hl => ih l0 l1 l2 l3 h hM J hl) l0 l1 l2 l3 h hM J hl
set_option maxRecDepth 100000 in
set_option maxHeartbeats 4000000 in
theorem mX8_deal {l : Launch} {G : e_G} (l0 : Nat) (l1 : Int32) (h : e_H) (res : (Int32 × e_H)) (hM : fX8_deal l0 l1 h = some res) : Met l yX8_deal (e_W yX8_deal cX8_deal 5 (some FieldType.int)) (e_rm 3 66) (e_Pc G h [.ref (e_ad G l0), .int l1]) (e_Q G res.2 (some (.int res.1))) 0 0 (e_A G) := by
  refine Met.ofW (cc := cX8_deal) (maxL := 5) (ret := (some FieldType.int)) (by decide) rfl ?_
  intro p e s m args below meth c s₁ B hml hv
  obtain ⟨rfl, hS, hP⟩ := hv
  have E := e_enter (own := RX8) (ret := (some FieldType.int)) B hml rfl hS hP
  have J : e_J G s h s.heap [] := ⟨hP, va_S.rf⟩
  have hl := lv_entry ([.ref (e_ad G l0), .int l1]) (n := 5) (Nat.le_of_ble_eq_true rfl)
  rw [lg_entry_eq]
  generalize (lg_sl ([.ref (e_ad G l0), .int l1]) ++ List.replicate (5 - (lg_sl ([.ref (e_ad G l0), .int l1])).length) Slot.unset).toArray = ls at hl ⊢
  have hl : lv_has ls 5 [(0, .ref (e_ad G l0)), (1, .int l1)] := hl
  obtain ⟨hx, hb, hr, hml, hown, hts, hlocks, hES, hbs⟩ := id E
  unfold fX8_deal at hM
  obtain ⟨fs_, hk_, hM⟩ := e_bs hM
  refine lv_iload_n hx hb dX8_deal_0 rfl (lv_at hl 1 rfl) ?_
  refine lv_iconst (v := nI 1) hx hb dX8_deal_1 (by decide) ?_
  refine lv_icmp_lt (tgt := 11) hx hb dX8_deal_2 (by decide) (fun hc => ?_) (fun hc => ?_)
  · have hM := e_ip hc hM
    refine lv_ldc (v := -1000000001) hx hb hown (hts _ q_1_237) dX8_deal_11 ?_
    obtain rfl := e_so hM
    exact e_iret E J dX8_deal_13
  · have hM := e_in hc hM
    refine lv_iload_n hx hb dX8_deal_5 rfl (lv_at hl 1 rfl) ?_
    refine lv_bipush (v := nI 6) hx hb dX8_deal_6 (by decide) ?_
    refine lv_icmp_le (tgt := 14) hx hb dX8_deal_8 (by decide) (fun hc => ?_) (fun hc => ?_)
    · have hM := e_ip hc hM
      refine lv_iconst (v := nI 0) hx hb dX8_deal_14 (by decide) ?_
      refine lv_istore_n (lv' := [(2, .int (nI 0)), (0, .ref (e_ad G l0)), (1, .int l1)]) hx hb dX8_deal_15 rfl hl (by decide) rfl (fun ls hl => ?_)
      refine lv_iconst (v := nI 0) hx hb dX8_deal_16 (by decide) ?_
      refine lv_istore_n (lv' := [(3, .int (nI 0)), (2, .int (nI 0)), (0, .ref (e_ad G l0)), (1, .int l1)]) hx hb dX8_deal_17 rfl hl (by decide) rfl (fun ls hl => ?_)
      exact mX8_deal_L18 E 200 l0 l1 (nI 0) (nI 0) h hM J (lv_sub hl [2, 3, 1, 0] rfl)
    · have hM := e_in hc hM
      refine lv_ldc (v := -1000000001) hx hb hown (hts _ q_1_237) dX8_deal_11 ?_
      obtain rfl := e_so hM
      exact e_iret E J dX8_deal_13
set_option maxRecDepth 100000 in
set_option maxHeartbeats 4000000 in
theorem mX8_seed {l : Launch} {G : e_G} (l0 : Nat) (l1 : Int32) (h : e_H) (res : (Int32 × e_H)) (hM : fX8_seed l0 l1 h = some res) : Met l yX8_seed (e_W yX8_seed cX8_seed 3 (some FieldType.int)) (e_rm 0 0) (e_Pc G h [.ref (e_ad G l0), .int l1]) (e_Q G res.2 (some (.int res.1))) 0 0 (e_A G) := by
  refine Met.ofW (cc := cX8_seed) (maxL := 3) (ret := (some FieldType.int)) (by decide) rfl ?_
  intro p e s m args below meth c s₁ B hml hv
  obtain ⟨rfl, hS, hP⟩ := hv
  have E := e_enter (own := RX8) (ret := (some FieldType.int)) B hml rfl hS hP
  have J : e_J G s h s.heap [] := ⟨hP, va_S.rf⟩
  have hl := lv_entry ([.ref (e_ad G l0), .int l1]) (n := 3) (Nat.le_of_ble_eq_true rfl)
  rw [lg_entry_eq]
  generalize (lg_sl ([.ref (e_ad G l0), .int l1]) ++ List.replicate (3 - (lg_sl ([.ref (e_ad G l0), .int l1])).length) Slot.unset).toArray = ls at hl ⊢
  have hl : lv_has ls 3 [(0, .ref (e_ad G l0)), (1, .int l1)] := hl
  obtain ⟨hx, hb, hr, hml, hown, hts, hlocks, hES, hbs⟩ := id E
  unfold fX8_seed at hM
  obtain ⟨fs_, hk_, hM⟩ := e_bs hM
  refine lv_aload_n hx hb dX8_seed_0 rfl (lv_at hl 0 rfl) ?_
  obtain ⟨v1, hv, hM⟩ := e_bs hM
  refine e_getR (C := RX8) (T := TX8) (N := 10) E J hv rfl inX8 (by decide) q_1_199 dX8_seed_1 ?_
  rcases v1 with _ | a2
  · have hM := e_on0 hM
    refine W.eq (g2 := F0 m 4 ls [.null]) rfl ?_
    exact e_no hM
  · have hM := e_on1 hM
    refine W.eq (g2 := F0 m 4 ls [.ref (e_ad G a2)]) rfl ?_
    obtain ⟨v3, hv, hM⟩ := e_bs hM
    refine e_getI (C := RX7) (T := TX7) (N := 6) E J hv rfl inX7 (by decide) q_1_56 dX8_seed_4 ?_
    refine lv_istore_n (lv' := [(2, .int v3), (0, .ref (e_ad G l0)), (1, .int l1)]) hx hb dX8_seed_7 rfl hl (by decide) rfl (fun ls hl => ?_)
    refine lv_aload_n hx hb dX8_seed_8 rfl (lv_at hl 1 rfl) ?_
    obtain ⟨v4, hv, hM⟩ := e_bs hM
    refine e_getR (C := RX8) (T := TX8) (N := 10) E J hv rfl inX8 (by decide) q_1_199 dX8_seed_9 ?_
    rcases v4 with _ | a5
    · have hM := e_on0 hM
      refine W.eq (g2 := F0 m 12 ls [.null]) rfl ?_
      refine lv_iload_n hx hb dX8_seed_12 rfl (lv_at hl 2 rfl) ?_
      exact e_no hM
    · have hM := e_on1 hM
      refine W.eq (g2 := F0 m 12 ls [.ref (e_ad G a5)]) rfl ?_
      refine lv_iload_n hx hb dX8_seed_12 rfl (lv_at hl 2 rfl) ?_
      obtain ⟨h6, hv, hM⟩ := e_bs hM
      refine e_putv (C := RX7) (T := TX7) (N := 6) E J hv rfl rfl inX7 tyX7 tyX7_ok nmX7 (by decide) q_1_56 rfl rfl rfl rfl dX8_seed_13 (fun H locs J => ?_)
      refine lv_iload_n hx hb dX8_seed_16 rfl (lv_at hl 0 rfl) ?_
      obtain rfl := e_so hM
      exact e_iret E J dX8_seed_17
set_option maxRecDepth 100000 in
set_option maxHeartbeats 4000000 in
theorem mX6_valueAt_b19 {p : Program} {l : Launch} {e : Env} {s : State} {m : MethodId} {args : Array Value} {below : List Frame} {meth : Method} {c : Code} {G : e_G} {res : Int64} {k5 : Nat → Int32 → Int32 → Int64 → Int32 → Option Int64} {k19 : Nat → Int32 → Int32 → Int64 → Int32 → Int64 → Int32 → Option Int64} (E : e_M G p s args m meth c cX6_valueAt 9 (some FieldType.long) RX6) (h : e_H) (K5 : ∀ (l0 : Nat) (l1 : Int32) (l2 : Int32) (l3 : Int64) (l5 : Int32), k5 l0 l1 l2 l3 l5 = some res → ∀ (H : Heap) (locs : List Loc), e_J G s h H locs → ∀ (ls : Array Slot), lv_has ls 9 [(0, .ref (e_ad G l0)), (1, .int l1), (2, .int l2), (3, .long l3), (5, .int l5)] → W p l e (e_rm 2 44) s m args below meth c H locs 0 0 (MQ below (e_Q G h (some (.long res))) args s 0 0 (e_A G)) (F0 m 5 ls [])) (K19 : ∀ (l0 : Nat) (l1 : Int32) (l2 : Int32) (l3 : Int64) (l5 : Int32) (l6 : Int64) (l8 : Int32), k19 l0 l1 l2 l3 l5 l6 l8 = some res → ∀ (H : Heap) (locs : List Loc), e_J G s h H locs → ∀ (ls : Array Slot), lv_has ls 9 [(0, .ref (e_ad G l0)), (1, .int l1), (2, .int l2), (3, .long l3), (5, .int l5), (6, .long l6), (8, .int l8)] → W p l e (e_rm 2 44) s m args below meth c H locs 0 0 (MQ below (e_Q G h (some (.long res))) args s 0 0 (e_A G)) (F0 m 19 ls [])) (l0 : Nat) (l1 : Int32) (l2 : Int32) (l3 : Int64) (l5 : Int32) (l6 : Int64) (l8 : Int32) (hM : fX6_valueAt_b19 h k5 k19 l0 l1 l2 l3 l5 l6 l8 = some res) {H : Heap} {locs : List Loc} (J : e_J G s h H locs) {ls : Array Slot} (hl : lv_has ls 9 [(0, .ref (e_ad G l0)), (1, .int l1), (2, .int l2), (3, .long l3), (5, .int l5), (6, .long l6), (8, .int l8)]) : W p l e (e_rm 2 44) s m args below meth c H locs 0 0 (MQ below (e_Q G h (some (.long res))) args s 0 0 (e_A G)) (F0 m 19 ls []) := by
  obtain ⟨hx, hb, hr, hml, hown, hts, hlocks, hES, hbs⟩ := id E
  unfold fX6_valueAt_b19 at hM
  refine lv_iload hx hb dX6_valueAt_19 (lv_at hl 6 rfl) ?_
  refine lv_if_lt (tgt := 47) hx hb dX6_valueAt_21 (by decide) (fun hc => ?_) (fun hc => ?_)
  · have hM := e_ip hc hM
    refine lv_lload_n hx hb dX6_valueAt_47 rfl (lv_at hl 3 rfl) ?_
    refine lv_iload_n hx hb dX6_valueAt_48 rfl (lv_at hl 1 rfl) ?_
    refine lv_i2l hx hb dX6_valueAt_49 rfl ?_
    refine lv_lmul hx hb dX6_valueAt_50 ?_
    refine lv_lload hx hb dX6_valueAt_51 (lv_at hl 5 rfl) ?_
    refine lv_ladd hx hb dX6_valueAt_53 ?_
    refine lv_lstore_n (lv' := [(3, .long ((l3 * (l1).toInt64) + l6)), (0, .ref (e_ad G l0)), (1, .int l1), (2, .int l2), (5, .int l5), (6, .long l6), (8, .int l8)]) hx hb dX6_valueAt_54 rfl hl (by decide) rfl (fun ls hl => ?_)
    refine lv_iinc (v := (l5 + (-1 : Int32))) (lv' := [(5, .int (l5 + (-1 : Int32))), (3, .long ((l3 * (l1).toInt64) + l6)), (0, .ref (e_ad G l0)), (1, .int l1), (2, .int l2), (6, .long l6), (8, .int l8)]) hx hb dX6_valueAt_55 hl (k := 4) rfl rfl (by decide) rfl (fun ls hl => ?_)
    refine lv_goto (tgt := 5) hx hb dX6_valueAt_58 (by decide) ?_
    exact K5 l0 l1 l2 ((l3 * (l1).toInt64) + l6) (l5 + (-1 : Int32)) hM _ _ J _ (lv_sub hl [2, 3, 4, 1, 0] rfl)
  · have hM := e_in hc hM
    refine lv_lload hx hb dX6_valueAt_24 (lv_at hl 5 rfl) ?_
    refine lv_iload_n hx hb dX6_valueAt_26 rfl (lv_at hl 2 rfl) ?_
    refine lv_i2l hx hb dX6_valueAt_27 rfl ?_
    refine lv_lmul hx hb dX6_valueAt_28 ?_
    refine lv_aload_n hx hb dX6_valueAt_29 rfl (lv_at hl 0 rfl) ?_
    refine lv_iload hx hb dX6_valueAt_30 (lv_at hl 4 rfl) ?_
    refine lv_iload hx hb dX6_valueAt_32 (lv_at hl 6 rfl) ?_
    obtain ⟨v1, hv, hM⟩ := e_bs hM
    obtain ⟨fs_, hk, -⟩ := e_bs hv
    refine e_callV (ci := 6) (As := [.int l5, .int l8]) (rest := [.long (l6 * (l2).toInt64)]) (n := 2) E J hk rfl (mX6_termOf (l := l) (G := G) l0 l5 l8 h _ hv) q_2_108 q_2_110 q_p_1 q_1_4 q_2_111 (by decide +kernel) rfl ⟨Nat.le_of_ble_eq_true rfl, Nat.le_of_ble_eq_true rfl⟩ (st0 := [.int l8, .int l5, .ref (e_ad G l0), .long (l6 * (l2).toInt64)]) (st1 := [.int v1, .long (l6 * (l2).toInt64)]) rfl rfl hl.1 (Nat.le_of_ble_eq_true rfl) dX6_valueAt_34 ⟨Nat.le_refl _, Nat.le_refl _⟩ (fun H locs J => ?_)
    refine lv_i2l hx hb dX6_valueAt_37 rfl ?_
    refine lv_ladd hx hb dX6_valueAt_38 ?_
    refine lv_lstore (lv' := [(6, .long ((l6 * (l2).toInt64) + (v1).toInt64)), (0, .ref (e_ad G l0)), (1, .int l1), (2, .int l2), (3, .long l3), (5, .int l5), (8, .int l8)]) hx hb dX6_valueAt_39 hl (by decide) rfl (fun ls hl => ?_)
    refine lv_iinc (v := (l8 + (-1 : Int32))) (lv' := [(8, .int (l8 + (-1 : Int32))), (6, .long ((l6 * (l2).toInt64) + (v1).toInt64)), (0, .ref (e_ad G l0)), (1, .int l1), (2, .int l2), (3, .long l3), (5, .int l5)]) hx hb dX6_valueAt_41 hl (k := 6) rfl rfl (by decide) rfl (fun ls hl => ?_)
    refine lv_goto (tgt := 19) hx hb dX6_valueAt_44 (by decide) ?_
    exact K19 l0 l1 l2 l3 l5 ((l6 * (l2).toInt64) + (v1).toInt64) (l8 + (-1 : Int32)) hM _ _ J _ (lv_sub hl [2, 3, 4, 5, 6, 1, 0] rfl)
set_option maxRecDepth 100000 in
set_option maxHeartbeats 4000000 in
theorem mX6_valueAt_L19 {p : Program} {l : Launch} {e : Env} {s : State} {m : MethodId} {args : Array Value} {below : List Frame} {meth : Method} {c : Code} {G : e_G} {res : Int64} {k5 : Nat → Int32 → Int32 → Int64 → Int32 → Option Int64} (E : e_M G p s args m meth c cX6_valueAt 9 (some FieldType.long) RX6) (h : e_H) (K5 : ∀ (l0 : Nat) (l1 : Int32) (l2 : Int32) (l3 : Int64) (l5 : Int32), k5 l0 l1 l2 l3 l5 = some res → ∀ (H : Heap) (locs : List Loc), e_J G s h H locs → ∀ (ls : Array Slot), lv_has ls 9 [(0, .ref (e_ad G l0)), (1, .int l1), (2, .int l2), (3, .long l3), (5, .int l5)] → W p l e (e_rm 2 44) s m args below meth c H locs 0 0 (MQ below (e_Q G h (some (.long res))) args s 0 0 (e_A G)) (F0 m 5 ls [])) (n : Nat) (l0 : Nat) (l1 : Int32) (l2 : Int32) (l3 : Int64) (l5 : Int32) (l6 : Int64) (l8 : Int32) (hM : fX6_valueAt_L19 h k5 n l0 l1 l2 l3 l5 l6 l8 = some res) {H : Heap} {locs : List Loc} (J : e_J G s h H locs) {ls : Array Slot} (hl : lv_has ls 9 [(0, .ref (e_ad G l0)), (1, .int l1), (2, .int l2), (3, .long l3), (5, .int l5), (6, .long l6), (8, .int l8)]) : W p l e (e_rm 2 44) s m args below meth c H locs 0 0 (MQ below (e_Q G h (some (.long res))) args s 0 0 (e_A G)) (F0 m 19 ls []) := by
  induction n generalizing l0 l1 l2 l3 l5 l6 l8 H locs ls with
  | zero => exact e_no hM
  | succ n ih => exact mX6_valueAt_b19 (k19 := (fX6_valueAt_L19 h k5 n)) E h K5 (fun l0 l1 l2 l3 l5 l6 l8 hM H locs J ls hl => ih l0 l1 l2 l3 l5 l6 l8 hM J hl) l0 l1 l2 l3 l5 l6 l8 hM J hl
set_option maxRecDepth 100000 in
set_option maxHeartbeats 4000000 in
theorem mX6_valueAt_b5 {p : Program} {l : Launch} {e : Env} {s : State} {m : MethodId} {args : Array Value} {below : List Frame} {meth : Method} {c : Code} {G : e_G} {res : Int64} {k5 : Nat → Int32 → Int32 → Int64 → Int32 → Option Int64} (E : e_M G p s args m meth c cX6_valueAt 9 (some FieldType.long) RX6) (h : e_H) (K5 : ∀ (l0 : Nat) (l1 : Int32) (l2 : Int32) (l3 : Int64) (l5 : Int32), k5 l0 l1 l2 l3 l5 = some res → ∀ (H : Heap) (locs : List Loc), e_J G s h H locs → ∀ (ls : Array Slot), lv_has ls 9 [(0, .ref (e_ad G l0)), (1, .int l1), (2, .int l2), (3, .long l3), (5, .int l5)] → W p l e (e_rm 2 44) s m args below meth c H locs 0 0 (MQ below (e_Q G h (some (.long res))) args s 0 0 (e_A G)) (F0 m 5 ls [])) (l0 : Nat) (l1 : Int32) (l2 : Int32) (l3 : Int64) (l5 : Int32) (hM : fX6_valueAt_b5 h k5 l0 l1 l2 l3 l5 = some res) {H : Heap} {locs : List Loc} (J : e_J G s h H locs) {ls : Array Slot} (hl : lv_has ls 9 [(0, .ref (e_ad G l0)), (1, .int l1), (2, .int l2), (3, .long l3), (5, .int l5)]) : W p l e (e_rm 2 44) s m args below meth c H locs 0 0 (MQ below (e_Q G h (some (.long res))) args s 0 0 (e_A G)) (F0 m 5 ls []) := by
  obtain ⟨hx, hb, hr, hml, hown, hts, hlocks, hES, hbs⟩ := id E
  unfold fX6_valueAt_b5 at hM
  refine lv_iload hx hb dX6_valueAt_5 (lv_at hl 4 rfl) ?_
  refine lv_if_lt (tgt := 61) hx hb dX6_valueAt_7 (by decide) (fun hc => ?_) (fun hc => ?_)
  · have hM := e_ip hc hM
    refine lv_lload_n hx hb dX6_valueAt_61 rfl (lv_at hl 3 rfl) ?_
    obtain rfl := e_so hM
    exact e_lret E J dX6_valueAt_62
  · have hM := e_in hc hM
    refine lv_lconst (v := 0) hx hb dX6_valueAt_10 (by decide) ?_
    refine lv_lstore (lv' := [(6, .long (0 : Int64)), (0, .ref (e_ad G l0)), (1, .int l1), (2, .int l2), (3, .long l3), (5, .int l5)]) hx hb dX6_valueAt_11 hl (by decide) rfl (fun ls hl => ?_)
    refine lv_iconst (v := nI 4) hx hb dX6_valueAt_13 (by decide) ?_
    refine lv_iload hx hb dX6_valueAt_14 (lv_at hl 5 rfl) ?_
    refine lv_isub hx hb dX6_valueAt_16 ?_
    refine lv_istore (lv' := [(8, .int ((nI 4) - l5)), (6, .long (0 : Int64)), (0, .ref (e_ad G l0)), (1, .int l1), (2, .int l2), (3, .long l3), (5, .int l5)]) hx hb dX6_valueAt_17 hl (by decide) rfl (fun ls hl => ?_)
    exact mX6_valueAt_L19 E h K5 200 l0 l1 l2 l3 l5 (0 : Int64) ((nI 4) - l5) hM J (lv_sub hl [2, 3, 4, 5, 6, 1, 0] rfl)
set_option maxRecDepth 100000 in
set_option maxHeartbeats 4000000 in
theorem mX6_valueAt_L5 {p : Program} {l : Launch} {e : Env} {s : State} {m : MethodId} {args : Array Value} {below : List Frame} {meth : Method} {c : Code} {G : e_G} {res : Int64} (E : e_M G p s args m meth c cX6_valueAt 9 (some FieldType.long) RX6) (h : e_H) (n : Nat) (l0 : Nat) (l1 : Int32) (l2 : Int32) (l3 : Int64) (l5 : Int32) (hM : fX6_valueAt_L5 h n l0 l1 l2 l3 l5 = some res) {H : Heap} {locs : List Loc} (J : e_J G s h H locs) {ls : Array Slot} (hl : lv_has ls 9 [(0, .ref (e_ad G l0)), (1, .int l1), (2, .int l2), (3, .long l3), (5, .int l5)]) : W p l e (e_rm 2 44) s m args below meth c H locs 0 0 (MQ below (e_Q G h (some (.long res))) args s 0 0 (e_A G)) (F0 m 5 ls []) := by
  induction n generalizing l0 l1 l2 l3 l5 H locs ls with
  | zero => exact e_no hM
  | succ n ih => exact mX6_valueAt_b5 (k5 := (fX6_valueAt_L5 h n)) E h  (fun l0 l1 l2 l3 l5 hM H locs J ls hl => ih l0 l1 l2 l3 l5 hM J hl) l0 l1 l2 l3 l5 hM J hl
set_option maxRecDepth 100000 in
set_option maxHeartbeats 4000000 in
theorem mX6_valueAt {l : Launch} {G : e_G} (l0 : Nat) (l1 : Int32) (l2 : Int32) (h : e_H) (res : Int64) (hM : fX6_valueAt l0 l1 l2 h = some res) : Met l yX6_valueAt (e_W yX6_valueAt cX6_valueAt 9 (some FieldType.long)) (e_rm 2 44) (e_Pc G h [.ref (e_ad G l0), .int l1, .int l2]) (e_Q G h (some (.long res))) 0 0 (e_A G) := by
  refine Met.ofW (cc := cX6_valueAt) (maxL := 9) (ret := (some FieldType.long)) (by decide) rfl ?_
  intro p e s m args below meth c s₁ B hml hv
  obtain ⟨rfl, hS, hP⟩ := hv
  have E := e_enter (own := RX6) (ret := (some FieldType.long)) B hml rfl hS hP
  have J : e_J G s h s.heap [] := ⟨hP, va_S.rf⟩
  have hl := lv_entry ([.ref (e_ad G l0), .int l1, .int l2]) (n := 9) (Nat.le_of_ble_eq_true rfl)
  rw [lg_entry_eq]
  generalize (lg_sl ([.ref (e_ad G l0), .int l1, .int l2]) ++ List.replicate (9 - (lg_sl ([.ref (e_ad G l0), .int l1, .int l2])).length) Slot.unset).toArray = ls at hl ⊢
  have hl : lv_has ls 9 [(0, .ref (e_ad G l0)), (1, .int l1), (2, .int l2)] := hl
  obtain ⟨hx, hb, hr, hml, hown, hts, hlocks, hES, hbs⟩ := id E
  unfold fX6_valueAt at hM
  obtain ⟨fs_, hk_, hM⟩ := e_bs hM
  refine lv_lconst (v := 0) hx hb dX6_valueAt_0 (by decide) ?_
  refine lv_lstore_n (lv' := [(3, .long (0 : Int64)), (0, .ref (e_ad G l0)), (1, .int l1), (2, .int l2)]) hx hb dX6_valueAt_1 rfl hl (by decide) rfl (fun ls hl => ?_)
  refine lv_iconst (v := nI 4) hx hb dX6_valueAt_2 (by decide) ?_
  refine lv_istore (lv' := [(5, .int (nI 4)), (3, .long (0 : Int64)), (0, .ref (e_ad G l0)), (1, .int l1), (2, .int l2)]) hx hb dX6_valueAt_3 hl (by decide) rfl (fun ls hl => ?_)
  exact mX6_valueAt_L5 E h 200 l0 l1 l2 (0 : Int64) (nI 4) hM J (lv_sub hl [2, 3, 4, 1, 0] rfl)
set_option maxRecDepth 100000 in
set_option maxHeartbeats 4000000 in
theorem mX8_value {l : Launch} {G : e_G} (l0 : Nat) (l1 : Int32) (l2 : Int32) (l3 : Int32) (h : e_H) (res : (Int64 × e_H)) (hM : fX8_value l0 l1 l2 l3 h = some res) : Met l yX8_value (e_W yX8_value cX8_value 5 (some FieldType.long)) (e_rm 5 124) (e_Pc G h [.ref (e_ad G l0), .int l1, .int l2, .int l3]) (e_Q G res.2 (some (.long res.1))) 0 0 (e_A G) := by
  refine Met.ofW (cc := cX8_value) (maxL := 5) (ret := (some FieldType.long)) (by decide) rfl ?_
  intro p e s m args below meth c s₁ B hml hv
  obtain ⟨rfl, hS, hP⟩ := hv
  have E := e_enter (own := RX8) (ret := (some FieldType.long)) B hml rfl hS hP
  have J : e_J G s h s.heap [] := ⟨hP, va_S.rf⟩
  have hl := lv_entry ([.ref (e_ad G l0), .int l1, .int l2, .int l3]) (n := 5) (Nat.le_of_ble_eq_true rfl)
  rw [lg_entry_eq]
  generalize (lg_sl ([.ref (e_ad G l0), .int l1, .int l2, .int l3]) ++ List.replicate (5 - (lg_sl ([.ref (e_ad G l0), .int l1, .int l2, .int l3])).length) Slot.unset).toArray = ls at hl ⊢
  have hl : lv_has ls 5 [(0, .ref (e_ad G l0)), (1, .int l1), (2, .int l2), (3, .int l3)] := hl
  obtain ⟨hx, hb, hr, hml, hown, hts, hlocks, hES, hbs⟩ := id E
  unfold fX8_value at hM
  obtain ⟨fs_, hk_, hM⟩ := e_bs hM
  refine lv_aload_n hx hb dX8_value_0 rfl (lv_at hl 0 rfl) ?_
  obtain ⟨v1, hv, hM⟩ := e_bs hM
  refine e_getR (C := RX8) (T := TX8) (N := 10) E J hv rfl inX8 (by decide) q_1_199 dX8_value_1 ?_
  rcases v1 with _ | a2
  · have hM := e_on0 hM
    refine W.eq (g2 := F0 m 4 ls [.null]) rfl ?_
    refine lv_iload_n hx hb dX8_value_4 rfl (lv_at hl 1 rfl) ?_
    exact e_no hM
  · have hM := e_on1 hM
    refine W.eq (g2 := F0 m 4 ls [.ref (e_ad G a2)]) rfl ?_
    refine lv_iload_n hx hb dX8_value_4 rfl (lv_at hl 1 rfl) ?_
    obtain ⟨v3, hv, hM⟩ := e_bs hM
    obtain ⟨fs_, hk, -⟩ := e_bs hv
    refine e_callV (ci := 7) (As := [.int l1]) (rest := []) (n := 1) E J hk rfl (mX7_curveOf (l := l) (G := G) a2 l1 h _ hv) q_2_14 q_2_15 q_2_16 q_1_2 q_2_17 (by decide +kernel) rfl ⟨Nat.le_of_ble_eq_true rfl, Nat.le_of_ble_eq_true rfl⟩ (st0 := [.int l1, .ref (e_ad G a2)]) (st1 := [e_r G v3]) rfl rfl hl.1 (Nat.le_of_ble_eq_true rfl) dX8_value_5 ⟨Nat.le_refl _, Nat.le_refl _⟩ (fun H locs J => ?_)
    rcases v3 with _ | a4
    · have hM := e_on0 hM
      refine W.eq (g2 := F0 m 8 ls [.null]) rfl ?_
      refine lv_astoreN (lv' := [(4, .null), (0, .ref (e_ad G l0)), (1, .int l1), (2, .int l2), (3, .int l3)]) hx hb dX8_value_8 hl (by decide) rfl (fun ls hl => ?_)
      refine lv_aloadN hx hb dX8_value_10 (lv_at hl 0 rfl) ?_
      refine lv_ifnullN (tgt := 39) hx hb dX8_value_12 (by decide) ?_
      refine lv_ldc2 (v := -1000000001) hx hb hown (hts _ q_2_152) dX8_value_39 ?_
      obtain rfl := e_so hM
      exact e_lret E J dX8_value_42
    · have hM := e_on1 hM
      refine W.eq (g2 := F0 m 8 ls [.ref (e_ad G a4)]) rfl ?_
      refine lv_astore (lv' := [(4, .ref (e_ad G a4)), (0, .ref (e_ad G l0)), (1, .int l1), (2, .int l2), (3, .int l3)]) hx hb dX8_value_8 hl (by decide) rfl (fun ls hl => ?_)
      refine lv_aload hx hb dX8_value_10 (lv_at hl 0 rfl) ?_
      refine lv_ifnull hx hb dX8_value_12 ?_
      refine lv_iload_n hx hb dX8_value_15 rfl (lv_at hl 3 rfl) ?_
      refine lv_bipush (v := -9) hx hb dX8_value_16 (by decide) ?_
      refine lv_icmp_lt (tgt := 39) hx hb dX8_value_18 (by decide) (fun hc => ?_) (fun hc => ?_)
      · have hM := e_ip hc hM
        refine lv_ldc2 (v := -1000000001) hx hb hown (hts _ q_2_152) dX8_value_39 ?_
        obtain rfl := e_so hM
        exact e_lret E J dX8_value_42
      · have hM := e_in hc hM
        refine lv_iload_n hx hb dX8_value_21 rfl (lv_at hl 3 rfl) ?_
        refine lv_bipush (v := nI 9) hx hb dX8_value_22 (by decide) ?_
        refine lv_icmp_gt (tgt := 39) hx hb dX8_value_24 (by decide) (fun hc => ?_) (fun hc => ?_)
        · have hM := e_ip hc hM
          refine lv_ldc2 (v := -1000000001) hx hb hown (hts _ q_2_152) dX8_value_39 ?_
          obtain rfl := e_so hM
          exact e_lret E J dX8_value_42
        · have hM := e_in hc hM
          refine lv_iload_n hx hb dX8_value_27 rfl (lv_at hl 4 rfl) ?_
          refine lv_bipush (v := -9) hx hb dX8_value_28 (by decide) ?_
          refine lv_icmp_lt (tgt := 39) hx hb dX8_value_30 (by decide) (fun hc => ?_) (fun hc => ?_)
          · have hM := e_ip hc hM
            refine lv_ldc2 (v := -1000000001) hx hb hown (hts _ q_2_152) dX8_value_39 ?_
            obtain rfl := e_so hM
            exact e_lret E J dX8_value_42
          · have hM := e_in hc hM
            refine lv_iload_n hx hb dX8_value_33 rfl (lv_at hl 4 rfl) ?_
            refine lv_bipush (v := nI 9) hx hb dX8_value_34 (by decide) ?_
            refine lv_icmp_le (tgt := 43) hx hb dX8_value_36 (by decide) (fun hc => ?_) (fun hc => ?_)
            · have hM := e_ip hc hM
              refine lv_aload_n hx hb dX8_value_43 rfl (lv_at hl 1 rfl) ?_
              obtain ⟨v5, hv, hM⟩ := e_bs hM
              refine e_getR (C := RX8) (T := TX8) (N := 10) E J hv rfl inX8 (by decide) q_1_201 dX8_value_44 ?_
              rcases v5 with _ | a6
              · have hM := e_on0 hM
                refine W.eq (g2 := F0 m 47 ls [.null]) rfl ?_
                refine lv_aload hx hb dX8_value_47 (lv_at hl 0 rfl) ?_
                exact e_no hM
              · have hM := e_on1 hM
                refine W.eq (g2 := F0 m 47 ls [.ref (e_ad G a6)]) rfl ?_
                refine lv_aload hx hb dX8_value_47 (lv_at hl 0 rfl) ?_
                obtain ⟨h7, hv, hM⟩ := e_bs hM
                obtain ⟨fs_, hk, -⟩ := e_bs hv
                refine e_callV (ci := 6) (As := [.ref (e_ad G a4)]) (rest := []) (n := 1) E J hk rfl (mX6_look (l := l) (G := G) a6 a4 h _ hv) q_2_94 q_2_95 q_2_96 q_1_4 q_2_97 (by decide +kernel) rfl ⟨Nat.le_of_ble_eq_true rfl, Nat.le_of_ble_eq_true rfl⟩ (st0 := [.ref (e_ad G a4), .ref (e_ad G a6)]) (st1 := []) rfl rfl hl.1 (Nat.le_of_ble_eq_true rfl) dX8_value_49 ⟨Nat.le_refl _, Nat.le_refl _⟩ (fun H locs J => ?_)
                refine lv_aload_n hx hb dX8_value_52 rfl (lv_at hl 1 rfl) ?_
                obtain ⟨v8, hv, hM⟩ := e_bs hM
                refine e_getR (C := RX8) (T := TX8) (N := 10) E J hv rfl inX8 (by decide) q_1_201 dX8_value_53 ?_
                rcases v8 with _ | a9
                · have hM := e_on0 hM
                  refine W.eq (g2 := F0 m 56 ls [.null]) rfl ?_
                  refine lv_iload_n hx hb dX8_value_56 rfl (lv_at hl 3 rfl) ?_
                  refine lv_iload_n hx hb dX8_value_57 rfl (lv_at hl 4 rfl) ?_
                  exact e_no hM
                · have hM := e_on1 hM
                  refine W.eq (g2 := F0 m 56 ls [.ref (e_ad G a9)]) rfl ?_
                  refine lv_iload_n hx hb dX8_value_56 rfl (lv_at hl 3 rfl) ?_
                  refine lv_iload_n hx hb dX8_value_57 rfl (lv_at hl 4 rfl) ?_
                  obtain ⟨v10, hv, hM⟩ := e_bs hM
                  obtain ⟨fs_, hk, -⟩ := e_bs hv
                  refine e_callV (ci := 6) (As := [.int l2, .int l3]) (rest := []) (n := 2) E J hk rfl (mX6_valueAt (l := l) (G := G) a9 l2 l3 h7 _ hv) q_2_153 q_2_154 q_2_155 q_1_4 q_2_156 (by decide +kernel) rfl ⟨Nat.le_of_ble_eq_true rfl, Nat.le_of_ble_eq_true rfl⟩ (st0 := [.int l3, .int l2, .ref (e_ad G a9)]) (st1 := [.long v10]) rfl rfl hl.1 (Nat.le_of_ble_eq_true rfl) dX8_value_58 ⟨Nat.le_refl _, Nat.le_refl _⟩ (fun H locs J => ?_)
                  obtain rfl := e_so hM
                  exact e_lret E J dX8_value_61
            · have hM := e_in hc hM
              refine lv_ldc2 (v := -1000000001) hx hb hown (hts _ q_2_152) dX8_value_39 ?_
              obtain rfl := e_so hM
              exact e_lret E J dX8_value_42
set_option maxRecDepth 100000 in
set_option maxHeartbeats 4000000 in
theorem mJ7_fill_d0a16_b6 {p : Program} {l : Launch} {e : Env} {s : State} {m : MethodId} {args : Array Value} {below : List Frame} {meth : Method} {c : Code} {G : e_G} {res : e_H} {k6 : Nat → Int64 → Int32 → Int32 → e_H → Option e_H} (E : e_M G p s args m meth c cJ7_fill_d0a16 5 none RJ7) (K6 : ∀ (l0 : Nat) (l1 : Int64) (l3 : Int32) (l4 : Int32) (h : e_H), k6 l0 l1 l3 l4 h = some res → ∀ (H : Heap) (locs : List Loc), e_J G s h H locs → ∀ (ls : Array Slot), lv_has ls 5 [(0, .ref (e_ad G l0)), (1, .long l1), (3, .int l3), (4, .int l4)] → W p l e (e_rm 0 0) s m args below meth c H locs 0 0 (MQ below (e_Q G res (none)) args s 0 0 (e_A G)) (F0 m 6 ls [])) (l0 : Nat) (l1 : Int64) (l3 : Int32) (l4 : Int32) (h : e_H) (hM : fJ7_fill_d0a16_b6 k6 l0 l1 l3 l4 h = some res) {H : Heap} {locs : List Loc} (J : e_J G s h H locs) {ls : Array Slot} (hl : lv_has ls 5 [(0, .ref (e_ad G l0)), (1, .long l1), (3, .int l3), (4, .int l4)]) : W p l e (e_rm 0 0) s m args below meth c H locs 0 0 (MQ below (e_Q G res (none)) args s 0 0 (e_A G)) (F0 m 6 ls []) := by
  obtain ⟨hx, hb, hr, hml, hown, hts, hlocks, hES, hbs⟩ := id E
  unfold fJ7_fill_d0a16_b6 at hM
  refine lv_iload_n hx hb dJ7_fill_d0a16_6 rfl (lv_at hl 2 rfl) ?_
  refine lv_iload hx hb dJ7_fill_d0a16_7 (lv_at hl 3 rfl) ?_
  refine lv_icmp_ge (tgt := 22) hx hb dJ7_fill_d0a16_9 (by decide) (fun hc => ?_) (fun hc => ?_)
  · have hM := e_ip hc hM
    obtain rfl := e_so hM
    exact e_vret E J dJ7_fill_d0a16_22
  · have hM := e_in hc hM
    refine lv_aload_n hx hb dJ7_fill_d0a16_12 rfl (lv_at hl 0 rfl) ?_
    refine lv_iload_n hx hb dJ7_fill_d0a16_13 rfl (lv_at hl 2 rfl) ?_
    refine lv_lload_n hx hb dJ7_fill_d0a16_14 rfl (lv_at hl 1 rfl) ?_
    obtain ⟨h1, hv, hM⟩ := e_bs hM
    refine e_last E J hv dJ7_fill_d0a16_15 (fun H locs J => ?_)
    refine lv_iinc (v := (l3 + (nI 1))) (lv' := [(3, .int (l3 + (nI 1))), (0, .ref (e_ad G l0)), (1, .long l1), (4, .int l4)]) hx hb dJ7_fill_d0a16_16 hl (k := 2) rfl rfl (by decide) rfl (fun ls hl => ?_)
    refine lv_goto (tgt := 6) hx hb dJ7_fill_d0a16_19 (by decide) ?_
    exact K6 l0 l1 (l3 + (nI 1)) l4 h1 hM _ _ J _ (lv_sub hl [1, 2, 0, 3] rfl)
set_option maxRecDepth 100000 in
set_option maxHeartbeats 4000000 in
theorem mJ7_fill_d0a16_L6 {p : Program} {l : Launch} {e : Env} {s : State} {m : MethodId} {args : Array Value} {below : List Frame} {meth : Method} {c : Code} {G : e_G} {res : e_H} (E : e_M G p s args m meth c cJ7_fill_d0a16 5 none RJ7) (n : Nat) (l0 : Nat) (l1 : Int64) (l3 : Int32) (l4 : Int32) (h : e_H) (hM : fJ7_fill_d0a16_L6 n l0 l1 l3 l4 h = some res) {H : Heap} {locs : List Loc} (J : e_J G s h H locs) {ls : Array Slot} (hl : lv_has ls 5 [(0, .ref (e_ad G l0)), (1, .long l1), (3, .int l3), (4, .int l4)]) : W p l e (e_rm 0 0) s m args below meth c H locs 0 0 (MQ below (e_Q G res (none)) args s 0 0 (e_A G)) (F0 m 6 ls []) := by
  induction n generalizing l0 l1 l3 l4 h H locs ls with
  | zero => exact e_no hM
  | succ n ih => exact mJ7_fill_d0a16_b6 (k6 := (fJ7_fill_d0a16_L6 n)) E   (fun l0 l1 l3 l4 h hM H locs J ls hl => ih l0 l1 l3 l4 h hM J hl) l0 l1 l3 l4 h hM J hl
set_option maxRecDepth 100000 in
set_option maxHeartbeats 4000000 in
theorem mJ7_fill_d0a16 {l : Launch} {G : e_G} (l0 : Nat) (l1 : Int64) (h : e_H) (res : e_H) (hM : fJ7_fill_d0a16 l0 l1 h = some res) : Met l yJ7_fill_d0a16 (e_W yJ7_fill_d0a16 cJ7_fill_d0a16 5 none) (e_rm 0 0) (e_Pc G h [.ref (e_ad G l0), .long l1]) (e_Q G res (none)) 0 0 (e_A G) := by
  refine Met.ofW (cc := cJ7_fill_d0a16) (maxL := 5) (ret := none) (by decide) rfl ?_
  intro p e s m args below meth c s₁ B hml hv
  obtain ⟨rfl, hS, hP⟩ := hv
  have E := e_enter (own := RJ7) (ret := none) B hml rfl hS hP
  have J : e_J G s h s.heap [] := ⟨hP, va_S.rf⟩
  have hl := lv_entry ([.ref (e_ad G l0), .long l1]) (n := 5) (Nat.le_of_ble_eq_true rfl)
  rw [lg_entry_eq]
  generalize (lg_sl ([.ref (e_ad G l0), .long l1]) ++ List.replicate (5 - (lg_sl ([.ref (e_ad G l0), .long l1])).length) Slot.unset).toArray = ls at hl ⊢
  have hl : lv_has ls 5 [(0, .ref (e_ad G l0)), (1, .long l1)] := hl
  obtain ⟨hx, hb, hr, hml, hown, hts, hlocks, hES, hbs⟩ := id E
  unfold fJ7_fill_d0a16 at hM
  refine lv_iconst (v := nI 0) hx hb dJ7_fill_d0a16_0 (by decide) ?_
  refine lv_istore_n (lv' := [(3, .int (nI 0)), (0, .ref (e_ad G l0)), (1, .long l1)]) hx hb dJ7_fill_d0a16_1 rfl hl (by decide) rfl (fun ls hl => ?_)
  refine lv_aload_n hx hb dJ7_fill_d0a16_2 rfl (lv_at hl 1 rfl) ?_
  obtain ⟨v1, hv, hM⟩ := e_bs hM
  refine e_alen E J hv rfl rfl dJ7_fill_d0a16_3 ?_
  refine lv_istore (lv' := [(4, .int v1), (3, .int (nI 0)), (0, .ref (e_ad G l0)), (1, .long l1)]) hx hb dJ7_fill_d0a16_4 hl (by decide) rfl (fun ls hl => ?_)
  exact mJ7_fill_d0a16_L6 E 200 l0 l1 (nI 0) v1 h hM J (lv_sub hl [2, 3, 1, 0] rfl)
set_option maxRecDepth 100000 in
set_option maxHeartbeats 4000000 in
theorem mX3_clear {l : Launch} {G : e_G} (l0 : Nat) (h : e_H) (res : e_H) (hM : fX3_clear l0 h = some res) : Met l yX3_clear (e_W yX3_clear cX3_clear 1 none) (e_rm 1 24) (e_Pc G h [.ref (e_ad G l0)]) (e_Q G res (none)) 0 0 (e_A G) := by
  refine Met.ofW (cc := cX3_clear) (maxL := 1) (ret := none) (by decide) rfl ?_
  intro p e s m args below meth c s₁ B hml hv
  obtain ⟨rfl, hS, hP⟩ := hv
  have E := e_enter (own := RX3) (ret := none) B hml rfl hS hP
  have J : e_J G s h s.heap [] := ⟨hP, va_S.rf⟩
  have hl := lv_entry ([.ref (e_ad G l0)]) (n := 1) (Nat.le_of_ble_eq_true rfl)
  rw [lg_entry_eq]
  generalize (lg_sl ([.ref (e_ad G l0)]) ++ List.replicate (1 - (lg_sl ([.ref (e_ad G l0)])).length) Slot.unset).toArray = ls at hl ⊢
  have hl : lv_has ls 1 [(0, .ref (e_ad G l0))] := hl
  obtain ⟨hx, hb, hr, hml, hown, hts, hlocks, hES, hbs⟩ := id E
  unfold fX3_clear at hM
  obtain ⟨fs_, hk_, hM⟩ := e_bs hM
  refine lv_aload_n hx hb dX3_clear_0 rfl (lv_at hl 0 rfl) ?_
  obtain ⟨v1, hv, hM⟩ := e_bs hM
  refine e_getR (C := RX3) (T := TX3) (N := 1) E J hv rfl inX3 (by decide) q_1_86 dX3_clear_1 ?_
  rcases v1 with _ | a2
  · have hM := e_on0 hM
    refine W.eq (g2 := F0 m 4 ls [.null]) rfl ?_
    refine lv_lconst (v := 0) hx hb dX3_clear_4 (by decide) ?_
    exact e_no hM
  · have hM := e_on1 hM
    refine W.eq (g2 := F0 m 4 ls [.ref (e_ad G a2)]) rfl ?_
    refine lv_lconst (v := 0) hx hb dX3_clear_4 (by decide) ?_
    obtain ⟨h3, hv, hM⟩ := e_bs hM
    refine e_callS (As := [.ref (e_ad G a2), .long (0 : Int64)]) (rest := []) (n := 2) E J (mJ7_fill_d0a16 (l := l) (G := G) a2 (0 : Int64) h _ hv) q_2_173 q_2_174 q_1_10 q_2_175 (by decide +kernel) rfl ⟨Nat.le_of_ble_eq_true rfl, Nat.le_of_ble_eq_true rfl⟩ (st0 := [.long (0 : Int64), .ref (e_ad G a2)]) (st1 := []) rfl rfl hl.1 (Nat.le_of_ble_eq_true rfl) dX3_clear_5 ⟨Nat.le_refl _, Nat.le_refl _⟩ (fun H locs J => ?_)
    obtain rfl := e_so hM
    exact e_vret E J dX3_clear_8
set_option maxRecDepth 100000 in
set_option maxHeartbeats 4000000 in
theorem mX3_add_b18 {p : Program} {l : Launch} {e : Env} {s : State} {m : MethodId} {args : Array Value} {below : List Frame} {meth : Method} {c : Code} {G : e_G} {res : e_H} (E : e_M G p s args m meth c cX3_add 6 none RX3) (l0 : Nat) (l3 : Int64) (t0 : Int32) (h : e_H) (hM : fX3_add_b18 l0 l3 t0 h = some res) {H : Heap} {locs : List Loc} (J : e_J G s h H locs) {ls : Array Slot} (hl : lv_has ls 6 [(0, .ref (e_ad G l0)), (3, .long l3)]) : W p l e (e_rm 0 0) s m args below meth c H locs 0 0 (MQ below (e_Q G res (none)) args s 0 0 (e_A G)) (F0 m 18 ls [.int t0]) := by
  obtain ⟨hx, hb, hr, hml, hown, hts, hlocks, hES, hbs⟩ := id E
  unfold fX3_add_b18 at hM
  refine lv_istore (lv' := [(5, .int t0), (0, .ref (e_ad G l0)), (3, .long l3)]) hx hb dX3_add_18 hl (by decide) rfl (fun ls hl => ?_)
  refine lv_iload hx hb dX3_add_20 (lv_at hl 0 rfl) ?_
  refine lv_if_lt (tgt := 46) hx hb dX3_add_22 (by decide) (fun hc => ?_) (fun hc => ?_)
  · have hM := e_ip hc hM
    obtain rfl := e_so hM
    exact e_vret E J dX3_add_46
  · have hM := e_in hc hM
    refine lv_iload hx hb dX3_add_25 (lv_at hl 0 rfl) ?_
    refine lv_aload_n hx hb dX3_add_27 rfl (lv_at hl 1 rfl) ?_
    obtain ⟨v1, hv, hM⟩ := e_bs hM
    refine e_getR (C := RX3) (T := TX3) (N := 1) E J hv rfl inX3 (by decide) q_1_86 dX3_add_28 ?_
    rcases v1 with _ | a2
    · have hM := e_on0 hM
      refine W.eq (g2 := F0 m 31 ls [.null, .int t0]) rfl ?_
      exact e_no hM
    · have hM := e_on1 hM
      refine W.eq (g2 := F0 m 31 ls [.ref (e_ad G a2), .int t0]) rfl ?_
      obtain ⟨v3, hv, hM⟩ := e_bs hM
      refine e_alen E J hv rfl rfl dX3_add_31 ?_
      refine lv_icmp_ge (tgt := 46) hx hb dX3_add_32 (by decide) (fun hc => ?_) (fun hc => ?_)
      · have hM := e_ip hc hM
        obtain rfl := e_so hM
        exact e_vret E J dX3_add_46
      · have hM := e_in hc hM
        refine lv_aload_n hx hb dX3_add_35 rfl (lv_at hl 1 rfl) ?_
        obtain ⟨v4, hv, hM⟩ := e_bs hM
        refine e_getR (C := RX3) (T := TX3) (N := 1) E J hv rfl inX3 (by decide) q_1_86 dX3_add_36 ?_
        rcases v4 with _ | a5
        · have hM := e_on0 hM
          refine W.eq (g2 := F0 m 39 ls [.null]) rfl ?_
          refine lv_iload hx hb dX3_add_39 (lv_at hl 0 rfl) ?_
          refine lv_dup2_11 hx hb dX3_add_41 rfl rfl ?_
          exact e_no hM
        · have hM := e_on1 hM
          refine W.eq (g2 := F0 m 39 ls [.ref (e_ad G a5)]) rfl ?_
          refine lv_iload hx hb dX3_add_39 (lv_at hl 0 rfl) ?_
          refine lv_dup2_11 hx hb dX3_add_41 rfl rfl ?_
          obtain ⟨v7, hv, hM⟩ := e_bs hM
          refine e_lald E J hv dX3_add_42 ?_
          refine lv_lload_n hx hb dX3_add_43 rfl (lv_at hl 2 rfl) ?_
          refine lv_ladd hx hb dX3_add_44 ?_
          obtain ⟨h8, hv, hM⟩ := e_bs hM
          refine e_last E J hv dX3_add_45 (fun H locs J => ?_)
          obtain rfl := e_so hM
          exact e_vret E J dX3_add_46
set_option maxRecDepth 100000 in
set_option maxHeartbeats 4000000 in
theorem mX3_add_b9 {p : Program} {l : Launch} {e : Env} {s : State} {m : MethodId} {args : Array Value} {below : List Frame} {meth : Method} {c : Code} {G : e_G} {res : e_H} (E : e_M G p s args m meth c cX3_add 6 none RX3) (l0 : Nat) (l3 : Int64) (h : e_H) (hM : fX3_add_b9 l0 l3 h = some res) {H : Heap} {locs : List Loc} (J : e_J G s h H locs) {ls : Array Slot} (hl : lv_has ls 6 [(0, .ref (e_ad G l0)), (3, .long l3)]) : W p l e (e_rm 0 0) s m args below meth c H locs 0 0 (MQ below (e_Q G res (none)) args s 0 0 (e_A G)) (F0 m 9 ls []) := by
  obtain ⟨hx, hb, hr, hml, hown, hts, hlocks, hES, hbs⟩ := id E
  unfold fX3_add_b9 at hM
  refine lv_iconst (v := -1) hx hb dX3_add_9 (by decide) ?_
  refine lv_goto (tgt := 18) hx hb dX3_add_10 (by decide) ?_
  exact mX3_add_b18 E l0 l3 (-1 : Int32) h hM J (lv_sub hl [0, 1] rfl)
set_option maxRecDepth 100000 in
set_option maxHeartbeats 4000000 in
theorem mX3_add {l : Launch} {G : e_G} (l0 : Nat) (l1 : Int32) (l2 : Int32) (l3 : Int64) (h : e_H) (res : e_H) (hM : fX3_add l0 l1 l2 l3 h = some res) : Met l yX3_add (e_W yX3_add cX3_add 6 none) (e_rm 0 0) (e_Pc G h [.ref (e_ad G l0), .int l1, .int l2, .long l3]) (e_Q G res (none)) 0 0 (e_A G) := by
  refine Met.ofW (cc := cX3_add) (maxL := 6) (ret := none) (by decide) rfl ?_
  intro p e s m args below meth c s₁ B hml hv
  obtain ⟨rfl, hS, hP⟩ := hv
  have E := e_enter (own := RX3) (ret := none) B hml rfl hS hP
  have J : e_J G s h s.heap [] := ⟨hP, va_S.rf⟩
  have hl := lv_entry ([.ref (e_ad G l0), .int l1, .int l2, .long l3]) (n := 6) (Nat.le_of_ble_eq_true rfl)
  rw [lg_entry_eq]
  generalize (lg_sl ([.ref (e_ad G l0), .int l1, .int l2, .long l3]) ++ List.replicate (6 - (lg_sl ([.ref (e_ad G l0), .int l1, .int l2, .long l3])).length) Slot.unset).toArray = ls at hl ⊢
  have hl : lv_has ls 6 [(0, .ref (e_ad G l0)), (1, .int l1), (2, .int l2), (3, .long l3)] := hl
  obtain ⟨hx, hb, hr, hml, hown, hts, hlocks, hES, hbs⟩ := id E
  unfold fX3_add at hM
  obtain ⟨fs_, hk_, hM⟩ := e_bs hM
  refine lv_iload_n hx hb dX3_add_0 rfl (lv_at hl 2 rfl) ?_
  refine lv_if_lt (tgt := 9) hx hb dX3_add_1 (by decide) (fun hc => ?_) (fun hc => ?_)
  · have hM := e_ip hc hM
    exact mX3_add_b9 E l0 l3 h hM J (lv_sub hl [0, 3] rfl)
  · have hM := e_in hc hM
    refine lv_iload_n hx hb dX3_add_4 rfl (lv_at hl 2 rfl) ?_
    refine lv_iconst (v := nI 4) hx hb dX3_add_5 (by decide) ?_
    refine lv_icmp_le (tgt := 13) hx hb dX3_add_6 (by decide) (fun hc => ?_) (fun hc => ?_)
    · have hM := e_ip hc hM
      refine lv_iload_n hx hb dX3_add_13 rfl (lv_at hl 1 rfl) ?_
      refine lv_iconst (v := nI 5) hx hb dX3_add_14 (by decide) ?_
      refine lv_imul hx hb dX3_add_15 ?_
      refine lv_iload_n hx hb dX3_add_16 rfl (lv_at hl 2 rfl) ?_
      refine lv_iadd hx hb dX3_add_17 ?_
      exact mX3_add_b18 E l0 l3 ((l1 * (nI 5)) + l2) h hM J (lv_sub hl [0, 3] rfl)
    · have hM := e_in hc hM
      exact mX3_add_b9 E l0 l3 h hM J (lv_sub hl [0, 3] rfl)
set_option maxRecDepth 100000 in
set_option maxHeartbeats 4000000 in
theorem mX3_number_b18 {p : Program} {l : Launch} {e : Env} {s : State} {m : MethodId} {args : Array Value} {below : List Frame} {meth : Method} {c : Code} {G : e_G} {res : Int64} (E : e_M G p s args m meth c cX3_number 4 (some FieldType.long) RX3) (h : e_H) (l0 : Nat) (t0 : Int32) (hM : fX3_number_b18 h l0 t0 = some res) {H : Heap} {locs : List Loc} (J : e_J G s h H locs) {ls : Array Slot} (hl : lv_has ls 4 [(0, .ref (e_ad G l0))]) : W p l e (e_rm 0 0) s m args below meth c H locs 0 0 (MQ below (e_Q G h (some (.long res))) args s 0 0 (e_A G)) (F0 m 18 ls [.int t0]) := by
  obtain ⟨hx, hb, hr, hml, hown, hts, hlocks, hES, hbs⟩ := id E
  unfold fX3_number_b18 at hM
  refine lv_istore_n (lv' := [(3, .int t0), (0, .ref (e_ad G l0))]) hx hb dX3_number_18 rfl hl (by decide) rfl (fun ls hl => ?_)
  refine lv_iload_n hx hb dX3_number_19 rfl (lv_at hl 0 rfl) ?_
  refine lv_if_lt (tgt := 32) hx hb dX3_number_20 (by decide) (fun hc => ?_) (fun hc => ?_)
  · have hM := e_ip hc hM
    refine lv_lconst (v := 0) hx hb dX3_number_32 (by decide) ?_
    refine lv_goto (tgt := 42) hx hb dX3_number_33 (by decide) ?_
    obtain rfl := e_so hM
    exact e_lret E J dX3_number_42
  · have hM := e_in hc hM
    refine lv_iload_n hx hb dX3_number_23 rfl (lv_at hl 0 rfl) ?_
    refine lv_aload_n hx hb dX3_number_24 rfl (lv_at hl 1 rfl) ?_
    obtain ⟨v1, hv, hM⟩ := e_bs hM
    refine e_getR (C := RX3) (T := TX3) (N := 1) E J hv rfl inX3 (by decide) q_1_86 dX3_number_25 ?_
    rcases v1 with _ | a2
    · have hM := e_on0 hM
      refine W.eq (g2 := F0 m 28 ls [.null, .int t0]) rfl ?_
      exact e_no hM
    · have hM := e_on1 hM
      refine W.eq (g2 := F0 m 28 ls [.ref (e_ad G a2), .int t0]) rfl ?_
      obtain ⟨v3, hv, hM⟩ := e_bs hM
      refine e_alen E J hv rfl rfl dX3_number_28 ?_
      refine lv_icmp_lt (tgt := 36) hx hb dX3_number_29 (by decide) (fun hc => ?_) (fun hc => ?_)
      · have hM := e_ip hc hM
        refine lv_aload_n hx hb dX3_number_36 rfl (lv_at hl 1 rfl) ?_
        obtain ⟨v4, hv, hM⟩ := e_bs hM
        refine e_getR (C := RX3) (T := TX3) (N := 1) E J hv rfl inX3 (by decide) q_1_86 dX3_number_37 ?_
        rcases v4 with _ | a5
        · have hM := e_on0 hM
          refine W.eq (g2 := F0 m 40 ls [.null]) rfl ?_
          refine lv_iload_n hx hb dX3_number_40 rfl (lv_at hl 0 rfl) ?_
          exact e_no hM
        · have hM := e_on1 hM
          refine W.eq (g2 := F0 m 40 ls [.ref (e_ad G a5)]) rfl ?_
          refine lv_iload_n hx hb dX3_number_40 rfl (lv_at hl 0 rfl) ?_
          obtain ⟨v7, hv, hM⟩ := e_bs hM
          refine e_lald E J hv dX3_number_41 ?_
          obtain rfl := e_so hM
          exact e_lret E J dX3_number_42
      · have hM := e_in hc hM
        refine lv_lconst (v := 0) hx hb dX3_number_32 (by decide) ?_
        refine lv_goto (tgt := 42) hx hb dX3_number_33 (by decide) ?_
        obtain rfl := e_so hM
        exact e_lret E J dX3_number_42
set_option maxRecDepth 100000 in
set_option maxHeartbeats 4000000 in
theorem mX3_number_b9 {p : Program} {l : Launch} {e : Env} {s : State} {m : MethodId} {args : Array Value} {below : List Frame} {meth : Method} {c : Code} {G : e_G} {res : Int64} (E : e_M G p s args m meth c cX3_number 4 (some FieldType.long) RX3) (h : e_H) (l0 : Nat) (hM : fX3_number_b9 h l0 = some res) {H : Heap} {locs : List Loc} (J : e_J G s h H locs) {ls : Array Slot} (hl : lv_has ls 4 [(0, .ref (e_ad G l0))]) : W p l e (e_rm 0 0) s m args below meth c H locs 0 0 (MQ below (e_Q G h (some (.long res))) args s 0 0 (e_A G)) (F0 m 9 ls []) := by
  obtain ⟨hx, hb, hr, hml, hown, hts, hlocks, hES, hbs⟩ := id E
  unfold fX3_number_b9 at hM
  refine lv_iconst (v := -1) hx hb dX3_number_9 (by decide) ?_
  refine lv_goto (tgt := 18) hx hb dX3_number_10 (by decide) ?_
  exact mX3_number_b18 E h l0 (-1 : Int32) hM J (lv_sub hl [0] rfl)
set_option maxRecDepth 100000 in
set_option maxHeartbeats 4000000 in
theorem mX3_number {l : Launch} {G : e_G} (l0 : Nat) (l1 : Int32) (l2 : Int32) (h : e_H) (res : Int64) (hM : fX3_number l0 l1 l2 h = some res) : Met l yX3_number (e_W yX3_number cX3_number 4 (some FieldType.long)) (e_rm 0 0) (e_Pc G h [.ref (e_ad G l0), .int l1, .int l2]) (e_Q G h (some (.long res))) 0 0 (e_A G) := by
  refine Met.ofW (cc := cX3_number) (maxL := 4) (ret := (some FieldType.long)) (by decide) rfl ?_
  intro p e s m args below meth c s₁ B hml hv
  obtain ⟨rfl, hS, hP⟩ := hv
  have E := e_enter (own := RX3) (ret := (some FieldType.long)) B hml rfl hS hP
  have J : e_J G s h s.heap [] := ⟨hP, va_S.rf⟩
  have hl := lv_entry ([.ref (e_ad G l0), .int l1, .int l2]) (n := 4) (Nat.le_of_ble_eq_true rfl)
  rw [lg_entry_eq]
  generalize (lg_sl ([.ref (e_ad G l0), .int l1, .int l2]) ++ List.replicate (4 - (lg_sl ([.ref (e_ad G l0), .int l1, .int l2])).length) Slot.unset).toArray = ls at hl ⊢
  have hl : lv_has ls 4 [(0, .ref (e_ad G l0)), (1, .int l1), (2, .int l2)] := hl
  obtain ⟨hx, hb, hr, hml, hown, hts, hlocks, hES, hbs⟩ := id E
  unfold fX3_number at hM
  obtain ⟨fs_, hk_, hM⟩ := e_bs hM
  refine lv_iload_n hx hb dX3_number_0 rfl (lv_at hl 2 rfl) ?_
  refine lv_if_lt (tgt := 9) hx hb dX3_number_1 (by decide) (fun hc => ?_) (fun hc => ?_)
  · have hM := e_ip hc hM
    exact mX3_number_b9 E h l0 hM J (lv_sub hl [0] rfl)
  · have hM := e_in hc hM
    refine lv_iload_n hx hb dX3_number_4 rfl (lv_at hl 2 rfl) ?_
    refine lv_iconst (v := nI 4) hx hb dX3_number_5 (by decide) ?_
    refine lv_icmp_le (tgt := 13) hx hb dX3_number_6 (by decide) (fun hc => ?_) (fun hc => ?_)
    · have hM := e_ip hc hM
      refine lv_iload_n hx hb dX3_number_13 rfl (lv_at hl 1 rfl) ?_
      refine lv_iconst (v := nI 5) hx hb dX3_number_14 (by decide) ?_
      refine lv_imul hx hb dX3_number_15 ?_
      refine lv_iload_n hx hb dX3_number_16 rfl (lv_at hl 2 rfl) ?_
      refine lv_iadd hx hb dX3_number_17 ?_
      exact mX3_number_b18 E h l0 ((l1 * (nI 5)) + l2) hM J (lv_sub hl [0] rfl)
    · have hM := e_in hc hM
      exact mX3_number_b9 E h l0 hM J (lv_sub hl [0] rfl)
set_option maxRecDepth 100000 in
set_option maxHeartbeats 4000000 in
theorem mX3_moveX_b17 {p : Program} {l : Launch} {e : Env} {s : State} {m : MethodId} {args : Array Value} {below : List Frame} {meth : Method} {c : Code} {G : e_G} {res : e_H} {k2 : Nat → Int32 → Int32 → e_H → Option e_H} {k9 : Nat → Int32 → Int32 → Int32 → e_H → Option e_H} {k17 : Nat → Int32 → Int32 → Int32 → Int32 → e_H → Option e_H} (E : e_M G p s args m meth c cX3_moveX 5 none RX3) (K2 : ∀ (l0 : Nat) (l1 : Int32) (l2 : Int32) (h : e_H), k2 l0 l1 l2 h = some res → ∀ (H : Heap) (locs : List Loc), e_J G s h H locs → ∀ (ls : Array Slot), lv_has ls 5 [(0, .ref (e_ad G l0)), (1, .int l1), (2, .int l2)] → W p l e (e_rm 1 25) s m args below meth c H locs 0 0 (MQ below (e_Q G res (none)) args s 0 0 (e_A G)) (F0 m 2 ls [])) (K9 : ∀ (l0 : Nat) (l1 : Int32) (l2 : Int32) (l3 : Int32) (h : e_H), k9 l0 l1 l2 l3 h = some res → ∀ (H : Heap) (locs : List Loc), e_J G s h H locs → ∀ (ls : Array Slot), lv_has ls 5 [(0, .ref (e_ad G l0)), (1, .int l1), (2, .int l2), (3, .int l3)] → W p l e (e_rm 1 25) s m args below meth c H locs 0 0 (MQ below (e_Q G res (none)) args s 0 0 (e_A G)) (F0 m 9 ls [])) (K17 : ∀ (l0 : Nat) (l1 : Int32) (l2 : Int32) (l3 : Int32) (l4 : Int32) (h : e_H), k17 l0 l1 l2 l3 l4 h = some res → ∀ (H : Heap) (locs : List Loc), e_J G s h H locs → ∀ (ls : Array Slot), lv_has ls 5 [(0, .ref (e_ad G l0)), (1, .int l1), (2, .int l2), (3, .int l3), (4, .int l4)] → W p l e (e_rm 1 25) s m args below meth c H locs 0 0 (MQ below (e_Q G res (none)) args s 0 0 (e_A G)) (F0 m 17 ls [])) (l0 : Nat) (l1 : Int32) (l2 : Int32) (l3 : Int32) (l4 : Int32) (h : e_H) (hM : fX3_moveX_b17 k2 k9 k17 l0 l1 l2 l3 l4 h = some res) {H : Heap} {locs : List Loc} (J : e_J G s h H locs) {ls : Array Slot} (hl : lv_has ls 5 [(0, .ref (e_ad G l0)), (1, .int l1), (2, .int l2), (3, .int l3), (4, .int l4)]) : W p l e (e_rm 1 25) s m args below meth c H locs 0 0 (MQ below (e_Q G res (none)) args s 0 0 (e_A G)) (F0 m 17 ls []) := by
  obtain ⟨hx, hb, hr, hml, hown, hts, hlocks, hES, hbs⟩ := id E
  unfold fX3_moveX_b17 at hM
  refine lv_iload hx hb dX3_moveX_17 (lv_at hl 4 rfl) ?_
  refine lv_iconst (v := nI 4) hx hb dX3_moveX_19 (by decide) ?_
  refine lv_iload_n hx hb dX3_moveX_20 rfl (lv_at hl 3 rfl) ?_
  refine lv_isub hx hb dX3_moveX_21 ?_
  refine lv_icmp_ge (tgt := 50) hx hb dX3_moveX_22 (by decide) (fun hc => ?_) (fun hc => ?_)
  · have hM := e_ip hc hM
    refine lv_iinc (v := (l3 + (-1 : Int32))) (lv' := [(3, .int (l3 + (-1 : Int32))), (0, .ref (e_ad G l0)), (1, .int l1), (2, .int l2), (4, .int l4)]) hx hb dX3_moveX_50 hl (k := 3) rfl rfl (by decide) rfl (fun ls hl => ?_)
    refine lv_goto (tgt := 9) hx hb dX3_moveX_53 (by decide) ?_
    exact K9 l0 l1 l2 (l3 + (-1 : Int32)) h hM _ _ J _ (lv_sub hl [1, 2, 3, 0] rfl)
  · have hM := e_in hc hM
    refine lv_aload_n hx hb dX3_moveX_25 rfl (lv_at hl 0 rfl) ?_
    refine lv_iload_n hx hb dX3_moveX_26 rfl (lv_at hl 3 rfl) ?_
    refine lv_iload hx hb dX3_moveX_27 (lv_at hl 4 rfl) ?_
    refine lv_iload_n hx hb dX3_moveX_29 rfl (lv_at hl 1 rfl) ?_
    refine lv_i2l hx hb dX3_moveX_30 rfl ?_
    refine lv_aload_n hx hb dX3_moveX_31 rfl (lv_at hl 0 rfl) ?_
    refine lv_iload_n hx hb dX3_moveX_32 rfl (lv_at hl 3 rfl) ?_
    refine lv_iconst (v := nI 1) hx hb dX3_moveX_33 (by decide) ?_
    refine lv_iadd hx hb dX3_moveX_34 ?_
    refine lv_iload hx hb dX3_moveX_35 (lv_at hl 4 rfl) ?_
    obtain ⟨v1, hv, hM⟩ := e_bs hM
    obtain ⟨fs_, hk, -⟩ := e_bs hv
    refine e_callV (ci := 3) (As := [.int (l3 + (nI 1)), .int l4]) (rest := [.long (l1).toInt64, .int l4, .int l3, .ref (e_ad G l0)]) (n := 2) E J hk rfl (mX3_number (l := l) (G := G) l0 (l3 + (nI 1)) l4 h _ hv) q_2_184 q_2_185 q_2_186 q_1_5 q_2_187 (by decide +kernel) rfl ⟨Nat.le_of_ble_eq_true rfl, Nat.le_of_ble_eq_true rfl⟩ (st0 := [.int l4, .int (l3 + (nI 1)), .ref (e_ad G l0), .long (l1).toInt64, .int l4, .int l3, .ref (e_ad G l0)]) (st1 := [.long v1, .long (l1).toInt64, .int l4, .int l3, .ref (e_ad G l0)]) rfl rfl hl.1 (Nat.le_of_ble_eq_true rfl) dX3_moveX_37 ⟨Nat.le_refl _, Nat.le_refl _⟩ (fun H locs J => ?_)
    refine lv_lmul hx hb dX3_moveX_40 ?_
    obtain ⟨h2, hv, hM⟩ := e_bs hM
    obtain ⟨fs_, hk, -⟩ := e_bs hv
    refine e_callV (ci := 3) (As := [.int l3, .int l4, .long ((l1).toInt64 * v1)]) (rest := []) (n := 3) E J hk rfl (mX3_add (l := l) (G := G) l0 l3 l4 ((l1).toInt64 * v1) h _ hv) q_2_188 q_2_177 q_2_178 q_1_5 q_2_179 (by decide +kernel) rfl ⟨Nat.le_of_ble_eq_true rfl, Nat.le_of_ble_eq_true rfl⟩ (st0 := [.long ((l1).toInt64 * v1), .int l4, .int l3, .ref (e_ad G l0)]) (st1 := []) rfl rfl hl.1 (Nat.le_of_ble_eq_true rfl) dX3_moveX_41 ⟨Nat.le_refl _, Nat.le_refl _⟩ (fun H locs J => ?_)
    refine lv_iinc (v := (l4 + (nI 1))) (lv' := [(4, .int (l4 + (nI 1))), (0, .ref (e_ad G l0)), (1, .int l1), (2, .int l2), (3, .int l3)]) hx hb dX3_moveX_44 hl (k := 4) rfl rfl (by decide) rfl (fun ls hl => ?_)
    refine lv_goto (tgt := 17) hx hb dX3_moveX_47 (by decide) ?_
    exact K17 l0 l1 l2 l3 (l4 + (nI 1)) h2 hM _ _ J _ (lv_sub hl [1, 2, 3, 4, 0] rfl)
set_option maxRecDepth 100000 in
set_option maxHeartbeats 4000000 in
theorem mX3_moveX_L17 {p : Program} {l : Launch} {e : Env} {s : State} {m : MethodId} {args : Array Value} {below : List Frame} {meth : Method} {c : Code} {G : e_G} {res : e_H} {k2 : Nat → Int32 → Int32 → e_H → Option e_H} {k9 : Nat → Int32 → Int32 → Int32 → e_H → Option e_H} (E : e_M G p s args m meth c cX3_moveX 5 none RX3) (K2 : ∀ (l0 : Nat) (l1 : Int32) (l2 : Int32) (h : e_H), k2 l0 l1 l2 h = some res → ∀ (H : Heap) (locs : List Loc), e_J G s h H locs → ∀ (ls : Array Slot), lv_has ls 5 [(0, .ref (e_ad G l0)), (1, .int l1), (2, .int l2)] → W p l e (e_rm 1 25) s m args below meth c H locs 0 0 (MQ below (e_Q G res (none)) args s 0 0 (e_A G)) (F0 m 2 ls [])) (K9 : ∀ (l0 : Nat) (l1 : Int32) (l2 : Int32) (l3 : Int32) (h : e_H), k9 l0 l1 l2 l3 h = some res → ∀ (H : Heap) (locs : List Loc), e_J G s h H locs → ∀ (ls : Array Slot), lv_has ls 5 [(0, .ref (e_ad G l0)), (1, .int l1), (2, .int l2), (3, .int l3)] → W p l e (e_rm 1 25) s m args below meth c H locs 0 0 (MQ below (e_Q G res (none)) args s 0 0 (e_A G)) (F0 m 9 ls [])) (n : Nat) (l0 : Nat) (l1 : Int32) (l2 : Int32) (l3 : Int32) (l4 : Int32) (h : e_H) (hM : fX3_moveX_L17 k2 k9 n l0 l1 l2 l3 l4 h = some res) {H : Heap} {locs : List Loc} (J : e_J G s h H locs) {ls : Array Slot} (hl : lv_has ls 5 [(0, .ref (e_ad G l0)), (1, .int l1), (2, .int l2), (3, .int l3), (4, .int l4)]) : W p l e (e_rm 1 25) s m args below meth c H locs 0 0 (MQ below (e_Q G res (none)) args s 0 0 (e_A G)) (F0 m 17 ls []) := by
  induction n generalizing l0 l1 l2 l3 l4 h H locs ls with
  | zero => exact e_no hM
  | succ n ih => exact mX3_moveX_b17 (k17 := (fX3_moveX_L17 k2 k9 n)) E  K2 K9 (fun l0 l1 l2 l3 l4 h hM H locs J ls hl => ih l0 l1 l2 l3 l4 h hM J hl) l0 l1 l2 l3 l4 h hM J hl
set_option maxRecDepth 100000 in
set_option maxHeartbeats 4000000 in
theorem mX3_moveX_b9 {p : Program} {l : Launch} {e : Env} {s : State} {m : MethodId} {args : Array Value} {below : List Frame} {meth : Method} {c : Code} {G : e_G} {res : e_H} {k2 : Nat → Int32 → Int32 → e_H → Option e_H} {k9 : Nat → Int32 → Int32 → Int32 → e_H → Option e_H} (E : e_M G p s args m meth c cX3_moveX 5 none RX3) (K2 : ∀ (l0 : Nat) (l1 : Int32) (l2 : Int32) (h : e_H), k2 l0 l1 l2 h = some res → ∀ (H : Heap) (locs : List Loc), e_J G s h H locs → ∀ (ls : Array Slot), lv_has ls 5 [(0, .ref (e_ad G l0)), (1, .int l1), (2, .int l2)] → W p l e (e_rm 1 25) s m args below meth c H locs 0 0 (MQ below (e_Q G res (none)) args s 0 0 (e_A G)) (F0 m 2 ls [])) (K9 : ∀ (l0 : Nat) (l1 : Int32) (l2 : Int32) (l3 : Int32) (h : e_H), k9 l0 l1 l2 l3 h = some res → ∀ (H : Heap) (locs : List Loc), e_J G s h H locs → ∀ (ls : Array Slot), lv_has ls 5 [(0, .ref (e_ad G l0)), (1, .int l1), (2, .int l2), (3, .int l3)] → W p l e (e_rm 1 25) s m args below meth c H locs 0 0 (MQ below (e_Q G res (none)) args s 0 0 (e_A G)) (F0 m 9 ls [])) (l0 : Nat) (l1 : Int32) (l2 : Int32) (l3 : Int32) (h : e_H) (hM : fX3_moveX_b9 k2 k9 l0 l1 l2 l3 h = some res) {H : Heap} {locs : List Loc} (J : e_J G s h H locs) {ls : Array Slot} (hl : lv_has ls 5 [(0, .ref (e_ad G l0)), (1, .int l1), (2, .int l2), (3, .int l3)]) : W p l e (e_rm 1 25) s m args below meth c H locs 0 0 (MQ below (e_Q G res (none)) args s 0 0 (e_A G)) (F0 m 9 ls []) := by
  obtain ⟨hx, hb, hr, hml, hown, hts, hlocks, hES, hbs⟩ := id E
  unfold fX3_moveX_b9 at hM
  refine lv_iload_n hx hb dX3_moveX_9 rfl (lv_at hl 3 rfl) ?_
  refine lv_iload_n hx hb dX3_moveX_10 rfl (lv_at hl 2 rfl) ?_
  refine lv_icmp_lt (tgt := 56) hx hb dX3_moveX_11 (by decide) (fun hc => ?_) (fun hc => ?_)
  · have hM := e_ip hc hM
    refine lv_iinc (v := (l2 + (nI 1))) (lv' := [(2, .int (l2 + (nI 1))), (0, .ref (e_ad G l0)), (1, .int l1), (3, .int l3)]) hx hb dX3_moveX_56 hl (k := 2) rfl rfl (by decide) rfl (fun ls hl => ?_)
    refine lv_goto (tgt := 2) hx hb dX3_moveX_59 (by decide) ?_
    exact K2 l0 l1 (l2 + (nI 1)) h hM _ _ J _ (lv_sub hl [1, 2, 0] rfl)
  · have hM := e_in hc hM
    refine lv_iconst (v := nI 0) hx hb dX3_moveX_14 (by decide) ?_
    refine lv_istore (lv' := [(4, .int (nI 0)), (0, .ref (e_ad G l0)), (1, .int l1), (2, .int l2), (3, .int l3)]) hx hb dX3_moveX_15 hl (by decide) rfl (fun ls hl => ?_)
    exact mX3_moveX_L17 E K2 K9 200 l0 l1 l2 l3 (nI 0) h hM J (lv_sub hl [1, 2, 3, 4, 0] rfl)
set_option maxRecDepth 100000 in
set_option maxHeartbeats 4000000 in
theorem mX3_moveX_L9 {p : Program} {l : Launch} {e : Env} {s : State} {m : MethodId} {args : Array Value} {below : List Frame} {meth : Method} {c : Code} {G : e_G} {res : e_H} {k2 : Nat → Int32 → Int32 → e_H → Option e_H} (E : e_M G p s args m meth c cX3_moveX 5 none RX3) (K2 : ∀ (l0 : Nat) (l1 : Int32) (l2 : Int32) (h : e_H), k2 l0 l1 l2 h = some res → ∀ (H : Heap) (locs : List Loc), e_J G s h H locs → ∀ (ls : Array Slot), lv_has ls 5 [(0, .ref (e_ad G l0)), (1, .int l1), (2, .int l2)] → W p l e (e_rm 1 25) s m args below meth c H locs 0 0 (MQ below (e_Q G res (none)) args s 0 0 (e_A G)) (F0 m 2 ls [])) (n : Nat) (l0 : Nat) (l1 : Int32) (l2 : Int32) (l3 : Int32) (h : e_H) (hM : fX3_moveX_L9 k2 n l0 l1 l2 l3 h = some res) {H : Heap} {locs : List Loc} (J : e_J G s h H locs) {ls : Array Slot} (hl : lv_has ls 5 [(0, .ref (e_ad G l0)), (1, .int l1), (2, .int l2), (3, .int l3)]) : W p l e (e_rm 1 25) s m args below meth c H locs 0 0 (MQ below (e_Q G res (none)) args s 0 0 (e_A G)) (F0 m 9 ls []) := by
  induction n generalizing l0 l1 l2 l3 h H locs ls with
  | zero => exact e_no hM
  | succ n ih => exact mX3_moveX_b9 (k9 := (fX3_moveX_L9 k2 n)) E  K2 (fun l0 l1 l2 l3 h hM H locs J ls hl => ih l0 l1 l2 l3 h hM J hl) l0 l1 l2 l3 h hM J hl
set_option maxRecDepth 100000 in
set_option maxHeartbeats 4000000 in
theorem mX3_moveX_b2 {p : Program} {l : Launch} {e : Env} {s : State} {m : MethodId} {args : Array Value} {below : List Frame} {meth : Method} {c : Code} {G : e_G} {res : e_H} {k2 : Nat → Int32 → Int32 → e_H → Option e_H} (E : e_M G p s args m meth c cX3_moveX 5 none RX3) (K2 : ∀ (l0 : Nat) (l1 : Int32) (l2 : Int32) (h : e_H), k2 l0 l1 l2 h = some res → ∀ (H : Heap) (locs : List Loc), e_J G s h H locs → ∀ (ls : Array Slot), lv_has ls 5 [(0, .ref (e_ad G l0)), (1, .int l1), (2, .int l2)] → W p l e (e_rm 1 25) s m args below meth c H locs 0 0 (MQ below (e_Q G res (none)) args s 0 0 (e_A G)) (F0 m 2 ls [])) (l0 : Nat) (l1 : Int32) (l2 : Int32) (h : e_H) (hM : fX3_moveX_b2 k2 l0 l1 l2 h = some res) {H : Heap} {locs : List Loc} (J : e_J G s h H locs) {ls : Array Slot} (hl : lv_has ls 5 [(0, .ref (e_ad G l0)), (1, .int l1), (2, .int l2)]) : W p l e (e_rm 1 25) s m args below meth c H locs 0 0 (MQ below (e_Q G res (none)) args s 0 0 (e_A G)) (F0 m 2 ls []) := by
  obtain ⟨hx, hb, hr, hml, hown, hts, hlocks, hES, hbs⟩ := id E
  unfold fX3_moveX_b2 at hM
  refine lv_iload_n hx hb dX3_moveX_2 rfl (lv_at hl 2 rfl) ?_
  refine lv_iconst (v := nI 4) hx hb dX3_moveX_3 (by decide) ?_
  refine lv_icmp_ge (tgt := 62) hx hb dX3_moveX_4 (by decide) (fun hc => ?_) (fun hc => ?_)
  · have hM := e_ip hc hM
    obtain rfl := e_so hM
    exact e_vret E J dX3_moveX_62
  · have hM := e_in hc hM
    refine lv_iconst (v := nI 3) hx hb dX3_moveX_7 (by decide) ?_
    refine lv_istore_n (lv' := [(3, .int (nI 3)), (0, .ref (e_ad G l0)), (1, .int l1), (2, .int l2)]) hx hb dX3_moveX_8 rfl hl (by decide) rfl (fun ls hl => ?_)
    exact mX3_moveX_L9 E K2 200 l0 l1 l2 (nI 3) h hM J (lv_sub hl [1, 2, 3, 0] rfl)
set_option maxRecDepth 100000 in
set_option maxHeartbeats 4000000 in
theorem mX3_moveX_L2 {p : Program} {l : Launch} {e : Env} {s : State} {m : MethodId} {args : Array Value} {below : List Frame} {meth : Method} {c : Code} {G : e_G} {res : e_H} (E : e_M G p s args m meth c cX3_moveX 5 none RX3) (n : Nat) (l0 : Nat) (l1 : Int32) (l2 : Int32) (h : e_H) (hM : fX3_moveX_L2 n l0 l1 l2 h = some res) {H : Heap} {locs : List Loc} (J : e_J G s h H locs) {ls : Array Slot} (hl : lv_has ls 5 [(0, .ref (e_ad G l0)), (1, .int l1), (2, .int l2)]) : W p l e (e_rm 1 25) s m args below meth c H locs 0 0 (MQ below (e_Q G res (none)) args s 0 0 (e_A G)) (F0 m 2 ls []) := by
  induction n generalizing l0 l1 l2 h H locs ls with
  | zero => exact e_no hM
  | succ n ih => exact mX3_moveX_b2 (k2 := (fX3_moveX_L2 n)) E   (fun l0 l1 l2 h hM H locs J ls hl => ih l0 l1 l2 h hM J hl) l0 l1 l2 h hM J hl
set_option maxRecDepth 100000 in
set_option maxHeartbeats 4000000 in
theorem mX3_moveX {l : Launch} {G : e_G} (l0 : Nat) (l1 : Int32) (h : e_H) (res : e_H) (hM : fX3_moveX l0 l1 h = some res) : Met l yX3_moveX (e_W yX3_moveX cX3_moveX 5 none) (e_rm 1 25) (e_Pc G h [.ref (e_ad G l0), .int l1]) (e_Q G res (none)) 0 0 (e_A G) := by
  refine Met.ofW (cc := cX3_moveX) (maxL := 5) (ret := none) (by decide) rfl ?_
  intro p e s m args below meth c s₁ B hml hv
  obtain ⟨rfl, hS, hP⟩ := hv
  have E := e_enter (own := RX3) (ret := none) B hml rfl hS hP
  have J : e_J G s h s.heap [] := ⟨hP, va_S.rf⟩
  have hl := lv_entry ([.ref (e_ad G l0), .int l1]) (n := 5) (Nat.le_of_ble_eq_true rfl)
  rw [lg_entry_eq]
  generalize (lg_sl ([.ref (e_ad G l0), .int l1]) ++ List.replicate (5 - (lg_sl ([.ref (e_ad G l0), .int l1])).length) Slot.unset).toArray = ls at hl ⊢
  have hl : lv_has ls 5 [(0, .ref (e_ad G l0)), (1, .int l1)] := hl
  obtain ⟨hx, hb, hr, hml, hown, hts, hlocks, hES, hbs⟩ := id E
  unfold fX3_moveX at hM
  obtain ⟨fs_, hk_, hM⟩ := e_bs hM
  refine lv_iconst (v := nI 0) hx hb dX3_moveX_0 (by decide) ?_
  refine lv_istore_n (lv' := [(2, .int (nI 0)), (0, .ref (e_ad G l0)), (1, .int l1)]) hx hb dX3_moveX_1 rfl hl (by decide) rfl (fun ls hl => ?_)
  exact mX3_moveX_L2 E 200 l0 l1 (nI 0) h hM J (lv_sub hl [1, 2, 0] rfl)
set_option maxRecDepth 100000 in
set_option maxHeartbeats 4000000 in
theorem mX3_moveY_b19 {p : Program} {l : Launch} {e : Env} {s : State} {m : MethodId} {args : Array Value} {below : List Frame} {meth : Method} {c : Code} {G : e_G} {res : e_H} {k2 : Nat → Int32 → Int32 → Int32 → e_H → Option e_H} {k10 : Nat → Int32 → Int32 → Int32 → Int32 → e_H → Option e_H} {k19 : Nat → Int32 → Int32 → Int32 → Int32 → Int32 → e_H → Option e_H} (E : e_M G p s args m meth c cX3_moveY 6 none RX3) (K2 : ∀ (l0 : Nat) (l1 : Int32) (l2 : Int32) (l3 : Int32) (h : e_H), k2 l0 l1 l2 l3 h = some res → ∀ (H : Heap) (locs : List Loc), e_J G s h H locs → ∀ (ls : Array Slot), lv_has ls 6 [(0, .ref (e_ad G l0)), (1, .int l1), (2, .int l2), (3, .int l3)] → W p l e (e_rm 1 25) s m args below meth c H locs 0 0 (MQ below (e_Q G res (none)) args s 0 0 (e_A G)) (F0 m 2 ls [])) (K10 : ∀ (l0 : Nat) (l1 : Int32) (l2 : Int32) (l3 : Int32) (l4 : Int32) (h : e_H), k10 l0 l1 l2 l3 l4 h = some res → ∀ (H : Heap) (locs : List Loc), e_J G s h H locs → ∀ (ls : Array Slot), lv_has ls 6 [(0, .ref (e_ad G l0)), (1, .int l1), (2, .int l2), (3, .int l3), (4, .int l4)] → W p l e (e_rm 1 25) s m args below meth c H locs 0 0 (MQ below (e_Q G res (none)) args s 0 0 (e_A G)) (F0 m 10 ls [])) (K19 : ∀ (l0 : Nat) (l1 : Int32) (l2 : Int32) (l3 : Int32) (l4 : Int32) (l5 : Int32) (h : e_H), k19 l0 l1 l2 l3 l4 l5 h = some res → ∀ (H : Heap) (locs : List Loc), e_J G s h H locs → ∀ (ls : Array Slot), lv_has ls 6 [(0, .ref (e_ad G l0)), (1, .int l1), (2, .int l2), (3, .int l3), (4, .int l4), (5, .int l5)] → W p l e (e_rm 1 25) s m args below meth c H locs 0 0 (MQ below (e_Q G res (none)) args s 0 0 (e_A G)) (F0 m 19 ls [])) (l0 : Nat) (l1 : Int32) (l2 : Int32) (l3 : Int32) (l4 : Int32) (l5 : Int32) (h : e_H) (hM : fX3_moveY_b19 k2 k10 k19 l0 l1 l2 l3 l4 l5 h = some res) {H : Heap} {locs : List Loc} (J : e_J G s h H locs) {ls : Array Slot} (hl : lv_has ls 6 [(0, .ref (e_ad G l0)), (1, .int l1), (2, .int l2), (3, .int l3), (4, .int l4), (5, .int l5)]) : W p l e (e_rm 1 25) s m args below meth c H locs 0 0 (MQ below (e_Q G res (none)) args s 0 0 (e_A G)) (F0 m 19 ls []) := by
  obtain ⟨hx, hb, hr, hml, hown, hts, hlocks, hES, hbs⟩ := id E
  unfold fX3_moveY_b19 at hM
  refine lv_iload hx hb dX3_moveY_19 (lv_at hl 5 rfl) ?_
  refine lv_iload_n hx hb dX3_moveY_21 rfl (lv_at hl 2 rfl) ?_
  refine lv_icmp_gt (tgt := 52) hx hb dX3_moveY_22 (by decide) (fun hc => ?_) (fun hc => ?_)
  · have hM := e_ip hc hM
    refine lv_iinc (v := (l4 + (-1 : Int32))) (lv' := [(4, .int (l4 + (-1 : Int32))), (0, .ref (e_ad G l0)), (1, .int l1), (2, .int l2), (3, .int l3), (5, .int l5)]) hx hb dX3_moveY_52 hl (k := 4) rfl rfl (by decide) rfl (fun ls hl => ?_)
    refine lv_goto (tgt := 10) hx hb dX3_moveY_55 (by decide) ?_
    exact K10 l0 l1 l2 l3 (l4 + (-1 : Int32)) h hM _ _ J _ (lv_sub hl [1, 2, 3, 4, 0] rfl)
  · have hM := e_in hc hM
    refine lv_aload_n hx hb dX3_moveY_25 rfl (lv_at hl 0 rfl) ?_
    refine lv_iload hx hb dX3_moveY_26 (lv_at hl 5 rfl) ?_
    refine lv_iload hx hb dX3_moveY_28 (lv_at hl 4 rfl) ?_
    refine lv_iload_n hx hb dX3_moveY_30 rfl (lv_at hl 1 rfl) ?_
    refine lv_i2l hx hb dX3_moveY_31 rfl ?_
    refine lv_aload_n hx hb dX3_moveY_32 rfl (lv_at hl 0 rfl) ?_
    refine lv_iload hx hb dX3_moveY_33 (lv_at hl 5 rfl) ?_
    refine lv_iload hx hb dX3_moveY_35 (lv_at hl 4 rfl) ?_
    refine lv_iconst (v := nI 1) hx hb dX3_moveY_37 (by decide) ?_
    refine lv_iadd hx hb dX3_moveY_38 ?_
    obtain ⟨v1, hv, hM⟩ := e_bs hM
    obtain ⟨fs_, hk, -⟩ := e_bs hv
    refine e_callV (ci := 3) (As := [.int l5, .int (l4 + (nI 1))]) (rest := [.long (l1).toInt64, .int l4, .int l5, .ref (e_ad G l0)]) (n := 2) E J hk rfl (mX3_number (l := l) (G := G) l0 l5 (l4 + (nI 1)) h _ hv) q_2_184 q_2_185 q_2_186 q_1_5 q_2_187 (by decide +kernel) rfl ⟨Nat.le_of_ble_eq_true rfl, Nat.le_of_ble_eq_true rfl⟩ (st0 := [.int (l4 + (nI 1)), .int l5, .ref (e_ad G l0), .long (l1).toInt64, .int l4, .int l5, .ref (e_ad G l0)]) (st1 := [.long v1, .long (l1).toInt64, .int l4, .int l5, .ref (e_ad G l0)]) rfl rfl hl.1 (Nat.le_of_ble_eq_true rfl) dX3_moveY_39 ⟨Nat.le_refl _, Nat.le_refl _⟩ (fun H locs J => ?_)
    refine lv_lmul hx hb dX3_moveY_42 ?_
    obtain ⟨h2, hv, hM⟩ := e_bs hM
    obtain ⟨fs_, hk, -⟩ := e_bs hv
    refine e_callV (ci := 3) (As := [.int l5, .int l4, .long ((l1).toInt64 * v1)]) (rest := []) (n := 3) E J hk rfl (mX3_add (l := l) (G := G) l0 l5 l4 ((l1).toInt64 * v1) h _ hv) q_2_188 q_2_177 q_2_178 q_1_5 q_2_179 (by decide +kernel) rfl ⟨Nat.le_of_ble_eq_true rfl, Nat.le_of_ble_eq_true rfl⟩ (st0 := [.long ((l1).toInt64 * v1), .int l4, .int l5, .ref (e_ad G l0)]) (st1 := []) rfl rfl hl.1 (Nat.le_of_ble_eq_true rfl) dX3_moveY_43 ⟨Nat.le_refl _, Nat.le_refl _⟩ (fun H locs J => ?_)
    refine lv_iinc (v := (l5 + (nI 1))) (lv' := [(5, .int (l5 + (nI 1))), (0, .ref (e_ad G l0)), (1, .int l1), (2, .int l2), (3, .int l3), (4, .int l4)]) hx hb dX3_moveY_46 hl (k := 5) rfl rfl (by decide) rfl (fun ls hl => ?_)
    refine lv_goto (tgt := 19) hx hb dX3_moveY_49 (by decide) ?_
    exact K19 l0 l1 l2 l3 l4 (l5 + (nI 1)) h2 hM _ _ J _ (lv_sub hl [1, 2, 3, 4, 5, 0] rfl)
set_option maxRecDepth 100000 in
set_option maxHeartbeats 4000000 in
theorem mX3_moveY_L19 {p : Program} {l : Launch} {e : Env} {s : State} {m : MethodId} {args : Array Value} {below : List Frame} {meth : Method} {c : Code} {G : e_G} {res : e_H} {k2 : Nat → Int32 → Int32 → Int32 → e_H → Option e_H} {k10 : Nat → Int32 → Int32 → Int32 → Int32 → e_H → Option e_H} (E : e_M G p s args m meth c cX3_moveY 6 none RX3) (K2 : ∀ (l0 : Nat) (l1 : Int32) (l2 : Int32) (l3 : Int32) (h : e_H), k2 l0 l1 l2 l3 h = some res → ∀ (H : Heap) (locs : List Loc), e_J G s h H locs → ∀ (ls : Array Slot), lv_has ls 6 [(0, .ref (e_ad G l0)), (1, .int l1), (2, .int l2), (3, .int l3)] → W p l e (e_rm 1 25) s m args below meth c H locs 0 0 (MQ below (e_Q G res (none)) args s 0 0 (e_A G)) (F0 m 2 ls [])) (K10 : ∀ (l0 : Nat) (l1 : Int32) (l2 : Int32) (l3 : Int32) (l4 : Int32) (h : e_H), k10 l0 l1 l2 l3 l4 h = some res → ∀ (H : Heap) (locs : List Loc), e_J G s h H locs → ∀ (ls : Array Slot), lv_has ls 6 [(0, .ref (e_ad G l0)), (1, .int l1), (2, .int l2), (3, .int l3), (4, .int l4)] → W p l e (e_rm 1 25) s m args below meth c H locs 0 0 (MQ below (e_Q G res (none)) args s 0 0 (e_A G)) (F0 m 10 ls [])) (n : Nat) (l0 : Nat) (l1 : Int32) (l2 : Int32) (l3 : Int32) (l4 : Int32) (l5 : Int32) (h : e_H) (hM : fX3_moveY_L19 k2 k10 n l0 l1 l2 l3 l4 l5 h = some res) {H : Heap} {locs : List Loc} (J : e_J G s h H locs) {ls : Array Slot} (hl : lv_has ls 6 [(0, .ref (e_ad G l0)), (1, .int l1), (2, .int l2), (3, .int l3), (4, .int l4), (5, .int l5)]) : W p l e (e_rm 1 25) s m args below meth c H locs 0 0 (MQ below (e_Q G res (none)) args s 0 0 (e_A G)) (F0 m 19 ls []) := by
  induction n generalizing l0 l1 l2 l3 l4 l5 h H locs ls with
  | zero => exact e_no hM
  | succ n ih => exact mX3_moveY_b19 (k19 := (fX3_moveY_L19 k2 k10 n)) E  K2 K10 (fun l0 l1 l2 l3 l4 l5 h hM H locs J ls hl => ih l0 l1 l2 l3 l4 l5 h hM J hl) l0 l1 l2 l3 l4 l5 h hM J hl
set_option maxRecDepth 100000 in
set_option maxHeartbeats 4000000 in
theorem mX3_moveY_b10 {p : Program} {l : Launch} {e : Env} {s : State} {m : MethodId} {args : Array Value} {below : List Frame} {meth : Method} {c : Code} {G : e_G} {res : e_H} {k2 : Nat → Int32 → Int32 → Int32 → e_H → Option e_H} {k10 : Nat → Int32 → Int32 → Int32 → Int32 → e_H → Option e_H} (E : e_M G p s args m meth c cX3_moveY 6 none RX3) (K2 : ∀ (l0 : Nat) (l1 : Int32) (l2 : Int32) (l3 : Int32) (h : e_H), k2 l0 l1 l2 l3 h = some res → ∀ (H : Heap) (locs : List Loc), e_J G s h H locs → ∀ (ls : Array Slot), lv_has ls 6 [(0, .ref (e_ad G l0)), (1, .int l1), (2, .int l2), (3, .int l3)] → W p l e (e_rm 1 25) s m args below meth c H locs 0 0 (MQ below (e_Q G res (none)) args s 0 0 (e_A G)) (F0 m 2 ls [])) (K10 : ∀ (l0 : Nat) (l1 : Int32) (l2 : Int32) (l3 : Int32) (l4 : Int32) (h : e_H), k10 l0 l1 l2 l3 l4 h = some res → ∀ (H : Heap) (locs : List Loc), e_J G s h H locs → ∀ (ls : Array Slot), lv_has ls 6 [(0, .ref (e_ad G l0)), (1, .int l1), (2, .int l2), (3, .int l3), (4, .int l4)] → W p l e (e_rm 1 25) s m args below meth c H locs 0 0 (MQ below (e_Q G res (none)) args s 0 0 (e_A G)) (F0 m 10 ls [])) (l0 : Nat) (l1 : Int32) (l2 : Int32) (l3 : Int32) (l4 : Int32) (h : e_H) (hM : fX3_moveY_b10 k2 k10 l0 l1 l2 l3 l4 h = some res) {H : Heap} {locs : List Loc} (J : e_J G s h H locs) {ls : Array Slot} (hl : lv_has ls 6 [(0, .ref (e_ad G l0)), (1, .int l1), (2, .int l2), (3, .int l3), (4, .int l4)]) : W p l e (e_rm 1 25) s m args below meth c H locs 0 0 (MQ below (e_Q G res (none)) args s 0 0 (e_A G)) (F0 m 10 ls []) := by
  obtain ⟨hx, hb, hr, hml, hown, hts, hlocks, hES, hbs⟩ := id E
  unfold fX3_moveY_b10 at hM
  refine lv_iload hx hb dX3_moveY_10 (lv_at hl 4 rfl) ?_
  refine lv_iload_n hx hb dX3_moveY_12 rfl (lv_at hl 3 rfl) ?_
  refine lv_icmp_lt (tgt := 58) hx hb dX3_moveY_13 (by decide) (fun hc => ?_) (fun hc => ?_)
  · have hM := e_ip hc hM
    refine lv_iinc (v := (l3 + (nI 1))) (lv' := [(3, .int (l3 + (nI 1))), (0, .ref (e_ad G l0)), (1, .int l1), (2, .int l2), (4, .int l4)]) hx hb dX3_moveY_58 hl (k := 3) rfl rfl (by decide) rfl (fun ls hl => ?_)
    refine lv_goto (tgt := 2) hx hb dX3_moveY_61 (by decide) ?_
    exact K2 l0 l1 l2 (l3 + (nI 1)) h hM _ _ J _ (lv_sub hl [1, 2, 3, 0] rfl)
  · have hM := e_in hc hM
    refine lv_iconst (v := nI 0) hx hb dX3_moveY_16 (by decide) ?_
    refine lv_istore (lv' := [(5, .int (nI 0)), (0, .ref (e_ad G l0)), (1, .int l1), (2, .int l2), (3, .int l3), (4, .int l4)]) hx hb dX3_moveY_17 hl (by decide) rfl (fun ls hl => ?_)
    exact mX3_moveY_L19 E K2 K10 200 l0 l1 l2 l3 l4 (nI 0) h hM J (lv_sub hl [1, 2, 3, 4, 5, 0] rfl)
set_option maxRecDepth 100000 in
set_option maxHeartbeats 4000000 in
theorem mX3_moveY_L10 {p : Program} {l : Launch} {e : Env} {s : State} {m : MethodId} {args : Array Value} {below : List Frame} {meth : Method} {c : Code} {G : e_G} {res : e_H} {k2 : Nat → Int32 → Int32 → Int32 → e_H → Option e_H} (E : e_M G p s args m meth c cX3_moveY 6 none RX3) (K2 : ∀ (l0 : Nat) (l1 : Int32) (l2 : Int32) (l3 : Int32) (h : e_H), k2 l0 l1 l2 l3 h = some res → ∀ (H : Heap) (locs : List Loc), e_J G s h H locs → ∀ (ls : Array Slot), lv_has ls 6 [(0, .ref (e_ad G l0)), (1, .int l1), (2, .int l2), (3, .int l3)] → W p l e (e_rm 1 25) s m args below meth c H locs 0 0 (MQ below (e_Q G res (none)) args s 0 0 (e_A G)) (F0 m 2 ls [])) (n : Nat) (l0 : Nat) (l1 : Int32) (l2 : Int32) (l3 : Int32) (l4 : Int32) (h : e_H) (hM : fX3_moveY_L10 k2 n l0 l1 l2 l3 l4 h = some res) {H : Heap} {locs : List Loc} (J : e_J G s h H locs) {ls : Array Slot} (hl : lv_has ls 6 [(0, .ref (e_ad G l0)), (1, .int l1), (2, .int l2), (3, .int l3), (4, .int l4)]) : W p l e (e_rm 1 25) s m args below meth c H locs 0 0 (MQ below (e_Q G res (none)) args s 0 0 (e_A G)) (F0 m 10 ls []) := by
  induction n generalizing l0 l1 l2 l3 l4 h H locs ls with
  | zero => exact e_no hM
  | succ n ih => exact mX3_moveY_b10 (k10 := (fX3_moveY_L10 k2 n)) E  K2 (fun l0 l1 l2 l3 l4 h hM H locs J ls hl => ih l0 l1 l2 l3 l4 h hM J hl) l0 l1 l2 l3 l4 h hM J hl
set_option maxRecDepth 100000 in
set_option maxHeartbeats 4000000 in
theorem mX3_moveY_b2 {p : Program} {l : Launch} {e : Env} {s : State} {m : MethodId} {args : Array Value} {below : List Frame} {meth : Method} {c : Code} {G : e_G} {res : e_H} {k2 : Nat → Int32 → Int32 → Int32 → e_H → Option e_H} (E : e_M G p s args m meth c cX3_moveY 6 none RX3) (K2 : ∀ (l0 : Nat) (l1 : Int32) (l2 : Int32) (l3 : Int32) (h : e_H), k2 l0 l1 l2 l3 h = some res → ∀ (H : Heap) (locs : List Loc), e_J G s h H locs → ∀ (ls : Array Slot), lv_has ls 6 [(0, .ref (e_ad G l0)), (1, .int l1), (2, .int l2), (3, .int l3)] → W p l e (e_rm 1 25) s m args below meth c H locs 0 0 (MQ below (e_Q G res (none)) args s 0 0 (e_A G)) (F0 m 2 ls [])) (l0 : Nat) (l1 : Int32) (l2 : Int32) (l3 : Int32) (h : e_H) (hM : fX3_moveY_b2 k2 l0 l1 l2 l3 h = some res) {H : Heap} {locs : List Loc} (J : e_J G s h H locs) {ls : Array Slot} (hl : lv_has ls 6 [(0, .ref (e_ad G l0)), (1, .int l1), (2, .int l2), (3, .int l3)]) : W p l e (e_rm 1 25) s m args below meth c H locs 0 0 (MQ below (e_Q G res (none)) args s 0 0 (e_A G)) (F0 m 2 ls []) := by
  obtain ⟨hx, hb, hr, hml, hown, hts, hlocks, hES, hbs⟩ := id E
  unfold fX3_moveY_b2 at hM
  refine lv_iload_n hx hb dX3_moveY_2 rfl (lv_at hl 3 rfl) ?_
  refine lv_iconst (v := nI 4) hx hb dX3_moveY_3 (by decide) ?_
  refine lv_icmp_ge (tgt := 64) hx hb dX3_moveY_4 (by decide) (fun hc => ?_) (fun hc => ?_)
  · have hM := e_ip hc hM
    obtain rfl := e_so hM
    exact e_vret E J dX3_moveY_64
  · have hM := e_in hc hM
    refine lv_iconst (v := nI 3) hx hb dX3_moveY_7 (by decide) ?_
    refine lv_istore (lv' := [(4, .int (nI 3)), (0, .ref (e_ad G l0)), (1, .int l1), (2, .int l2), (3, .int l3)]) hx hb dX3_moveY_8 hl (by decide) rfl (fun ls hl => ?_)
    exact mX3_moveY_L10 E K2 200 l0 l1 l2 l3 (nI 3) h hM J (lv_sub hl [1, 2, 3, 4, 0] rfl)
set_option maxRecDepth 100000 in
set_option maxHeartbeats 4000000 in
theorem mX3_moveY_L2 {p : Program} {l : Launch} {e : Env} {s : State} {m : MethodId} {args : Array Value} {below : List Frame} {meth : Method} {c : Code} {G : e_G} {res : e_H} (E : e_M G p s args m meth c cX3_moveY 6 none RX3) (n : Nat) (l0 : Nat) (l1 : Int32) (l2 : Int32) (l3 : Int32) (h : e_H) (hM : fX3_moveY_L2 n l0 l1 l2 l3 h = some res) {H : Heap} {locs : List Loc} (J : e_J G s h H locs) {ls : Array Slot} (hl : lv_has ls 6 [(0, .ref (e_ad G l0)), (1, .int l1), (2, .int l2), (3, .int l3)]) : W p l e (e_rm 1 25) s m args below meth c H locs 0 0 (MQ below (e_Q G res (none)) args s 0 0 (e_A G)) (F0 m 2 ls []) := by
  induction n generalizing l0 l1 l2 l3 h H locs ls with
  | zero => exact e_no hM
  | succ n ih => exact mX3_moveY_b2 (k2 := (fX3_moveY_L2 n)) E   (fun l0 l1 l2 l3 h hM H locs J ls hl => ih l0 l1 l2 l3 h hM J hl) l0 l1 l2 l3 h hM J hl
set_option maxRecDepth 100000 in
set_option maxHeartbeats 4000000 in
theorem mX3_moveY {l : Launch} {G : e_G} (l0 : Nat) (l1 : Int32) (l2 : Int32) (h : e_H) (res : e_H) (hM : fX3_moveY l0 l1 l2 h = some res) : Met l yX3_moveY (e_W yX3_moveY cX3_moveY 6 none) (e_rm 1 25) (e_Pc G h [.ref (e_ad G l0), .int l1, .int l2]) (e_Q G res (none)) 0 0 (e_A G) := by
  refine Met.ofW (cc := cX3_moveY) (maxL := 6) (ret := none) (by decide) rfl ?_
  intro p e s m args below meth c s₁ B hml hv
  obtain ⟨rfl, hS, hP⟩ := hv
  have E := e_enter (own := RX3) (ret := none) B hml rfl hS hP
  have J : e_J G s h s.heap [] := ⟨hP, va_S.rf⟩
  have hl := lv_entry ([.ref (e_ad G l0), .int l1, .int l2]) (n := 6) (Nat.le_of_ble_eq_true rfl)
  rw [lg_entry_eq]
  generalize (lg_sl ([.ref (e_ad G l0), .int l1, .int l2]) ++ List.replicate (6 - (lg_sl ([.ref (e_ad G l0), .int l1, .int l2])).length) Slot.unset).toArray = ls at hl ⊢
  have hl : lv_has ls 6 [(0, .ref (e_ad G l0)), (1, .int l1), (2, .int l2)] := hl
  obtain ⟨hx, hb, hr, hml, hown, hts, hlocks, hES, hbs⟩ := id E
  unfold fX3_moveY at hM
  obtain ⟨fs_, hk_, hM⟩ := e_bs hM
  refine lv_iconst (v := nI 0) hx hb dX3_moveY_0 (by decide) ?_
  refine lv_istore_n (lv' := [(3, .int (nI 0)), (0, .ref (e_ad G l0)), (1, .int l1), (2, .int l2)]) hx hb dX3_moveY_1 rfl hl (by decide) rfl (fun ls hl => ?_)
  exact mX3_moveY_L2 E 200 l0 l1 l2 (nI 0) h hM J (lv_sub hl [1, 2, 3, 0] rfl)
