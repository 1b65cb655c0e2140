set_option maxRecDepth 100000 in
set_option maxHeartbeats 4000000 in
theorem mL_law_b1685 {p : Program} {l : Launch} {e : Env} {s : State} {m : MethodId} {below : List Frame} {meth : Method} {c : Code} {G : e_G} {L : Nat} {xs : Nat → Int32} {b : Nat} {k18 : Nat → Nat → Int32 → e_H → Option Bool} (E : e_M G p s #[Value.ref b] m meth c cL_law 4 ret RL) (hX : va_X b L xs s s.heap) (hbl : b < s.heap.size) (hbA : ¬ e_A G b) (hbz : G.2.2.1 = s.heap.size) {n9 : Nat} (K18 : ∀ (l1 : Nat) (l2 : Nat) (l3 : Int32) (h : e_H), k18 l1 l2 l3 h = some true → ∀ (cells slots : Nat), cells + (n9 * 2 + 2) ≤ 600000 → slots + (n9 * 99 + 99) ≤ 7302250 → ∀ (H : Heap) (locs : List Loc), e_J G s h H locs → ∀ (ls : Array Slot), lv_has ls 4 [(0, .ref b), (1, .ref (e_ad G l1)), (2, .ref (e_ad G l2)), (3, .int l3)] → W p l e room_1 s m #[Value.ref b] below meth c H locs cells slots (lw_Z below #[Value.ref b] s) (F0 m 18 ls [])) (l1 : Nat) (l2 : Nat) (l3 : Int32) (h : e_H) (hM : fL_law_b1685 L xs k18 l1 l2 l3 h = some true) {cells slots : Nat} (hb3 : cells + 0 + (n9 * 2 + 2) ≤ 600000) (hb4 : slots + 0 + (n9 * 99 + 99) ≤ 7302250) {H : Heap} {locs : List Loc} (J : e_J G s h H locs) {ls : Array Slot} (hl : lv_has ls 4 [(0, .ref b), (1, .ref (e_ad G l1)), (2, .ref (e_ad G l2)), (3, .int l3)]) : W p l e room_1 s m #[Value.ref b] below meth c H locs cells slots (lw_Z below #[Value.ref b] s) (F0 m 1685 ls []) := by
  obtain ⟨hx, hb, hr, hml, hown, hts, hlocks, hES, hbs⟩ := id E
  unfold fL_law_b1685 at hM
  refine lv_iinc (v := (l3 + (nI 6))) (lv' := [(3, .int (l3 + (nI 6))), (0, .ref b), (1, .ref (e_ad G l1)), (2, .ref (e_ad G l2))]) hx hb dL_law_1685 hl (k := 3) rfl rfl (by decide) rfl (fun ls hl => ?_)
  refine lv_goto (tgt := 18) hx hb dL_law_1688 (by decide) ?_
  exact K18 l1 l2 (l3 + (nI 6)) h hM _ _ (by omega) (by omega) _ _ J _ (lv_sub hl [1, 2, 3, 0] rfl)
set_option maxRecDepth 100000 in
set_option maxHeartbeats 4000000 in
theorem mL_law_b216 {p : Program} {l : Launch} {e : Env} {s : State} {m : MethodId} {below : List Frame} {meth : Method} {c : Code} {G : e_G} {L : Nat} {xs : Nat → Int32} {b : Nat} {k18 : Nat → Nat → Int32 → e_H → Option Bool} (E : e_M G p s #[Value.ref b] m meth c cL_law 4 ret RL) (hX : va_X b L xs s s.heap) (hbl : b < s.heap.size) (hbA : ¬ e_A G b) (hbz : G.2.2.1 = s.heap.size) {n9 : Nat} (K18 : ∀ (l1 : Nat) (l2 : Nat) (l3 : Int32) (h : e_H), k18 l1 l2 l3 h = some true → ∀ (cells slots : Nat), cells + (n9 * 2 + 2) ≤ 600000 → slots + (n9 * 99 + 99) ≤ 7302250 → ∀ (H : Heap) (locs : List Loc), e_J G s h H locs → ∀ (ls : Array Slot), lv_has ls 4 [(0, .ref b), (1, .ref (e_ad G l1)), (2, .ref (e_ad G l2)), (3, .int l3)] → W p l e room_1 s m #[Value.ref b] below meth c H locs cells slots (lw_Z below #[Value.ref b] s) (F0 m 18 ls [])) (l1 : Nat) (l2 : Nat) (l3 : Int32) (h : e_H) (hM : fL_law_b216 L xs k18 l1 l2 l3 h = some true) {cells slots : Nat} (hb1 : cells + 0 ≤ 600000) (hb2 : slots + 0 ≤ 7302250) (hb3 : cells + 0 + (n9 * 2 + 2) ≤ 600000) (hb4 : slots + 0 + (n9 * 99 + 99) ≤ 7302250) {H : Heap} {locs : List Loc} (J : e_J G s h H locs) {ls : Array Slot} (hl : lv_has ls 4 [(0, .ref b), (1, .ref (e_ad G l1)), (2, .ref (e_ad G l2)), (3, .int l3)]) : W p l e room_1 s m #[Value.ref b] below meth c H locs cells slots (lw_Z below #[Value.ref b] s) (F0 m 216 ls []) := by
  obtain ⟨hx, hb, hr, hml, hown, hts, hlocks, hES, hbs⟩ := id E
  unfold fL_law_b216 at hM
  refine lv_aload_n hx hb dL_law_216 rfl (lv_at hl 1 rfl) ?_
  refine lv_aload_n hx hb dL_law_217 rfl (lv_at hl 0 rfl) ?_
  refine lv_iload_n hx hb dL_law_218 rfl (lv_at hl 3 rfl) ?_
  refine lv_iconst (v := nI 1) hx hb dL_law_219 (by decide) ?_
  refine lv_iadd hx hb dL_law_220 ?_
  obtain ⟨hz, hM⟩ := e_if0 hM
  refine va_sld hx hb hX hbl hbA J.2 hz dL_law_221 ?_
  obtain ⟨p1, hv, hM⟩ := e_bs hM
  obtain ⟨fs_, hk, -⟩ := e_bs hv
  refine e_callV (ci := 8) (As := [.int (xs ((l3 + (nI 1))).toNatClampNeg)]) (rest := []) (n := 1) E J hk rfl (mX8_curve (l := l) (G := G) l1 (xs ((l3 + (nI 1))).toNatClampNeg) h _ hv) q_1_230 q_1_231 q_1_232 q_1_1 q_1_233 (by decide +kernel) rfl ⟨Nat.le_of_ble_eq_true rfl, Nat.le_of_ble_eq_true rfl⟩ (st0 := [.int (xs ((l3 + (nI 1))).toNatClampNeg), .ref (e_ad G l1)]) (st1 := [.int p1.1]) rfl rfl hl.1 (Nat.le_of_ble_eq_true rfl) dL_law_222 ⟨e_rcc (by omega), e_rcs (by omega)⟩ (fun H locs J => ?_)
  refine lv_aload_n hx hb dL_law_225 rfl (lv_at hl 2 rfl) ?_
  refine lv_aload_n hx hb dL_law_226 rfl (lv_at hl 0 rfl) ?_
  refine lv_iload_n hx hb dL_law_227 rfl (lv_at hl 3 rfl) ?_
  refine lv_iconst (v := nI 1) hx hb dL_law_228 (by decide) ?_
  refine lv_iadd hx hb dL_law_229 ?_
  obtain ⟨hz, hM⟩ := e_if0 hM
  refine va_sld hx hb hX hbl hbA J.2 hz dL_law_230 ?_
  obtain ⟨p2, hv, hM⟩ := e_bs hM
  obtain ⟨fs_, hk, -⟩ := e_bs hv
  refine e_callV (ci := 9) (As := [.int (xs ((l3 + (nI 1))).toNatClampNeg)]) (rest := [.int p1.1]) (n := 1) E J hk rfl (mX9_curve (l := l) (G := G) l2 (xs ((l3 + (nI 1))).toNatClampNeg) p1.2 _ hv) q_5_133 q_5_134 q_5_135 q_1_9 q_5_136 (by decide +kernel) rfl ⟨Nat.le_of_ble_eq_true rfl, Nat.le_of_ble_eq_true rfl⟩ (st0 := [.int (xs ((l3 + (nI 1))).toNatClampNeg), .ref (e_ad G l2), .int p1.1]) (st1 := [.int p2.1, .int p1.1]) rfl rfl hl.1 (Nat.le_of_ble_eq_true rfl) dL_law_231 ⟨e_rcc (by omega), e_rcs (by omega)⟩ (fun H locs J => ?_)
  refine lv_icmp_eq (tgt := 1685) hx hb dL_law_234 (by decide) (fun hc => ?_) (fun hc => ?_)
  · have hM := e_ip hc hM
    exact mL_law_b1685 E hX hbl hbA hbz K18 l1 l2 l3 p2.2 hM (by omega) (by omega) J (lv_sub hl [0, 1, 2, 3] rfl)
  · have hM := e_in hc hM
    refine lv_iconst (v := nI 0) hx hb dL_law_237 (by decide) ?_
    cases hM
set_option maxRecDepth 100000 in
set_option maxHeartbeats 4000000 in
theorem mL_law_b239 {p : Program} {l : Launch} {e : Env} {s : State} {m : MethodId} {below : List Frame} {meth : Method} {c : Code} {G : e_G} {L : Nat} {xs : Nat → Int32} {b : Nat} {k18 : Nat → Nat → Int32 → e_H → Option Bool} (E : e_M G p s #[Value.ref b] m meth c cL_law 4 ret RL) (hX : va_X b L xs s s.heap) (hbl : b < s.heap.size) (hbA : ¬ e_A G b) (hbz : G.2.2.1 = s.heap.size) {n9 : Nat} (K18 : ∀ (l1 : Nat) (l2 : Nat) (l3 : Int32) (h : e_H), k18 l1 l2 l3 h = some true → ∀ (cells slots : Nat), cells + (n9 * 2 + 2) ≤ 600000 → slots + (n9 * 99 + 99) ≤ 7302250 → ∀ (H : Heap) (locs : List Loc), e_J G s h H locs → ∀ (ls : Array Slot), lv_has ls 4 [(0, .ref b), (1, .ref (e_ad G l1)), (2, .ref (e_ad G l2)), (3, .int l3)] → W p l e room_1 s m #[Value.ref b] below meth c H locs cells slots (lw_Z below #[Value.ref b] s) (F0 m 18 ls [])) (l1 : Nat) (l2 : Nat) (l3 : Int32) (h : e_H) (hM : fL_law_b239 L xs k18 l1 l2 l3 h = some true) {cells slots : Nat} (hb1 : cells + 0 ≤ 600000) (hb2 : slots + 0 ≤ 7302250) (hb3 : cells + 0 + (n9 * 2 + 2) ≤ 600000) (hb4 : slots + 0 + (n9 * 99 + 99) ≤ 7302250) {H : Heap} {locs : List Loc} (J : e_J G s h H locs) {ls : Array Slot} (hl : lv_has ls 4 [(0, .ref b), (1, .ref (e_ad G l1)), (2, .ref (e_ad G l2)), (3, .int l3)]) : W p l e room_1 s m #[Value.ref b] below meth c H locs cells slots (lw_Z below #[Value.ref b] s) (F0 m 239 ls []) := by
  obtain ⟨hx, hb, hr, hml, hown, hts, hlocks, hES, hbs⟩ := id E
  unfold fL_law_b239 at hM
  refine lv_aload_n hx hb dL_law_239 rfl (lv_at hl 1 rfl) ?_
  refine lv_aload_n hx hb dL_law_240 rfl (lv_at hl 0 rfl) ?_
  refine lv_iload_n hx hb dL_law_241 rfl (lv_at hl 3 rfl) ?_
  refine lv_iconst (v := nI 1) hx hb dL_law_242 (by decide) ?_
  refine lv_iadd hx hb dL_law_243 ?_
  obtain ⟨hz, hM⟩ := e_if0 hM
  refine va_sld hx hb hX hbl hbA J.2 hz dL_law_244 ?_
  refine lv_aload_n hx hb dL_law_245 rfl (lv_at hl 0 rfl) ?_
  refine lv_iload_n hx hb dL_law_246 rfl (lv_at hl 3 rfl) ?_
  refine lv_iconst (v := nI 2) hx hb dL_law_247 (by decide) ?_
  refine lv_iadd hx hb dL_law_248 ?_
  obtain ⟨hz, hM⟩ := e_if0 hM
  refine va_sld hx hb hX hbl hbA J.2 hz dL_law_249 ?_
  refine lv_aload_n hx hb dL_law_250 rfl (lv_at hl 0 rfl) ?_
  refine lv_iload_n hx hb dL_law_251 rfl (lv_at hl 3 rfl) ?_
  refine lv_iconst (v := nI 3) hx hb dL_law_252 (by decide) ?_
  refine lv_iadd hx hb dL_law_253 ?_
  obtain ⟨hz, hM⟩ := e_if0 hM
  refine va_sld hx hb hX hbl hbA J.2 hz dL_law_254 ?_
  obtain ⟨p1, hv, hM⟩ := e_bs hM
  obtain ⟨fs_, hk, -⟩ := e_bs hv
  refine e_callV (ci := 8) (As := [.int (xs ((l3 + (nI 1))).toNatClampNeg), .int (xs ((l3 + (nI 2))).toNatClampNeg), .int (xs ((l3 + (nI 3))).toNatClampNeg)]) (rest := []) (n := 3) E J hk rfl (mX8_put (l := l) (G := G) l1 (xs ((l3 + (nI 1))).toNatClampNeg) (xs ((l3 + (nI 2))).toNatClampNeg) (xs ((l3 + (nI 3))).toNatClampNeg) h _ hv) q_2_10 q_2_11 q_2_12 q_1_1 q_2_13 (by decide +kernel) rfl ⟨Nat.le_of_ble_eq_true rfl, Nat.le_of_ble_eq_true rfl⟩ (st0 := [.int (xs ((l3 + (nI 3))).toNatClampNeg), .int (xs ((l3 + (nI 2))).toNatClampNeg), .int (xs ((l3 + (nI 1))).toNatClampNeg), .ref (e_ad G l1)]) (st1 := [.int p1.1]) rfl rfl hl.1 (Nat.le_of_ble_eq_true rfl) dL_law_255 ⟨e_rcc (by omega), e_rcs (by omega)⟩ (fun H locs J => ?_)
  refine lv_aload_n hx hb dL_law_258 rfl (lv_at hl 2 rfl) ?_
  refine lv_aload_n hx hb dL_law_259 rfl (lv_at hl 0 rfl) ?_
  refine lv_iload_n hx hb dL_law_260 rfl (lv_at hl 3 rfl) ?_
  refine lv_iconst (v := nI 1) hx hb dL_law_261 (by decide) ?_
  refine lv_iadd hx hb dL_law_262 ?_
  obtain ⟨hz, hM⟩ := e_if0 hM
  refine va_sld hx hb hX hbl hbA J.2 hz dL_law_263 ?_
  refine lv_aload_n hx hb dL_law_264 rfl (lv_at hl 0 rfl) ?_
  refine lv_iload_n hx hb dL_law_265 rfl (lv_at hl 3 rfl) ?_
  refine lv_iconst (v := nI 2) hx hb dL_law_266 (by decide) ?_
  refine lv_iadd hx hb dL_law_267 ?_
  obtain ⟨hz, hM⟩ := e_if0 hM
  refine va_sld hx hb hX hbl hbA J.2 hz dL_law_268 ?_
  refine lv_aload_n hx hb dL_law_269 rfl (lv_at hl 0 rfl) ?_
  refine lv_iload_n hx hb dL_law_270 rfl (lv_at hl 3 rfl) ?_
  refine lv_iconst (v := nI 3) hx hb dL_law_271 (by decide) ?_
  refine lv_iadd hx hb dL_law_272 ?_
  obtain ⟨hz, hM⟩ := e_if0 hM
  refine va_sld hx hb hX hbl hbA J.2 hz dL_law_273 ?_
  obtain ⟨p2, hv, hM⟩ := e_bs hM
  obtain ⟨fs_, hk, -⟩ := e_bs hv
  refine e_callV (ci := 9) (As := [.int (xs ((l3 + (nI 1))).toNatClampNeg), .int (xs ((l3 + (nI 2))).toNatClampNeg), .int (xs ((l3 + (nI 3))).toNatClampNeg)]) (rest := [.int p1.1]) (n := 3) E J hk rfl (mX9_put (l := l) (G := G) l2 (xs ((l3 + (nI 1))).toNatClampNeg) (xs ((l3 + (nI 2))).toNatClampNeg) (xs ((l3 + (nI 3))).toNatClampNeg) p1.2 _ hv) q_5_146 q_5_147 q_5_148 q_1_9 q_5_149 (by decide +kernel) rfl ⟨Nat.le_of_ble_eq_true rfl, Nat.le_of_ble_eq_true rfl⟩ (st0 := [.int (xs ((l3 + (nI 3))).toNatClampNeg), .int (xs ((l3 + (nI 2))).toNatClampNeg), .int (xs ((l3 + (nI 1))).toNatClampNeg), .ref (e_ad G l2), .int p1.1]) (st1 := [.int p2.1, .int p1.1]) rfl rfl hl.1 (Nat.le_of_ble_eq_true rfl) dL_law_274 ⟨e_rcc (by omega), e_rcs (by omega)⟩ (fun H locs J => ?_)
  refine lv_icmp_eq (tgt := 1685) hx hb dL_law_277 (by decide) (fun hc => ?_) (fun hc => ?_)
  · have hM := e_ip hc hM
    exact mL_law_b1685 E hX hbl hbA hbz K18 l1 l2 l3 p2.2 hM (by omega) (by omega) J (lv_sub hl [0, 1, 2, 3] rfl)
  · have hM := e_in hc hM
    refine lv_iconst (v := nI 0) hx hb dL_law_280 (by decide) ?_
    cases hM
set_option maxRecDepth 100000 in
set_option maxHeartbeats 4000000 in
theorem mL_law_b282 {p : Program} {l : Launch} {e : Env} {s : State} {m : MethodId} {below : List Frame} {meth : Method} {c : Code} {G : e_G} {L : Nat} {xs : Nat → Int32} {b : Nat} {k18 : Nat → Nat → Int32 → e_H → Option Bool} (E : e_M G p s #[Value.ref b] m meth c cL_law 4 ret RL) (hX : va_X b L xs s s.heap) (hbl : b < s.heap.size) (hbA : ¬ e_A G b) (hbz : G.2.2.1 = s.heap.size) {n9 : Nat} (K18 : ∀ (l1 : Nat) (l2 : Nat) (l3 : Int32) (h : e_H), k18 l1 l2 l3 h = some true → ∀ (cells slots : Nat), cells + (n9 * 2 + 2) ≤ 600000 → slots + (n9 * 99 + 99) ≤ 7302250 → ∀ (H : Heap) (locs : List Loc), e_J G s h H locs → ∀ (ls : Array Slot), lv_has ls 4 [(0, .ref b), (1, .ref (e_ad G l1)), (2, .ref (e_ad G l2)), (3, .int l3)] → W p l e room_1 s m #[Value.ref b] below meth c H locs cells slots (lw_Z below #[Value.ref b] s) (F0 m 18 ls [])) (l1 : Nat) (l2 : Nat) (l3 : Int32) (h : e_H) (hM : fL_law_b282 L xs k18 l1 l2 l3 h = some true) {cells slots : Nat} (hb1 : cells + 0 ≤ 600000) (hb2 : slots + 0 ≤ 7302250) (hb3 : cells + 0 + (n9 * 2 + 2) ≤ 600000) (hb4 : slots + 0 + (n9 * 99 + 99) ≤ 7302250) {H : Heap} {locs : List Loc} (J : e_J G s h H locs) {ls : Array Slot} (hl : lv_has ls 4 [(0, .ref b), (1, .ref (e_ad G l1)), (2, .ref (e_ad G l2)), (3, .int l3)]) : W p l e room_1 s m #[Value.ref b] below meth c H locs cells slots (lw_Z below #[Value.ref b] s) (F0 m 282 ls []) := by
  obtain ⟨hx, hb, hr, hml, hown, hts, hlocks, hES, hbs⟩ := id E
  unfold fL_law_b282 at hM
  refine lv_aload_n hx hb dL_law_282 rfl (lv_at hl 1 rfl) ?_
  refine lv_aload_n hx hb dL_law_283 rfl (lv_at hl 0 rfl) ?_
  refine lv_iload_n hx hb dL_law_284 rfl (lv_at hl 3 rfl) ?_
  refine lv_iconst (v := nI 1) hx hb dL_law_285 (by decide) ?_
  refine lv_iadd hx hb dL_law_286 ?_
  obtain ⟨hz, hM⟩ := e_if0 hM
  refine va_sld hx hb hX hbl hbA J.2 hz dL_law_287 ?_
  refine lv_aload_n hx hb dL_law_288 rfl (lv_at hl 0 rfl) ?_
  refine lv_iload_n hx hb dL_law_289 rfl (lv_at hl 3 rfl) ?_
  refine lv_iconst (v := nI 2) hx hb dL_law_290 (by decide) ?_
  refine lv_iadd hx hb dL_law_291 ?_
  obtain ⟨hz, hM⟩ := e_if0 hM
  refine va_sld hx hb hX hbl hbA J.2 hz dL_law_292 ?_
  refine lv_aload_n hx hb dL_law_293 rfl (lv_at hl 0 rfl) ?_
  refine lv_iload_n hx hb dL_law_294 rfl (lv_at hl 3 rfl) ?_
  refine lv_iconst (v := nI 3) hx hb dL_law_295 (by decide) ?_
  refine lv_iadd hx hb dL_law_296 ?_
  obtain ⟨hz, hM⟩ := e_if0 hM
  refine va_sld hx hb hX hbl hbA J.2 hz dL_law_297 ?_
  obtain ⟨p1, hv, hM⟩ := e_bs hM
  obtain ⟨fs_, hk, -⟩ := e_bs hv
  refine e_callV (ci := 8) (As := [.int (xs ((l3 + (nI 1))).toNatClampNeg), .int (xs ((l3 + (nI 2))).toNatClampNeg), .int (xs ((l3 + (nI 3))).toNatClampNeg)]) (rest := []) (n := 3) E J hk rfl (mX8_term (l := l) (G := G) l1 (xs ((l3 + (nI 1))).toNatClampNeg) (xs ((l3 + (nI 2))).toNatClampNeg) (xs ((l3 + (nI 3))).toNatClampNeg) h _ hv) q_2_31 q_2_32 q_2_33 q_1_1 q_2_34 (by decide +kernel) rfl ⟨Nat.le_of_ble_eq_true rfl, Nat.le_of_ble_eq_true rfl⟩ (st0 := [.int (xs ((l3 + (nI 3))).toNatClampNeg), .int (xs ((l3 + (nI 2))).toNatClampNeg), .int (xs ((l3 + (nI 1))).toNatClampNeg), .ref (e_ad G l1)]) (st1 := [.int p1.1]) rfl rfl hl.1 (Nat.le_of_ble_eq_true rfl) dL_law_298 ⟨e_rcc (by omega), e_rcs (by omega)⟩ (fun H locs J => ?_)
  refine lv_aload_n hx hb dL_law_301 rfl (lv_at hl 2 rfl) ?_
  refine lv_aload_n hx hb dL_law_302 rfl (lv_at hl 0 rfl) ?_
  refine lv_iload_n hx hb dL_law_303 rfl (lv_at hl 3 rfl) ?_
  refine lv_iconst (v := nI 1) hx hb dL_law_304 (by decide) ?_
  refine lv_iadd hx hb dL_law_305 ?_
  obtain ⟨hz, hM⟩ := e_if0 hM
  refine va_sld hx hb hX hbl hbA J.2 hz dL_law_306 ?_
  refine lv_aload_n hx hb dL_law_307 rfl (lv_at hl 0 rfl) ?_
  refine lv_iload_n hx hb dL_law_308 rfl (lv_at hl 3 rfl) ?_
  refine lv_iconst (v := nI 2) hx hb dL_law_309 (by decide) ?_
  refine lv_iadd hx hb dL_law_310 ?_
  obtain ⟨hz, hM⟩ := e_if0 hM
  refine va_sld hx hb hX hbl hbA J.2 hz dL_law_311 ?_
  refine lv_aload_n hx hb dL_law_312 rfl (lv_at hl 0 rfl) ?_
  refine lv_iload_n hx hb dL_law_313 rfl (lv_at hl 3 rfl) ?_
  refine lv_iconst (v := nI 3) hx hb dL_law_314 (by decide) ?_
  refine lv_iadd hx hb dL_law_315 ?_
  obtain ⟨hz, hM⟩ := e_if0 hM
  refine va_sld hx hb hX hbl hbA J.2 hz dL_law_316 ?_
  obtain ⟨p2, hv, hM⟩ := e_bs hM
  obtain ⟨fs_, hk, -⟩ := e_bs hv
  refine e_callV (ci := 9) (As := [.int (xs ((l3 + (nI 1))).toNatClampNeg), .int (xs ((l3 + (nI 2))).toNatClampNeg), .int (xs ((l3 + (nI 3))).toNatClampNeg)]) (rest := [.int p1.1]) (n := 3) E J hk rfl (mX9_term (l := l) (G := G) l2 (xs ((l3 + (nI 1))).toNatClampNeg) (xs ((l3 + (nI 2))).toNatClampNeg) (xs ((l3 + (nI 3))).toNatClampNeg) p1.2 _ hv) q_5_160 q_5_161 q_5_162 q_1_9 q_5_163 (by decide +kernel) rfl ⟨Nat.le_of_ble_eq_true rfl, Nat.le_of_ble_eq_true rfl⟩ (st0 := [.int (xs ((l3 + (nI 3))).toNatClampNeg), .int (xs ((l3 + (nI 2))).toNatClampNeg), .int (xs ((l3 + (nI 1))).toNatClampNeg), .ref (e_ad G l2), .int p1.1]) (st1 := [.int p2.1, .int p1.1]) rfl rfl hl.1 (Nat.le_of_ble_eq_true rfl) dL_law_317 ⟨e_rcc (by omega), e_rcs (by omega)⟩ (fun H locs J => ?_)
  refine lv_icmp_eq (tgt := 1685) hx hb dL_law_320 (by decide) (fun hc => ?_) (fun hc => ?_)
  · have hM := e_ip hc hM
    exact mL_law_b1685 E hX hbl hbA hbz K18 l1 l2 l3 p2.2 hM (by omega) (by omega) J (lv_sub hl [0, 1, 2, 3] rfl)
  · have hM := e_in hc hM
    refine lv_iconst (v := nI 0) hx hb dL_law_323 (by decide) ?_
    cases hM
set_option maxRecDepth 100000 in
set_option maxHeartbeats 4000000 in
theorem mL_law_b325 {p : Program} {l : Launch} {e : Env} {s : State} {m : MethodId} {below : List Frame} {meth : Method} {c : Code} {G : e_G} {L : Nat} {xs : Nat → Int32} {b : Nat} {k18 : Nat → Nat → Int32 → e_H → Option Bool} (E : e_M G p s #[Value.ref b] m meth c cL_law 4 ret RL) (hX : va_X b L xs s s.heap) (hbl : b < s.heap.size) (hbA : ¬ e_A G b) (hbz : G.2.2.1 = s.heap.size) {n9 : Nat} (K18 : ∀ (l1 : Nat) (l2 : Nat) (l3 : Int32) (h : e_H), k18 l1 l2 l3 h = some true → ∀ (cells slots : Nat), cells + (n9 * 2 + 2) ≤ 600000 → slots + (n9 * 99 + 99) ≤ 7302250 → ∀ (H : Heap) (locs : List Loc), e_J G s h H locs → ∀ (ls : Array Slot), lv_has ls 4 [(0, .ref b), (1, .ref (e_ad G l1)), (2, .ref (e_ad G l2)), (3, .int l3)] → W p l e room_1 s m #[Value.ref b] below meth c H locs cells slots (lw_Z below #[Value.ref b] s) (F0 m 18 ls [])) (l1 : Nat) (l2 : Nat) (l3 : Int32) (h : e_H) (hM : fL_law_b325 L xs k18 l1 l2 l3 h = some true) {cells slots : Nat} (hb1 : cells + 0 ≤ 600000) (hb2 : slots + 0 ≤ 7302250) (hb3 : cells + 0 + (n9 * 2 + 2) ≤ 600000) (hb4 : slots + 0 + (n9 * 99 + 99) ≤ 7302250) {H : Heap} {locs : List Loc} (J : e_J G s h H locs) {ls : Array Slot} (hl : lv_has ls 4 [(0, .ref b), (1, .ref (e_ad G l1)), (2, .ref (e_ad G l2)), (3, .int l3)]) : W p l e room_1 s m #[Value.ref b] below meth c H locs cells slots (lw_Z below #[Value.ref b] s) (F0 m 325 ls []) := by
  obtain ⟨hx, hb, hr, hml, hown, hts, hlocks, hES, hbs⟩ := id E
  unfold fL_law_b325 at hM
  refine lv_aload_n hx hb dL_law_325 rfl (lv_at hl 1 rfl) ?_
  refine lv_aload_n hx hb dL_law_326 rfl (lv_at hl 0 rfl) ?_
  refine lv_iload_n hx hb dL_law_327 rfl (lv_at hl 3 rfl) ?_
  refine lv_iconst (v := nI 1) hx hb dL_law_328 (by decide) ?_
  refine lv_iadd hx hb dL_law_329 ?_
  obtain ⟨hz, hM⟩ := e_if0 hM
  refine va_sld hx hb hX hbl hbA J.2 hz dL_law_330 ?_
  refine lv_aload_n hx hb dL_law_331 rfl (lv_at hl 0 rfl) ?_
  refine lv_iload_n hx hb dL_law_332 rfl (lv_at hl 3 rfl) ?_
  refine lv_iconst (v := nI 2) hx hb dL_law_333 (by decide) ?_
  refine lv_iadd hx hb dL_law_334 ?_
  obtain ⟨hz, hM⟩ := e_if0 hM
  refine va_sld hx hb hX hbl hbA J.2 hz dL_law_335 ?_
  obtain ⟨p1, hv, hM⟩ := e_bs hM
  obtain ⟨fs_, hk, -⟩ := e_bs hv
  refine e_callV (ci := 8) (As := [.int (xs ((l3 + (nI 1))).toNatClampNeg), .int (xs ((l3 + (nI 2))).toNatClampNeg)]) (rest := []) (n := 2) E J hk rfl (mX8_told (l := l) (G := G) l1 (xs ((l3 + (nI 1))).toNatClampNeg) (xs ((l3 + (nI 2))).toNatClampNeg) h _ hv) q_2_81 q_2_82 q_2_83 q_1_1 q_2_84 (by decide +kernel) rfl ⟨Nat.le_of_ble_eq_true rfl, Nat.le_of_ble_eq_true rfl⟩ (st0 := [.int (xs ((l3 + (nI 2))).toNatClampNeg), .int (xs ((l3 + (nI 1))).toNatClampNeg), .ref (e_ad G l1)]) (st1 := [.int p1.1]) rfl rfl hl.1 (Nat.le_of_ble_eq_true rfl) dL_law_336 ⟨e_rcc (by omega), e_rcs (by omega)⟩ (fun H locs J => ?_)
  refine lv_aload_n hx hb dL_law_339 rfl (lv_at hl 2 rfl) ?_
  refine lv_aload_n hx hb dL_law_340 rfl (lv_at hl 0 rfl) ?_
  refine lv_iload_n hx hb dL_law_341 rfl (lv_at hl 3 rfl) ?_
  refine lv_iconst (v := nI 1) hx hb dL_law_342 (by decide) ?_
  refine lv_iadd hx hb dL_law_343 ?_
  obtain ⟨hz, hM⟩ := e_if0 hM
  refine va_sld hx hb hX hbl hbA J.2 hz dL_law_344 ?_
  refine lv_aload_n hx hb dL_law_345 rfl (lv_at hl 0 rfl) ?_
  refine lv_iload_n hx hb dL_law_346 rfl (lv_at hl 3 rfl) ?_
  refine lv_iconst (v := nI 2) hx hb dL_law_347 (by decide) ?_
  refine lv_iadd hx hb dL_law_348 ?_
  obtain ⟨hz, hM⟩ := e_if0 hM
  refine va_sld hx hb hX hbl hbA J.2 hz dL_law_349 ?_
  obtain ⟨p2, hv, hM⟩ := e_bs hM
  obtain ⟨fs_, hk, -⟩ := e_bs hv
  refine e_callV (ci := 9) (As := [.int (xs ((l3 + (nI 1))).toNatClampNeg), .int (xs ((l3 + (nI 2))).toNatClampNeg)]) (rest := [.int p1.1]) (n := 2) E J hk rfl (mX9_told (l := l) (G := G) l2 (xs ((l3 + (nI 1))).toNatClampNeg) (xs ((l3 + (nI 2))).toNatClampNeg) p1.2 _ hv) q_5_190 q_5_191 q_5_192 q_1_9 q_5_193 (by decide +kernel) rfl ⟨Nat.le_of_ble_eq_true rfl, Nat.le_of_ble_eq_true rfl⟩ (st0 := [.int (xs ((l3 + (nI 2))).toNatClampNeg), .int (xs ((l3 + (nI 1))).toNatClampNeg), .ref (e_ad G l2), .int p1.1]) (st1 := [.int p2.1, .int p1.1]) rfl rfl hl.1 (Nat.le_of_ble_eq_true rfl) dL_law_350 ⟨e_rcc (by omega), e_rcs (by omega)⟩ (fun H locs J => ?_)
  refine lv_icmp_eq (tgt := 1685) hx hb dL_law_353 (by decide) (fun hc => ?_) (fun hc => ?_)
  · have hM := e_ip hc hM
    exact mL_law_b1685 E hX hbl hbA hbz K18 l1 l2 l3 p2.2 hM (by omega) (by omega) J (lv_sub hl [0, 1, 2, 3] rfl)
  · have hM := e_in hc hM
    refine lv_iconst (v := nI 0) hx hb dL_law_356 (by decide) ?_
    cases hM
set_option maxRecDepth 100000 in
set_option maxHeartbeats 4000000 in
theorem mL_law_b358 {p : Program} {l : Launch} {e : Env} {s : State} {m : MethodId} {below : List Frame} {meth : Method} {c : Code} {G : e_G} {L : Nat} {xs : Nat → Int32} {b : Nat} {k18 : Nat → Nat → Int32 → e_H → Option Bool} (E : e_M G p s #[Value.ref b] m meth c cL_law 4 ret RL) (hX : va_X b L xs s s.heap) (hbl : b < s.heap.size) (hbA : ¬ e_A G b) (hbz : G.2.2.1 = s.heap.size) {n9 : Nat} (K18 : ∀ (l1 : Nat) (l2 : Nat) (l3 : Int32) (h : e_H), k18 l1 l2 l3 h = some true → ∀ (cells slots : Nat), cells + (n9 * 2 + 2) ≤ 600000 → slots + (n9 * 99 + 99) ≤ 7302250 → ∀ (H : Heap) (locs : List Loc), e_J G s h H locs → ∀ (ls : Array Slot), lv_has ls 4 [(0, .ref b), (1, .ref (e_ad G l1)), (2, .ref (e_ad G l2)), (3, .int l3)] → W p l e room_1 s m #[Value.ref b] below meth c H locs cells slots (lw_Z below #[Value.ref b] s) (F0 m 18 ls [])) (l1 : Nat) (l2 : Nat) (l3 : Int32) (h : e_H) (hM : fL_law_b358 L xs k18 l1 l2 l3 h = some true) {cells slots : Nat} (hb1 : cells + 0 ≤ 600000) (hb2 : slots + 0 ≤ 7302250) (hb3 : cells + 0 + (n9 * 2 + 2) ≤ 600000) (hb4 : slots + 0 + (n9 * 99 + 99) ≤ 7302250) {H : Heap} {locs : List Loc} (J : e_J G s h H locs) {ls : Array Slot} (hl : lv_has ls 4 [(0, .ref b), (1, .ref (e_ad G l1)), (2, .ref (e_ad G l2)), (3, .int l3)]) : W p l e room_1 s m #[Value.ref b] below meth c H locs cells slots (lw_Z below #[Value.ref b] s) (F0 m 358 ls []) := by
  obtain ⟨hx, hb, hr, hml, hown, hts, hlocks, hES, hbs⟩ := id E
  unfold fL_law_b358 at hM
  refine lv_aload_n hx hb dL_law_358 rfl (lv_at hl 1 rfl) ?_
  refine lv_aload_n hx hb dL_law_359 rfl (lv_at hl 0 rfl) ?_
  refine lv_iload_n hx hb dL_law_360 rfl (lv_at hl 3 rfl) ?_
  refine lv_iconst (v := nI 1) hx hb dL_law_361 (by decide) ?_
  refine lv_iadd hx hb dL_law_362 ?_
  obtain ⟨hz, hM⟩ := e_if0 hM
  refine va_sld hx hb hX hbl hbA J.2 hz dL_law_363 ?_
  refine lv_aload_n hx hb dL_law_364 rfl (lv_at hl 0 rfl) ?_
  refine lv_iload_n hx hb dL_law_365 rfl (lv_at hl 3 rfl) ?_
  refine lv_iconst (v := nI 2) hx hb dL_law_366 (by decide) ?_
  refine lv_iadd hx hb dL_law_367 ?_
  obtain ⟨hz, hM⟩ := e_if0 hM
  refine va_sld hx hb hX hbl hbA J.2 hz dL_law_368 ?_
  obtain ⟨v1, hv, hM⟩ := e_bs hM
  obtain ⟨fs_, hk, -⟩ := e_bs hv
  refine e_callV (ci := 8) (As := [.int (xs ((l3 + (nI 1))).toNatClampNeg), .int (xs ((l3 + (nI 2))).toNatClampNeg)]) (rest := []) (n := 2) E J hk rfl (mX8_as (l := l) (G := G) l1 (xs ((l3 + (nI 1))).toNatClampNeg) (xs ((l3 + (nI 2))).toNatClampNeg) h _ hv) q_2_117 q_2_118 q_2_119 q_1_1 q_2_120 (by decide +kernel) rfl ⟨Nat.le_of_ble_eq_true rfl, Nat.le_of_ble_eq_true rfl⟩ (st0 := [.int (xs ((l3 + (nI 2))).toNatClampNeg), .int (xs ((l3 + (nI 1))).toNatClampNeg), .ref (e_ad G l1)]) (st1 := [.int v1]) rfl rfl hl.1 (Nat.le_of_ble_eq_true rfl) dL_law_369 ⟨e_rcc (by omega), e_rcs (by omega)⟩ (fun H locs J => ?_)
  refine lv_aload_n hx hb dL_law_372 rfl (lv_at hl 2 rfl) ?_
  refine lv_aload_n hx hb dL_law_373 rfl (lv_at hl 0 rfl) ?_
  refine lv_iload_n hx hb dL_law_374 rfl (lv_at hl 3 rfl) ?_
  refine lv_iconst (v := nI 1) hx hb dL_law_375 (by decide) ?_
  refine lv_iadd hx hb dL_law_376 ?_
  obtain ⟨hz, hM⟩ := e_if0 hM
  refine va_sld hx hb hX hbl hbA J.2 hz dL_law_377 ?_
  refine lv_aload_n hx hb dL_law_378 rfl (lv_at hl 0 rfl) ?_
  refine lv_iload_n hx hb dL_law_379 rfl (lv_at hl 3 rfl) ?_
  refine lv_iconst (v := nI 2) hx hb dL_law_380 (by decide) ?_
  refine lv_iadd hx hb dL_law_381 ?_
  obtain ⟨hz, hM⟩ := e_if0 hM
  refine va_sld hx hb hX hbl hbA J.2 hz dL_law_382 ?_
  obtain ⟨v2, hv, hM⟩ := e_bs hM
  obtain ⟨fs_, hk, -⟩ := e_bs hv
  refine e_callV (ci := 9) (As := [.int (xs ((l3 + (nI 1))).toNatClampNeg), .int (xs ((l3 + (nI 2))).toNatClampNeg)]) (rest := [.int v1]) (n := 2) E J hk rfl (mX9_as (l := l) (G := G) l2 (xs ((l3 + (nI 1))).toNatClampNeg) (xs ((l3 + (nI 2))).toNatClampNeg) h _ hv) q_5_210 q_5_211 q_5_212 q_1_9 q_5_213 (by decide +kernel) rfl ⟨Nat.le_of_ble_eq_true rfl, Nat.le_of_ble_eq_true rfl⟩ (st0 := [.int (xs ((l3 + (nI 2))).toNatClampNeg), .int (xs ((l3 + (nI 1))).toNatClampNeg), .ref (e_ad G l2), .int v1]) (st1 := [.int v2, .int v1]) rfl rfl hl.1 (Nat.le_of_ble_eq_true rfl) dL_law_383 ⟨e_rcc (by omega), e_rcs (by omega)⟩ (fun H locs J => ?_)
  refine lv_icmp_eq (tgt := 1685) hx hb dL_law_386 (by decide) (fun hc => ?_) (fun hc => ?_)
  · have hM := e_ip hc hM
    exact mL_law_b1685 E hX hbl hbA hbz K18 l1 l2 l3 h hM (by omega) (by omega) J (lv_sub hl [0, 1, 2, 3] rfl)
  · have hM := e_in hc hM
    refine lv_iconst (v := nI 0) hx hb dL_law_389 (by decide) ?_
    cases hM
set_option maxRecDepth 100000 in
set_option maxHeartbeats 4000000 in
theorem mL_law_b391 {p : Program} {l : Launch} {e : Env} {s : State} {m : MethodId} {below : List Frame} {meth : Method} {c : Code} {G : e_G} {L : Nat} {xs : Nat → Int32} {b : Nat} {k18 : Nat → Nat → Int32 → e_H → Option Bool} (E : e_M G p s #[Value.ref b] m meth c cL_law 4 ret RL) (hX : va_X b L xs s s.heap) (hbl : b < s.heap.size) (hbA : ¬ e_A G b) (hbz : G.2.2.1 = s.heap.size) {n9 : Nat} (K18 : ∀ (l1 : Nat) (l2 : Nat) (l3 : Int32) (h : e_H), k18 l1 l2 l3 h = some true → ∀ (cells slots : Nat), cells + (n9 * 2 + 2) ≤ 600000 → slots + (n9 * 99 + 99) ≤ 7302250 → ∀ (H : Heap) (locs : List Loc), e_J G s h H locs → ∀ (ls : Array Slot), lv_has ls 4 [(0, .ref b), (1, .ref (e_ad G l1)), (2, .ref (e_ad G l2)), (3, .int l3)] → W p l e room_1 s m #[Value.ref b] below meth c H locs cells slots (lw_Z below #[Value.ref b] s) (F0 m 18 ls [])) (l1 : Nat) (l2 : Nat) (l3 : Int32) (h : e_H) (hM : fL_law_b391 L xs k18 l1 l2 l3 h = some true) {cells slots : Nat} (hb1 : cells + 0 ≤ 600000) (hb2 : slots + 0 ≤ 7302250) (hb3 : cells + 0 + (n9 * 2 + 2) ≤ 600000) (hb4 : slots + 0 + (n9 * 99 + 99) ≤ 7302250) {H : Heap} {locs : List Loc} (J : e_J G s h H locs) {ls : Array Slot} (hl : lv_has ls 4 [(0, .ref b), (1, .ref (e_ad G l1)), (2, .ref (e_ad G l2)), (3, .int l3)]) : W p l e room_1 s m #[Value.ref b] below meth c H locs cells slots (lw_Z below #[Value.ref b] s) (F0 m 391 ls []) := by
  obtain ⟨hx, hb, hr, hml, hown, hts, hlocks, hES, hbs⟩ := id E
  unfold fL_law_b391 at hM
  refine lv_aload_n hx hb dL_law_391 rfl (lv_at hl 1 rfl) ?_
  refine lv_aload_n hx hb dL_law_392 rfl (lv_at hl 0 rfl) ?_
  refine lv_iload_n hx hb dL_law_393 rfl (lv_at hl 3 rfl) ?_
  refine lv_iconst (v := nI 1) hx hb dL_law_394 (by decide) ?_
  refine lv_iadd hx hb dL_law_395 ?_
  obtain ⟨hz, hM⟩ := e_if0 hM
  refine va_sld hx hb hX hbl hbA J.2 hz dL_law_396 ?_
  refine lv_aload_n hx hb dL_law_397 rfl (lv_at hl 0 rfl) ?_
  refine lv_iload_n hx hb dL_law_398 rfl (lv_at hl 3 rfl) ?_
  refine lv_iconst (v := nI 2) hx hb dL_law_399 (by decide) ?_
  refine lv_iadd hx hb dL_law_400 ?_
  obtain ⟨hz, hM⟩ := e_if0 hM
  refine va_sld hx hb hX hbl hbA J.2 hz dL_law_401 ?_
  obtain ⟨p1, hv, hM⟩ := e_bs hM
  obtain ⟨fs_, hk, -⟩ := e_bs hv
  refine e_callV (ci := 8) (As := [.int (xs ((l3 + (nI 1))).toNatClampNeg), .int (xs ((l3 + (nI 2))).toNatClampNeg)]) (rest := []) (n := 2) E J hk rfl (mX8_turns (l := l) (G := G) l1 (xs ((l3 + (nI 1))).toNatClampNeg) (xs ((l3 + (nI 2))).toNatClampNeg) h _ hv) q_2_124 q_2_125 q_2_126 q_1_1 q_2_127 (by decide +kernel) rfl ⟨Nat.le_of_ble_eq_true rfl, Nat.le_of_ble_eq_true rfl⟩ (st0 := [.int (xs ((l3 + (nI 2))).toNatClampNeg), .int (xs ((l3 + (nI 1))).toNatClampNeg), .ref (e_ad G l1)]) (st1 := [.int p1.1]) rfl rfl hl.1 (Nat.le_of_ble_eq_true rfl) dL_law_402 ⟨e_rcc (by omega), e_rcs (by omega)⟩ (fun H locs J => ?_)
  refine lv_aload_n hx hb dL_law_405 rfl (lv_at hl 2 rfl) ?_
  refine lv_aload_n hx hb dL_law_406 rfl (lv_at hl 0 rfl) ?_
  refine lv_iload_n hx hb dL_law_407 rfl (lv_at hl 3 rfl) ?_
  refine lv_iconst (v := nI 1) hx hb dL_law_408 (by decide) ?_
  refine lv_iadd hx hb dL_law_409 ?_
  obtain ⟨hz, hM⟩ := e_if0 hM
  refine va_sld hx hb hX hbl hbA J.2 hz dL_law_410 ?_
  refine lv_aload_n hx hb dL_law_411 rfl (lv_at hl 0 rfl) ?_
  refine lv_iload_n hx hb dL_law_412 rfl (lv_at hl 3 rfl) ?_
  refine lv_iconst (v := nI 2) hx hb dL_law_413 (by decide) ?_
  refine lv_iadd hx hb dL_law_414 ?_
  obtain ⟨hz, hM⟩ := e_if0 hM
  refine va_sld hx hb hX hbl hbA J.2 hz dL_law_415 ?_
  obtain ⟨p2, hv, hM⟩ := e_bs hM
  obtain ⟨fs_, hk, -⟩ := e_bs hv
  refine e_callV (ci := 9) (As := [.int (xs ((l3 + (nI 1))).toNatClampNeg), .int (xs ((l3 + (nI 2))).toNatClampNeg)]) (rest := [.int p1.1]) (n := 2) E J hk rfl (mX9_turns (l := l) (G := G) l2 (xs ((l3 + (nI 1))).toNatClampNeg) (xs ((l3 + (nI 2))).toNatClampNeg) p1.2 _ hv) q_5_218 q_5_219 q_5_220 q_1_9 q_5_221 (by decide +kernel) rfl ⟨Nat.le_of_ble_eq_true rfl, Nat.le_of_ble_eq_true rfl⟩ (st0 := [.int (xs ((l3 + (nI 2))).toNatClampNeg), .int (xs ((l3 + (nI 1))).toNatClampNeg), .ref (e_ad G l2), .int p1.1]) (st1 := [.int p2.1, .int p1.1]) rfl rfl hl.1 (Nat.le_of_ble_eq_true rfl) dL_law_416 ⟨e_rcc (by omega), e_rcs (by omega)⟩ (fun H locs J => ?_)
  refine lv_icmp_eq (tgt := 1685) hx hb dL_law_419 (by decide) (fun hc => ?_) (fun hc => ?_)
  · have hM := e_ip hc hM
    exact mL_law_b1685 E hX hbl hbA hbz K18 l1 l2 l3 p2.2 hM (by omega) (by omega) J (lv_sub hl [0, 1, 2, 3] rfl)
  · have hM := e_in hc hM
    refine lv_iconst (v := nI 0) hx hb dL_law_422 (by decide) ?_
    cases hM
set_option maxRecDepth 100000 in
set_option maxHeartbeats 4000000 in
theorem mL_law_b424 {p : Program} {l : Launch} {e : Env} {s : State} {m : MethodId} {below : List Frame} {meth : Method} {c : Code} {G : e_G} {L : Nat} {xs : Nat → Int32} {b : Nat} {k18 : Nat → Nat → Int32 → e_H → Option Bool} (E : e_M G p s #[Value.ref b] m meth c cL_law 4 ret RL) (hX : va_X b L xs s s.heap) (hbl : b < s.heap.size) (hbA : ¬ e_A G b) (hbz : G.2.2.1 = s.heap.size) {n9 : Nat} (K18 : ∀ (l1 : Nat) (l2 : Nat) (l3 : Int32) (h : e_H), k18 l1 l2 l3 h = some true → ∀ (cells slots : Nat), cells + (n9 * 2 + 2) ≤ 600000 → slots + (n9 * 99 + 99) ≤ 7302250 → ∀ (H : Heap) (locs : List Loc), e_J G s h H locs → ∀ (ls : Array Slot), lv_has ls 4 [(0, .ref b), (1, .ref (e_ad G l1)), (2, .ref (e_ad G l2)), (3, .int l3)] → W p l e room_1 s m #[Value.ref b] below meth c H locs cells slots (lw_Z below #[Value.ref b] s) (F0 m 18 ls [])) (l1 : Nat) (l2 : Nat) (l3 : Int32) (h : e_H) (hM : fL_law_b424 L xs k18 l1 l2 l3 h = some true) {cells slots : Nat} (hb1 : cells + 0 ≤ 600000) (hb2 : slots + 0 ≤ 7302250) (hb3 : cells + 0 + (n9 * 2 + 2) ≤ 600000) (hb4 : slots + 0 + (n9 * 99 + 99) ≤ 7302250) {H : Heap} {locs : List Loc} (J : e_J G s h H locs) {ls : Array Slot} (hl : lv_has ls 4 [(0, .ref b), (1, .ref (e_ad G l1)), (2, .ref (e_ad G l2)), (3, .int l3)]) : W p l e room_1 s m #[Value.ref b] below meth c H locs cells slots (lw_Z below #[Value.ref b] s) (F0 m 424 ls []) := by
  obtain ⟨hx, hb, hr, hml, hown, hts, hlocks, hES, hbs⟩ := id E
  unfold fL_law_b424 at hM
  refine lv_aload_n hx hb dL_law_424 rfl (lv_at hl 1 rfl) ?_
  refine lv_aload_n hx hb dL_law_425 rfl (lv_at hl 0 rfl) ?_
  refine lv_iload_n hx hb dL_law_426 rfl (lv_at hl 3 rfl) ?_
  refine lv_iconst (v := nI 1) hx hb dL_law_427 (by decide) ?_
  refine lv_iadd hx hb dL_law_428 ?_
  obtain ⟨hz, hM⟩ := e_if0 hM
  refine va_sld hx hb hX hbl hbA J.2 hz dL_law_429 ?_
  refine lv_aload_n hx hb dL_law_430 rfl (lv_at hl 0 rfl) ?_
  refine lv_iload_n hx hb dL_law_431 rfl (lv_at hl 3 rfl) ?_
  refine lv_iconst (v := nI 2) hx hb dL_law_432 (by decide) ?_
  refine lv_iadd hx hb dL_law_433 ?_
  obtain ⟨hz, hM⟩ := e_if0 hM
  refine va_sld hx hb hX hbl hbA J.2 hz dL_law_434 ?_
  refine lv_aload_n hx hb dL_law_435 rfl (lv_at hl 0 rfl) ?_
  refine lv_iload_n hx hb dL_law_436 rfl (lv_at hl 3 rfl) ?_
  refine lv_iconst (v := nI 3) hx hb dL_law_437 (by decide) ?_
  refine lv_iadd hx hb dL_law_438 ?_
  obtain ⟨hz, hM⟩ := e_if0 hM
  refine va_sld hx hb hX hbl hbA J.2 hz dL_law_439 ?_
  refine lv_aload_n hx hb dL_law_440 rfl (lv_at hl 0 rfl) ?_
  refine lv_iload_n hx hb dL_law_441 rfl (lv_at hl 3 rfl) ?_
  refine lv_iconst (v := nI 4) hx hb dL_law_442 (by decide) ?_
  refine lv_iadd hx hb dL_law_443 ?_
  obtain ⟨hz, hM⟩ := e_if0 hM
  refine va_sld hx hb hX hbl hbA J.2 hz dL_law_444 ?_
  obtain ⟨p1, hv, hM⟩ := e_bs hM
  obtain ⟨fs_, hk, -⟩ := e_bs hv
  refine e_callV (ci := 8) (As := [.int (xs ((l3 + (nI 1))).toNatClampNeg), .int (xs ((l3 + (nI 2))).toNatClampNeg), .int (xs ((l3 + (nI 3))).toNatClampNeg), .int (xs ((l3 + (nI 4))).toNatClampNeg)]) (rest := []) (n := 4) E J hk rfl (mX8_mix (l := l) (G := G) l1 (xs ((l3 + (nI 1))).toNatClampNeg) (xs ((l3 + (nI 2))).toNatClampNeg) (xs ((l3 + (nI 3))).toNatClampNeg) (xs ((l3 + (nI 4))).toNatClampNeg) h _ hv) q_2_128 q_2_129 q_2_130 q_1_1 q_2_131 (by decide +kernel) rfl ⟨Nat.le_of_ble_eq_true rfl, Nat.le_of_ble_eq_true rfl⟩ (st0 := [.int (xs ((l3 + (nI 4))).toNatClampNeg), .int (xs ((l3 + (nI 3))).toNatClampNeg), .int (xs ((l3 + (nI 2))).toNatClampNeg), .int (xs ((l3 + (nI 1))).toNatClampNeg), .ref (e_ad G l1)]) (st1 := [.int p1.1]) rfl rfl hl.1 (Nat.le_of_ble_eq_true rfl) dL_law_445 ⟨e_rcc (by omega), e_rcs (by omega)⟩ (fun H locs J => ?_)
  refine lv_aload_n hx hb dL_law_448 rfl (lv_at hl 2 rfl) ?_
  refine lv_aload_n hx hb dL_law_449 rfl (lv_at hl 0 rfl) ?_
  refine lv_iload_n hx hb dL_law_450 rfl (lv_at hl 3 rfl) ?_
  refine lv_iconst (v := nI 1) hx hb dL_law_451 (by decide) ?_
  refine lv_iadd hx hb dL_law_452 ?_
  obtain ⟨hz, hM⟩ := e_if0 hM
  refine va_sld hx hb hX hbl hbA J.2 hz dL_law_453 ?_
  refine lv_aload_n hx hb dL_law_454 rfl (lv_at hl 0 rfl) ?_
  refine lv_iload_n hx hb dL_law_455 rfl (lv_at hl 3 rfl) ?_
  refine lv_iconst (v := nI 2) hx hb dL_law_456 (by decide) ?_
  refine lv_iadd hx hb dL_law_457 ?_
  obtain ⟨hz, hM⟩ := e_if0 hM
  refine va_sld hx hb hX hbl hbA J.2 hz dL_law_458 ?_
  refine lv_aload_n hx hb dL_law_459 rfl (lv_at hl 0 rfl) ?_
  refine lv_iload_n hx hb dL_law_460 rfl (lv_at hl 3 rfl) ?_
  refine lv_iconst (v := nI 3) hx hb dL_law_461 (by decide) ?_
  refine lv_iadd hx hb dL_law_462 ?_
  obtain ⟨hz, hM⟩ := e_if0 hM
  refine va_sld hx hb hX hbl hbA J.2 hz dL_law_463 ?_
  refine lv_aload_n hx hb dL_law_464 rfl (lv_at hl 0 rfl) ?_
  refine lv_iload_n hx hb dL_law_465 rfl (lv_at hl 3 rfl) ?_
  refine lv_iconst (v := nI 4) hx hb dL_law_466 (by decide) ?_
  refine lv_iadd hx hb dL_law_467 ?_
  obtain ⟨hz, hM⟩ := e_if0 hM
  refine va_sld hx hb hX hbl hbA J.2 hz dL_law_468 ?_
  obtain ⟨p2, hv, hM⟩ := e_bs hM
  obtain ⟨fs_, hk, -⟩ := e_bs hv
  refine e_callV (ci := 9) (As := [.int (xs ((l3 + (nI 1))).toNatClampNeg), .int (xs ((l3 + (nI 2))).toNatClampNeg), .int (xs ((l3 + (nI 3))).toNatClampNeg), .int (xs ((l3 + (nI 4))).toNatClampNeg)]) (rest := [.int p1.1]) (n := 4) E J hk rfl (mX9_mix (l := l) (G := G) l2 (xs ((l3 + (nI 1))).toNatClampNeg) (xs ((l3 + (nI 2))).toNatClampNeg) (xs ((l3 + (nI 3))).toNatClampNeg) (xs ((l3 + (nI 4))).toNatClampNeg) p1.2 _ hv) q_5_222 q_5_223 q_5_224 q_1_9 q_5_225 (by decide +kernel) rfl ⟨Nat.le_of_ble_eq_true rfl, Nat.le_of_ble_eq_true rfl⟩ (st0 := [.int (xs ((l3 + (nI 4))).toNatClampNeg), .int (xs ((l3 + (nI 3))).toNatClampNeg), .int (xs ((l3 + (nI 2))).toNatClampNeg), .int (xs ((l3 + (nI 1))).toNatClampNeg), .ref (e_ad G l2), .int p1.1]) (st1 := [.int p2.1, .int p1.1]) rfl rfl hl.1 (Nat.le_of_ble_eq_true rfl) dL_law_469 ⟨e_rcc (by omega), e_rcs (by omega)⟩ (fun H locs J => ?_)
  refine lv_icmp_eq (tgt := 1685) hx hb dL_law_472 (by decide) (fun hc => ?_) (fun hc => ?_)
  · have hM := e_ip hc hM
    exact mL_law_b1685 E hX hbl hbA hbz K18 l1 l2 l3 p2.2 hM (by omega) (by omega) J (lv_sub hl [0, 1, 2, 3] rfl)
  · have hM := e_in hc hM
    refine lv_iconst (v := nI 0) hx hb dL_law_475 (by decide) ?_
    cases hM
set_option maxRecDepth 100000 in
set_option maxHeartbeats 4000000 in
theorem mL_law_b477 {p : Program} {l : Launch} {e : Env} {s : State} {m : MethodId} {below : List Frame} {meth : Method} {c : Code} {G : e_G} {L : Nat} {xs : Nat → Int32} {b : Nat} {k18 : Nat → Nat → Int32 → e_H → Option Bool} (E : e_M G p s #[Value.ref b] m meth c cL_law 4 ret RL) (hX : va_X b L xs s s.heap) (hbl : b < s.heap.size) (hbA : ¬ e_A G b) (hbz : G.2.2.1 = s.heap.size) {n9 : Nat} (K18 : ∀ (l1 : Nat) (l2 : Nat) (l3 : Int32) (h : e_H), k18 l1 l2 l3 h = some true → ∀ (cells slots : Nat), cells + (n9 * 2 + 2) ≤ 600000 → slots + (n9 * 99 + 99) ≤ 7302250 → ∀ (H : Heap) (locs : List Loc), e_J G s h H locs → ∀ (ls : Array Slot), lv_has ls 4 [(0, .ref b), (1, .ref (e_ad G l1)), (2, .ref (e_ad G l2)), (3, .int l3)] → W p l e room_1 s m #[Value.ref b] below meth c H locs cells slots (lw_Z below #[Value.ref b] s) (F0 m 18 ls [])) (l1 : Nat) (l2 : Nat) (l3 : Int32) (h : e_H) (hM : fL_law_b477 L xs k18 l1 l2 l3 h = some true) {cells slots : Nat} (hb1 : cells + 0 ≤ 600000) (hb2 : slots + 0 ≤ 7302250) (hb3 : cells + 0 + (n9 * 2 + 2) ≤ 600000) (hb4 : slots + 0 + (n9 * 99 + 99) ≤ 7302250) {H : Heap} {locs : List Loc} (J : e_J G s h H locs) {ls : Array Slot} (hl : lv_has ls 4 [(0, .ref b), (1, .ref (e_ad G l1)), (2, .ref (e_ad G l2)), (3, .int l3)]) : W p l e room_1 s m #[Value.ref b] below meth c H locs cells slots (lw_Z below #[Value.ref b] s) (F0 m 477 ls []) := by
  obtain ⟨hx, hb, hr, hml, hown, hts, hlocks, hES, hbs⟩ := id E
  unfold fL_law_b477 at hM
  refine lv_aload_n hx hb dL_law_477 rfl (lv_at hl 1 rfl) ?_
  refine lv_aload_n hx hb dL_law_478 rfl (lv_at hl 0 rfl) ?_
  refine lv_iload_n hx hb dL_law_479 rfl (lv_at hl 3 rfl) ?_
  refine lv_iconst (v := nI 1) hx hb dL_law_480 (by decide) ?_
  refine lv_iadd hx hb dL_law_481 ?_
  obtain ⟨hz, hM⟩ := e_if0 hM
  refine va_sld hx hb hX hbl hbA J.2 hz dL_law_482 ?_
  obtain ⟨p1, hv, hM⟩ := e_bs hM
  obtain ⟨fs_, hk, -⟩ := e_bs hv
  refine e_callV (ci := 8) (As := [.int (xs ((l3 + (nI 1))).toNatClampNeg)]) (rest := []) (n := 1) E J hk rfl (mX8_deal (l := l) (G := G) l1 (xs ((l3 + (nI 1))).toNatClampNeg) h _ hv) q_2_134 q_2_135 q_2_136 q_1_1 q_2_137 (by decide +kernel) rfl ⟨Nat.le_of_ble_eq_true rfl, Nat.le_of_ble_eq_true rfl⟩ (st0 := [.int (xs ((l3 + (nI 1))).toNatClampNeg), .ref (e_ad G l1)]) (st1 := [.int p1.1]) rfl rfl hl.1 (Nat.le_of_ble_eq_true rfl) dL_law_483 ⟨e_rcc (by omega), e_rcs (by omega)⟩ (fun H locs J => ?_)
  refine lv_aload_n hx hb dL_law_486 rfl (lv_at hl 2 rfl) ?_
  refine lv_aload_n hx hb dL_law_487 rfl (lv_at hl 0 rfl) ?_
  refine lv_iload_n hx hb dL_law_488 rfl (lv_at hl 3 rfl) ?_
  refine lv_iconst (v := nI 1) hx hb dL_law_489 (by decide) ?_
  refine lv_iadd hx hb dL_law_490 ?_
  obtain ⟨hz, hM⟩ := e_if0 hM
  refine va_sld hx hb hX hbl hbA J.2 hz dL_law_491 ?_
  obtain ⟨p2, hv, hM⟩ := e_bs hM
  obtain ⟨fs_, hk, -⟩ := e_bs hv
  refine e_callV (ci := 9) (As := [.int (xs ((l3 + (nI 1))).toNatClampNeg)]) (rest := [.int p1.1]) (n := 1) E J hk rfl (mX9_deal (l := l) (G := G) l2 (xs ((l3 + (nI 1))).toNatClampNeg) p1.2 _ hv) q_5_226 q_5_227 q_5_228 q_1_9 q_5_229 (by decide +kernel) rfl ⟨Nat.le_of_ble_eq_true rfl, Nat.le_of_ble_eq_true rfl⟩ (st0 := [.int (xs ((l3 + (nI 1))).toNatClampNeg), .ref (e_ad G l2), .int p1.1]) (st1 := [.int p2.1, .int p1.1]) rfl rfl hl.1 (Nat.le_of_ble_eq_true rfl) dL_law_492 ⟨e_rcc (by omega), e_rcs (by omega)⟩ (fun H locs J => ?_)
  refine lv_icmp_eq (tgt := 1685) hx hb dL_law_495 (by decide) (fun hc => ?_) (fun hc => ?_)
  · have hM := e_ip hc hM
    exact mL_law_b1685 E hX hbl hbA hbz K18 l1 l2 l3 p2.2 hM (by omega) (by omega) J (lv_sub hl [0, 1, 2, 3] rfl)
  · have hM := e_in hc hM
    refine lv_iconst (v := nI 0) hx hb dL_law_498 (by decide) ?_
    cases hM
set_option maxRecDepth 100000 in
set_option maxHeartbeats 4000000 in
theorem mL_law_b500 {p : Program} {l : Launch} {e : Env} {s : State} {m : MethodId} {below : List Frame} {meth : Method} {c : Code} {G : e_G} {L : Nat} {xs : Nat → Int32} {b : Nat} {k18 : Nat → Nat → Int32 → e_H → Option Bool} (E : e_M G p s #[Value.ref b] m meth c cL_law 4 ret RL) (hX : va_X b L xs s s.heap) (hbl : b < s.heap.size) (hbA : ¬ e_A G b) (hbz : G.2.2.1 = s.heap.size) {n9 : Nat} (K18 : ∀ (l1 : Nat) (l2 : Nat) (l3 : Int32) (h : e_H), k18 l1 l2 l3 h = some true → ∀ (cells slots : Nat), cells + (n9 * 2 + 2) ≤ 600000 → slots + (n9 * 99 + 99) ≤ 7302250 → ∀ (H : Heap) (locs : List Loc), e_J G s h H locs → ∀ (ls : Array Slot), lv_has ls 4 [(0, .ref b), (1, .ref (e_ad G l1)), (2, .ref (e_ad G l2)), (3, .int l3)] → W p l e room_1 s m #[Value.ref b] below meth c H locs cells slots (lw_Z below #[Value.ref b] s) (F0 m 18 ls [])) (l1 : Nat) (l2 : Nat) (l3 : Int32) (h : e_H) (hM : fL_law_b500 L xs k18 l1 l2 l3 h = some true) {cells slots : Nat} (hb1 : cells + 0 ≤ 600000) (hb2 : slots + 0 ≤ 7302250) (hb3 : cells + 0 + (n9 * 2 + 2) ≤ 600000) (hb4 : slots + 0 + (n9 * 99 + 99) ≤ 7302250) {H : Heap} {locs : List Loc} (J : e_J G s h H locs) {ls : Array Slot} (hl : lv_has ls 4 [(0, .ref b), (1, .ref (e_ad G l1)), (2, .ref (e_ad G l2)), (3, .int l3)]) : W p l e room_1 s m #[Value.ref b] below meth c H locs cells slots (lw_Z below #[Value.ref b] s) (F0 m 500 ls []) := by
  obtain ⟨hx, hb, hr, hml, hown, hts, hlocks, hES, hbs⟩ := id E
  unfold fL_law_b500 at hM
  refine lv_aload_n hx hb dL_law_500 rfl (lv_at hl 1 rfl) ?_
  refine lv_aload_n hx hb dL_law_501 rfl (lv_at hl 0 rfl) ?_
  refine lv_iload_n hx hb dL_law_502 rfl (lv_at hl 3 rfl) ?_
  refine lv_iconst (v := nI 1) hx hb dL_law_503 (by decide) ?_
  refine lv_iadd hx hb dL_law_504 ?_
  obtain ⟨hz, hM⟩ := e_if0 hM
  refine va_sld hx hb hX hbl hbA J.2 hz dL_law_505 ?_
  obtain ⟨p1, hv, hM⟩ := e_bs hM
  obtain ⟨fs_, hk, -⟩ := e_bs hv
  refine e_callV (ci := 8) (As := [.int (xs ((l3 + (nI 1))).toNatClampNeg)]) (rest := []) (n := 1) E J hk rfl (mX8_seed (l := l) (G := G) l1 (xs ((l3 + (nI 1))).toNatClampNeg) h _ hv) q_2_144 q_2_145 q_2_146 q_1_1 q_2_147 (by decide +kernel) rfl ⟨Nat.le_of_ble_eq_true rfl, Nat.le_of_ble_eq_true rfl⟩ (st0 := [.int (xs ((l3 + (nI 1))).toNatClampNeg), .ref (e_ad G l1)]) (st1 := [.int p1.1]) rfl rfl hl.1 (Nat.le_of_ble_eq_true rfl) dL_law_506 ⟨e_rcc (by omega), e_rcs (by omega)⟩ (fun H locs J => ?_)
  refine lv_aload_n hx hb dL_law_509 rfl (lv_at hl 2 rfl) ?_
  refine lv_aload_n hx hb dL_law_510 rfl (lv_at hl 0 rfl) ?_
  refine lv_iload_n hx hb dL_law_511 rfl (lv_at hl 3 rfl) ?_
  refine lv_iconst (v := nI 1) hx hb dL_law_512 (by decide) ?_
  refine lv_iadd hx hb dL_law_513 ?_
  obtain ⟨hz, hM⟩ := e_if0 hM
  refine va_sld hx hb hX hbl hbA J.2 hz dL_law_514 ?_
  obtain ⟨p2, hv, hM⟩ := e_bs hM
  obtain ⟨fs_, hk, -⟩ := e_bs hv
  refine e_callV (ci := 9) (As := [.int (xs ((l3 + (nI 1))).toNatClampNeg)]) (rest := [.int p1.1]) (n := 1) E J hk rfl (mX9_seed (l := l) (G := G) l2 (xs ((l3 + (nI 1))).toNatClampNeg) p1.2 _ hv) q_5_235 q_5_236 q_5_237 q_1_9 q_5_238 (by decide +kernel) rfl ⟨Nat.le_of_ble_eq_true rfl, Nat.le_of_ble_eq_true rfl⟩ (st0 := [.int (xs ((l3 + (nI 1))).toNatClampNeg), .ref (e_ad G l2), .int p1.1]) (st1 := [.int p2.1, .int p1.1]) rfl rfl hl.1 (Nat.le_of_ble_eq_true rfl) dL_law_515 ⟨e_rcc (by omega), e_rcs (by omega)⟩ (fun H locs J => ?_)
  refine lv_icmp_eq (tgt := 1685) hx hb dL_law_518 (by decide) (fun hc => ?_) (fun hc => ?_)
  · have hM := e_ip hc hM
    exact mL_law_b1685 E hX hbl hbA hbz K18 l1 l2 l3 p2.2 hM (by omega) (by omega) J (lv_sub hl [0, 1, 2, 3] rfl)
  · have hM := e_in hc hM
    refine lv_iconst (v := nI 0) hx hb dL_law_521 (by decide) ?_
    cases hM
set_option maxRecDepth 100000 in
set_option maxHeartbeats 4000000 in
theorem mL_law_b523 {p : Program} {l : Launch} {e : Env} {s : State} {m : MethodId} {below : List Frame} {meth : Method} {c : Code} {G : e_G} {L : Nat} {xs : Nat → Int32} {b : Nat} {k18 : Nat → Nat → Int32 → e_H → Option Bool} (E : e_M G p s #[Value.ref b] m meth c cL_law 4 ret RL) (hX : va_X b L xs s s.heap) (hbl : b < s.heap.size) (hbA : ¬ e_A G b) (hbz : G.2.2.1 = s.heap.size) {n9 : Nat} (K18 : ∀ (l1 : Nat) (l2 : Nat) (l3 : Int32) (h : e_H), k18 l1 l2 l3 h = some true → ∀ (cells slots : Nat), cells + (n9 * 2 + 2) ≤ 600000 → slots + (n9 * 99 + 99) ≤ 7302250 → ∀ (H : Heap) (locs : List Loc), e_J G s h H locs → ∀ (ls : Array Slot), lv_has ls 4 [(0, .ref b), (1, .ref (e_ad G l1)), (2, .ref (e_ad G l2)), (3, .int l3)] → W p l e room_1 s m #[Value.ref b] below meth c H locs cells slots (lw_Z below #[Value.ref b] s) (F0 m 18 ls [])) (l1 : Nat) (l2 : Nat) (l3 : Int32) (h : e_H) (hM : fL_law_b523 L xs k18 l1 l2 l3 h = some true) {cells slots : Nat} (hb1 : cells + 0 ≤ 600000) (hb2 : slots + 0 ≤ 7302250) (hb3 : cells + 0 + (n9 * 2 + 2) ≤ 600000) (hb4 : slots + 0 + (n9 * 99 + 99) ≤ 7302250) {H : Heap} {locs : List Loc} (J : e_J G s h H locs) {ls : Array Slot} (hl : lv_has ls 4 [(0, .ref b), (1, .ref (e_ad G l1)), (2, .ref (e_ad G l2)), (3, .int l3)]) : W p l e room_1 s m #[Value.ref b] below meth c H locs cells slots (lw_Z below #[Value.ref b] s) (F0 m 523 ls []) := by
  obtain ⟨hx, hb, hr, hml, hown, hts, hlocks, hES, hbs⟩ := id E
  unfold fL_law_b523 at hM
  refine lv_aload_n hx hb dL_law_523 rfl (lv_at hl 1 rfl) ?_
  refine lv_aload_n hx hb dL_law_524 rfl (lv_at hl 0 rfl) ?_
  refine lv_iload_n hx hb dL_law_525 rfl (lv_at hl 3 rfl) ?_
  refine lv_iconst (v := nI 1) hx hb dL_law_526 (by decide) ?_
  refine lv_iadd hx hb dL_law_527 ?_
  obtain ⟨hz, hM⟩ := e_if0 hM
  refine va_sld hx hb hX hbl hbA J.2 hz dL_law_528 ?_
  refine lv_aload_n hx hb dL_law_529 rfl (lv_at hl 0 rfl) ?_
  refine lv_iload_n hx hb dL_law_530 rfl (lv_at hl 3 rfl) ?_
  refine lv_iconst (v := nI 2) hx hb dL_law_531 (by decide) ?_
  refine lv_iadd hx hb dL_law_532 ?_
  obtain ⟨hz, hM⟩ := e_if0 hM
  refine va_sld hx hb hX hbl hbA J.2 hz dL_law_533 ?_
  refine lv_aload_n hx hb dL_law_534 rfl (lv_at hl 0 rfl) ?_
  refine lv_iload_n hx hb dL_law_535 rfl (lv_at hl 3 rfl) ?_
  refine lv_iconst (v := nI 3) hx hb dL_law_536 (by decide) ?_
  refine lv_iadd hx hb dL_law_537 ?_
  obtain ⟨hz, hM⟩ := e_if0 hM
  refine va_sld hx hb hX hbl hbA J.2 hz dL_law_538 ?_
  obtain ⟨p1, hv, hM⟩ := e_bs hM
  obtain ⟨fs_, hk, -⟩ := e_bs hv
  refine e_callV (ci := 8) (As := [.int (xs ((l3 + (nI 1))).toNatClampNeg), .int (xs ((l3 + (nI 2))).toNatClampNeg), .int (xs ((l3 + (nI 3))).toNatClampNeg)]) (rest := []) (n := 3) E J hk rfl (mX8_value (l := l) (G := G) l1 (xs ((l3 + (nI 1))).toNatClampNeg) (xs ((l3 + (nI 2))).toNatClampNeg) (xs ((l3 + (nI 3))).toNatClampNeg) h _ hv) q_2_148 q_2_149 q_2_150 q_1_1 q_2_151 (by decide +kernel) rfl ⟨Nat.le_of_ble_eq_true rfl, Nat.le_of_ble_eq_true rfl⟩ (st0 := [.int (xs ((l3 + (nI 3))).toNatClampNeg), .int (xs ((l3 + (nI 2))).toNatClampNeg), .int (xs ((l3 + (nI 1))).toNatClampNeg), .ref (e_ad G l1)]) (st1 := [.long p1.1]) rfl rfl hl.1 (Nat.le_of_ble_eq_true rfl) dL_law_539 ⟨e_rcc (by omega), e_rcs (by omega)⟩ (fun H locs J => ?_)
  refine lv_aload_n hx hb dL_law_542 rfl (lv_at hl 2 rfl) ?_
  refine lv_aload_n hx hb dL_law_543 rfl (lv_at hl 0 rfl) ?_
  refine lv_iload_n hx hb dL_law_544 rfl (lv_at hl 3 rfl) ?_
  refine lv_iconst (v := nI 1) hx hb dL_law_545 (by decide) ?_
  refine lv_iadd hx hb dL_law_546 ?_
  obtain ⟨hz, hM⟩ := e_if0 hM
  refine va_sld hx hb hX hbl hbA J.2 hz dL_law_547 ?_
  refine lv_aload_n hx hb dL_law_548 rfl (lv_at hl 0 rfl) ?_
  refine lv_iload_n hx hb dL_law_549 rfl (lv_at hl 3 rfl) ?_
  refine lv_iconst (v := nI 2) hx hb dL_law_550 (by decide) ?_
  refine lv_iadd hx hb dL_law_551 ?_
  obtain ⟨hz, hM⟩ := e_if0 hM
  refine va_sld hx hb hX hbl hbA J.2 hz dL_law_552 ?_
  refine lv_aload_n hx hb dL_law_553 rfl (lv_at hl 0 rfl) ?_
  refine lv_iload_n hx hb dL_law_554 rfl (lv_at hl 3 rfl) ?_
  refine lv_iconst (v := nI 3) hx hb dL_law_555 (by decide) ?_
  refine lv_iadd hx hb dL_law_556 ?_
  obtain ⟨hz, hM⟩ := e_if0 hM
  refine va_sld hx hb hX hbl hbA J.2 hz dL_law_557 ?_
  obtain ⟨p2, hv, hM⟩ := e_bs hM
  obtain ⟨fs_, hk, -⟩ := e_bs hv
  refine e_callV (ci := 9) (As := [.int (xs ((l3 + (nI 1))).toNatClampNeg), .int (xs ((l3 + (nI 2))).toNatClampNeg), .int (xs ((l3 + (nI 3))).toNatClampNeg)]) (rest := [.long p1.1]) (n := 3) E J hk rfl (mX9_value (l := l) (G := G) l2 (xs ((l3 + (nI 1))).toNatClampNeg) (xs ((l3 + (nI 2))).toNatClampNeg) (xs ((l3 + (nI 3))).toNatClampNeg) p1.2 _ hv) q_5_239 q_6_0 q_6_1 q_1_9 q_6_2 (by decide +kernel) rfl ⟨Nat.le_of_ble_eq_true rfl, Nat.le_of_ble_eq_true rfl⟩ (st0 := [.int (xs ((l3 + (nI 3))).toNatClampNeg), .int (xs ((l3 + (nI 2))).toNatClampNeg), .int (xs ((l3 + (nI 1))).toNatClampNeg), .ref (e_ad G l2), .long p1.1]) (st1 := [.long p2.1, .long p1.1]) rfl rfl hl.1 (Nat.le_of_ble_eq_true rfl) dL_law_558 ⟨e_rcc (by omega), e_rcs (by omega)⟩ (fun H locs J => ?_)
  refine W.lcmp hx hb dL_law_561 ?_
  refine lv_if_eq (tgt := 1685) hx hb dL_law_562 (by decide) (fun hc => ?_) (fun hc => ?_)
  · have hM := e_ip hc hM
    exact mL_law_b1685 E hX hbl hbA hbz K18 l1 l2 l3 p2.2 hM (by omega) (by omega) J (lv_sub hl [0, 1, 2, 3] rfl)
  · have hM := e_in hc hM
    refine lv_iconst (v := nI 0) hx hb dL_law_565 (by decide) ?_
    cases hM
set_option maxRecDepth 100000 in
set_option maxHeartbeats 4000000 in
theorem mL_law_b567 {p : Program} {l : Launch} {e : Env} {s : State} {m : MethodId} {below : List Frame} {meth : Method} {c : Code} {G : e_G} {L : Nat} {xs : Nat → Int32} {b : Nat} {k18 : Nat → Nat → Int32 → e_H → Option Bool} (E : e_M G p s #[Value.ref b] m meth c cL_law 4 ret RL) (hX : va_X b L xs s s.heap) (hbl : b < s.heap.size) (hbA : ¬ e_A G b) (hbz : G.2.2.1 = s.heap.size) {n9 : Nat} (K18 : ∀ (l1 : Nat) (l2 : Nat) (l3 : Int32) (h : e_H), k18 l1 l2 l3 h = some true → ∀ (cells slots : Nat), cells + (n9 * 2 + 2) ≤ 600000 → slots + (n9 * 99 + 99) ≤ 7302250 → ∀ (H : Heap) (locs : List Loc), e_J G s h H locs → ∀ (ls : Array Slot), lv_has ls 4 [(0, .ref b), (1, .ref (e_ad G l1)), (2, .ref (e_ad G l2)), (3, .int l3)] → W p l e room_1 s m #[Value.ref b] below meth c H locs cells slots (lw_Z below #[Value.ref b] s) (F0 m 18 ls [])) (l1 : Nat) (l2 : Nat) (l3 : Int32) (h : e_H) (hM : fL_law_b567 L xs k18 l1 l2 l3 h = some true) {cells slots : Nat} (hb1 : cells + 0 ≤ 600000) (hb2 : slots + 0 ≤ 7302250) (hb3 : cells + 0 + (n9 * 2 + 2) ≤ 600000) (hb4 : slots + 0 + (n9 * 99 + 99) ≤ 7302250) {H : Heap} {locs : List Loc} (J : e_J G s h H locs) {ls : Array Slot} (hl : lv_has ls 4 [(0, .ref b), (1, .ref (e_ad G l1)), (2, .ref (e_ad G l2)), (3, .int l3)]) : W p l e room_1 s m #[Value.ref b] below meth c H locs cells slots (lw_Z below #[Value.ref b] s) (F0 m 567 ls []) := by
  obtain ⟨hx, hb, hr, hml, hown, hts, hlocks, hES, hbs⟩ := id E
  unfold fL_law_b567 at hM
  refine lv_aload_n hx hb dL_law_567 rfl (lv_at hl 1 rfl) ?_
  refine lv_aload_n hx hb dL_law_568 rfl (lv_at hl 0 rfl) ?_
  refine lv_iload_n hx hb dL_law_569 rfl (lv_at hl 3 rfl) ?_
  refine lv_iconst (v := nI 1) hx hb dL_law_570 (by decide) ?_
  refine lv_iadd hx hb dL_law_571 ?_
  obtain ⟨hz, hM⟩ := e_if0 hM
  refine va_sld hx hb hX hbl hbA J.2 hz dL_law_572 ?_
  refine lv_aload_n hx hb dL_law_573 rfl (lv_at hl 0 rfl) ?_
  refine lv_iload_n hx hb dL_law_574 rfl (lv_at hl 3 rfl) ?_
  refine lv_iconst (v := nI 2) hx hb dL_law_575 (by decide) ?_
  refine lv_iadd hx hb dL_law_576 ?_
  obtain ⟨hz, hM⟩ := e_if0 hM
  refine va_sld hx hb hX hbl hbA J.2 hz dL_law_577 ?_
  obtain ⟨p1, hv, hM⟩ := e_bs hM
  obtain ⟨fs_, hk, -⟩ := e_bs hv
  refine e_callV (ci := 8) (As := [.int (xs ((l3 + (nI 1))).toNatClampNeg), .int (xs ((l3 + (nI 2))).toNatClampNeg)]) (rest := []) (n := 2) E J hk rfl (mX8_times (l := l) (G := G) l1 (xs ((l3 + (nI 1))).toNatClampNeg) (xs ((l3 + (nI 2))).toNatClampNeg) h _ hv) q_2_157 q_2_158 q_2_159 q_1_1 q_2_160 (by decide +kernel) rfl ⟨Nat.le_of_ble_eq_true rfl, Nat.le_of_ble_eq_true rfl⟩ (st0 := [.int (xs ((l3 + (nI 2))).toNatClampNeg), .int (xs ((l3 + (nI 1))).toNatClampNeg), .ref (e_ad G l1)]) (st1 := [.int p1.1]) rfl rfl hl.1 (Nat.le_of_ble_eq_true rfl) dL_law_578 ⟨e_rcc (by omega), e_rcs (by omega)⟩ (fun H locs J => ?_)
  refine lv_aload_n hx hb dL_law_581 rfl (lv_at hl 2 rfl) ?_
  refine lv_aload_n hx hb dL_law_582 rfl (lv_at hl 0 rfl) ?_
  refine lv_iload_n hx hb dL_law_583 rfl (lv_at hl 3 rfl) ?_
  refine lv_iconst (v := nI 1) hx hb dL_law_584 (by decide) ?_
  refine lv_iadd hx hb dL_law_585 ?_
  obtain ⟨hz, hM⟩ := e_if0 hM
  refine va_sld hx hb hX hbl hbA J.2 hz dL_law_586 ?_
  refine lv_aload_n hx hb dL_law_587 rfl (lv_at hl 0 rfl) ?_
  refine lv_iload_n hx hb dL_law_588 rfl (lv_at hl 3 rfl) ?_
  refine lv_iconst (v := nI 2) hx hb dL_law_589 (by decide) ?_
  refine lv_iadd hx hb dL_law_590 ?_
  obtain ⟨hz, hM⟩ := e_if0 hM
  refine va_sld hx hb hX hbl hbA J.2 hz dL_law_591 ?_
  obtain ⟨p2, hv, hM⟩ := e_bs hM
  obtain ⟨fs_, hk, -⟩ := e_bs hv
  refine e_callV (ci := 9) (As := [.int (xs ((l3 + (nI 1))).toNatClampNeg), .int (xs ((l3 + (nI 2))).toNatClampNeg)]) (rest := [.int p1.1]) (n := 2) E J hk rfl (mX9_times (l := l) (G := G) l2 (xs ((l3 + (nI 1))).toNatClampNeg) (xs ((l3 + (nI 2))).toNatClampNeg) p1.2 _ hv) q_6_7 q_6_8 q_6_9 q_1_9 q_6_10 (by decide +kernel) rfl ⟨Nat.le_of_ble_eq_true rfl, Nat.le_of_ble_eq_true rfl⟩ (st0 := [.int (xs ((l3 + (nI 2))).toNatClampNeg), .int (xs ((l3 + (nI 1))).toNatClampNeg), .ref (e_ad G l2), .int p1.1]) (st1 := [.int p2.1, .int p1.1]) rfl rfl hl.1 (Nat.le_of_ble_eq_true rfl) dL_law_592 ⟨e_rcc (by omega), e_rcs (by omega)⟩ (fun H locs J => ?_)
  refine lv_icmp_eq (tgt := 1685) hx hb dL_law_595 (by decide) (fun hc => ?_) (fun hc => ?_)
  · have hM := e_ip hc hM
    exact mL_law_b1685 E hX hbl hbA hbz K18 l1 l2 l3 p2.2 hM (by omega) (by omega) J (lv_sub hl [0, 1, 2, 3] rfl)
  · have hM := e_in hc hM
    refine lv_iconst (v := nI 0) hx hb dL_law_598 (by decide) ?_
    cases hM
set_option maxRecDepth 100000 in
set_option maxHeartbeats 4000000 in
theorem mL_law_b600 {p : Program} {l : Launch} {e : Env} {s : State} {m : MethodId} {below : List Frame} {meth : Method} {c : Code} {G : e_G} {L : Nat} {xs : Nat → Int32} {b : Nat} {k18 : Nat → Nat → Int32 → e_H → Option Bool} (E : e_M G p s #[Value.ref b] m meth c cL_law 4 ret RL) (hX : va_X b L xs s s.heap) (hbl : b < s.heap.size) (hbA : ¬ e_A G b) (hbz : G.2.2.1 = s.heap.size) {n9 : Nat} (K18 : ∀ (l1 : Nat) (l2 : Nat) (l3 : Int32) (h : e_H), k18 l1 l2 l3 h = some true → ∀ (cells slots : Nat), cells + (n9 * 2 + 2) ≤ 600000 → slots + (n9 * 99 + 99) ≤ 7302250 → ∀ (H : Heap) (locs : List Loc), e_J G s h H locs → ∀ (ls : Array Slot), lv_has ls 4 [(0, .ref b), (1, .ref (e_ad G l1)), (2, .ref (e_ad G l2)), (3, .int l3)] → W p l e room_1 s m #[Value.ref b] below meth c H locs cells slots (lw_Z below #[Value.ref b] s) (F0 m 18 ls [])) (l1 : Nat) (l2 : Nat) (l3 : Int32) (h : e_H) (hM : fL_law_b600 L xs k18 l1 l2 l3 h = some true) {cells slots : Nat} (hb1 : cells + 0 ≤ 600000) (hb2 : slots + 0 ≤ 7302250) (hb3 : cells + 0 + (n9 * 2 + 2) ≤ 600000) (hb4 : slots + 0 + (n9 * 99 + 99) ≤ 7302250) {H : Heap} {locs : List Loc} (J : e_J G s h H locs) {ls : Array Slot} (hl : lv_has ls 4 [(0, .ref b), (1, .ref (e_ad G l1)), (2, .ref (e_ad G l2)), (3, .int l3)]) : W p l e room_1 s m #[Value.ref b] below meth c H locs cells slots (lw_Z below #[Value.ref b] s) (F0 m 600 ls []) := by
  obtain ⟨hx, hb, hr, hml, hown, hts, hlocks, hES, hbs⟩ := id E
  unfold fL_law_b600 at hM
  refine lv_aload_n hx hb dL_law_600 rfl (lv_at hl 1 rfl) ?_
  refine lv_aload_n hx hb dL_law_601 rfl (lv_at hl 0 rfl) ?_
  refine lv_iload_n hx hb dL_law_602 rfl (lv_at hl 3 rfl) ?_
  refine lv_iconst (v := nI 1) hx hb dL_law_603 (by decide) ?_
  refine lv_iadd hx hb dL_law_604 ?_
  obtain ⟨hz, hM⟩ := e_if0 hM
  refine va_sld hx hb hX hbl hbA J.2 hz dL_law_605 ?_
  refine lv_aload_n hx hb dL_law_606 rfl (lv_at hl 0 rfl) ?_
  refine lv_iload_n hx hb dL_law_607 rfl (lv_at hl 3 rfl) ?_
  refine lv_iconst (v := nI 2) hx hb dL_law_608 (by decide) ?_
  refine lv_iadd hx hb dL_law_609 ?_
  obtain ⟨hz, hM⟩ := e_if0 hM
  refine va_sld hx hb hX hbl hbA J.2 hz dL_law_610 ?_
  refine lv_aload_n hx hb dL_law_611 rfl (lv_at hl 0 rfl) ?_
  refine lv_iload_n hx hb dL_law_612 rfl (lv_at hl 3 rfl) ?_
  refine lv_iconst (v := nI 3) hx hb dL_law_613 (by decide) ?_
  refine lv_iadd hx hb dL_law_614 ?_
  obtain ⟨hz, hM⟩ := e_if0 hM
  refine va_sld hx hb hX hbl hbA J.2 hz dL_law_615 ?_
  obtain ⟨p1, hv, hM⟩ := e_bs hM
  obtain ⟨fs_, hk, -⟩ := e_bs hv
  refine e_callV (ci := 8) (As := [.int (xs ((l3 + (nI 1))).toNatClampNeg), .int (xs ((l3 + (nI 2))).toNatClampNeg), .int (xs ((l3 + (nI 3))).toNatClampNeg)]) (rest := []) (n := 3) E J hk rfl (mX8_shape (l := l) (G := G) l1 (xs ((l3 + (nI 1))).toNatClampNeg) (xs ((l3 + (nI 2))).toNatClampNeg) (xs ((l3 + (nI 3))).toNatClampNeg) h _ hv) q_2_197 q_2_198 q_2_199 q_1_1 q_2_200 (by decide +kernel) rfl ⟨Nat.le_of_ble_eq_true rfl, Nat.le_of_ble_eq_true rfl⟩ (st0 := [.int (xs ((l3 + (nI 3))).toNatClampNeg), .int (xs ((l3 + (nI 2))).toNatClampNeg), .int (xs ((l3 + (nI 1))).toNatClampNeg), .ref (e_ad G l1)]) (st1 := [.long p1.1]) rfl rfl hl.1 (Nat.le_of_ble_eq_true rfl) dL_law_616 ⟨e_rcc (by omega), e_rcs (by omega)⟩ (fun H locs J => ?_)
  refine lv_aload_n hx hb dL_law_619 rfl (lv_at hl 2 rfl) ?_
  refine lv_aload_n hx hb dL_law_620 rfl (lv_at hl 0 rfl) ?_
  refine lv_iload_n hx hb dL_law_621 rfl (lv_at hl 3 rfl) ?_
  refine lv_iconst (v := nI 1) hx hb dL_law_622 (by decide) ?_
  refine lv_iadd hx hb dL_law_623 ?_
  obtain ⟨hz, hM⟩ := e_if0 hM
  refine va_sld hx hb hX hbl hbA J.2 hz dL_law_624 ?_
  refine lv_aload_n hx hb dL_law_625 rfl (lv_at hl 0 rfl) ?_
  refine lv_iload_n hx hb dL_law_626 rfl (lv_at hl 3 rfl) ?_
  refine lv_iconst (v := nI 2) hx hb dL_law_627 (by decide) ?_
  refine lv_iadd hx hb dL_law_628 ?_
  obtain ⟨hz, hM⟩ := e_if0 hM
  refine va_sld hx hb hX hbl hbA J.2 hz dL_law_629 ?_
  refine lv_aload_n hx hb dL_law_630 rfl (lv_at hl 0 rfl) ?_
  refine lv_iload_n hx hb dL_law_631 rfl (lv_at hl 3 rfl) ?_
  refine lv_iconst (v := nI 3) hx hb dL_law_632 (by decide) ?_
  refine lv_iadd hx hb dL_law_633 ?_
  obtain ⟨hz, hM⟩ := e_if0 hM
  refine va_sld hx hb hX hbl hbA J.2 hz dL_law_634 ?_
  obtain ⟨p2, hv, hM⟩ := e_bs hM
  obtain ⟨fs_, hk, -⟩ := e_bs hv
  refine e_callV (ci := 9) (As := [.int (xs ((l3 + (nI 1))).toNatClampNeg), .int (xs ((l3 + (nI 2))).toNatClampNeg), .int (xs ((l3 + (nI 3))).toNatClampNeg)]) (rest := [.long p1.1]) (n := 3) E J hk rfl (mX9_shape (l := l) (G := G) l2 (xs ((l3 + (nI 1))).toNatClampNeg) (xs ((l3 + (nI 2))).toNatClampNeg) (xs ((l3 + (nI 3))).toNatClampNeg) p1.2 _ hv) q_6_29 q_6_30 q_6_31 q_1_9 q_6_32 (by decide +kernel) rfl ⟨Nat.le_of_ble_eq_true rfl, Nat.le_of_ble_eq_true rfl⟩ (st0 := [.int (xs ((l3 + (nI 3))).toNatClampNeg), .int (xs ((l3 + (nI 2))).toNatClampNeg), .int (xs ((l3 + (nI 1))).toNatClampNeg), .ref (e_ad G l2), .long p1.1]) (st1 := [.long p2.1, .long p1.1]) rfl rfl hl.1 (Nat.le_of_ble_eq_true rfl) dL_law_635 ⟨e_rcc (by omega), e_rcs (by omega)⟩ (fun H locs J => ?_)
  refine W.lcmp hx hb dL_law_638 ?_
  refine lv_if_eq (tgt := 1685) hx hb dL_law_639 (by decide) (fun hc => ?_) (fun hc => ?_)
  · have hM := e_ip hc hM
    exact mL_law_b1685 E hX hbl hbA hbz K18 l1 l2 l3 p2.2 hM (by omega) (by omega) J (lv_sub hl [0, 1, 2, 3] rfl)
  · have hM := e_in hc hM
    refine lv_iconst (v := nI 0) hx hb dL_law_642 (by decide) ?_
    cases hM
set_option maxRecDepth 100000 in
set_option maxHeartbeats 4000000 in
theorem mL_law_b644 {p : Program} {l : Launch} {e : Env} {s : State} {m : MethodId} {below : List Frame} {meth : Method} {c : Code} {G : e_G} {L : Nat} {xs : Nat → Int32} {b : Nat} {k18 : Nat → Nat → Int32 → e_H → Option Bool} (E : e_M G p s #[Value.ref b] m meth c cL_law 4 ret RL) (hX : va_X b L xs s s.heap) (hbl : b < s.heap.size) (hbA : ¬ e_A G b) (hbz : G.2.2.1 = s.heap.size) {n9 : Nat} (K18 : ∀ (l1 : Nat) (l2 : Nat) (l3 : Int32) (h : e_H), k18 l1 l2 l3 h = some true → ∀ (cells slots : Nat), cells + (n9 * 2 + 2) ≤ 600000 → slots + (n9 * 99 + 99) ≤ 7302250 → ∀ (H : Heap) (locs : List Loc), e_J G s h H locs → ∀ (ls : Array Slot), lv_has ls 4 [(0, .ref b), (1, .ref (e_ad G l1)), (2, .ref (e_ad G l2)), (3, .int l3)] → W p l e room_1 s m #[Value.ref b] below meth c H locs cells slots (lw_Z below #[Value.ref b] s) (F0 m 18 ls [])) (l1 : Nat) (l2 : Nat) (l3 : Int32) (h : e_H) (hM : fL_law_b644 L xs k18 l1 l2 l3 h = some true) {cells slots : Nat} (hb1 : cells + 0 ≤ 600000) (hb2 : slots + 0 ≤ 7302250) (hb3 : cells + 0 + (n9 * 2 + 2) ≤ 600000) (hb4 : slots + 0 + (n9 * 99 + 99) ≤ 7302250) {H : Heap} {locs : List Loc} (J : e_J G s h H locs) {ls : Array Slot} (hl : lv_has ls 4 [(0, .ref b), (1, .ref (e_ad G l1)), (2, .ref (e_ad G l2)), (3, .int l3)]) : W p l e room_1 s m #[Value.ref b] below meth c H locs cells slots (lw_Z below #[Value.ref b] s) (F0 m 644 ls []) := by
  obtain ⟨hx, hb, hr, hml, hown, hts, hlocks, hES, hbs⟩ := id E
  unfold fL_law_b644 at hM
  refine lv_aload_n hx hb dL_law_644 rfl (lv_at hl 1 rfl) ?_
  refine lv_aload_n hx hb dL_law_645 rfl (lv_at hl 0 rfl) ?_
  refine lv_iload_n hx hb dL_law_646 rfl (lv_at hl 3 rfl) ?_
  refine lv_iconst (v := nI 1) hx hb dL_law_647 (by decide) ?_
  refine lv_iadd hx hb dL_law_648 ?_
  obtain ⟨hz, hM⟩ := e_if0 hM
  refine va_sld hx hb hX hbl hbA J.2 hz dL_law_649 ?_
  refine lv_aload_n hx hb dL_law_650 rfl (lv_at hl 0 rfl) ?_
  refine lv_iload_n hx hb dL_law_651 rfl (lv_at hl 3 rfl) ?_
  refine lv_iconst (v := nI 2) hx hb dL_law_652 (by decide) ?_
  refine lv_iadd hx hb dL_law_653 ?_
  obtain ⟨hz, hM⟩ := e_if0 hM
  refine va_sld hx hb hX hbl hbA J.2 hz dL_law_654 ?_
  refine lv_aload_n hx hb dL_law_655 rfl (lv_at hl 0 rfl) ?_
  refine lv_iload_n hx hb dL_law_656 rfl (lv_at hl 3 rfl) ?_
  refine lv_iconst (v := nI 3) hx hb dL_law_657 (by decide) ?_
  refine lv_iadd hx hb dL_law_658 ?_
  obtain ⟨hz, hM⟩ := e_if0 hM
  refine va_sld hx hb hX hbl hbA J.2 hz dL_law_659 ?_
  obtain ⟨p1, hv, hM⟩ := e_bs hM
  obtain ⟨fs_, hk, -⟩ := e_bs hv
  refine e_callV (ci := 8) (As := [.int (xs ((l3 + (nI 1))).toNatClampNeg), .int (xs ((l3 + (nI 2))).toNatClampNeg), .int (xs ((l3 + (nI 3))).toNatClampNeg)]) (rest := []) (n := 3) E J hk rfl (mX8_lowest (l := l) (G := G) l1 (xs ((l3 + (nI 1))).toNatClampNeg) (xs ((l3 + (nI 2))).toNatClampNeg) (xs ((l3 + (nI 3))).toNatClampNeg) h _ hv) q_2_205 q_2_206 q_2_207 q_1_1 q_2_208 (by decide +kernel) rfl ⟨Nat.le_of_ble_eq_true rfl, Nat.le_of_ble_eq_true rfl⟩ (st0 := [.int (xs ((l3 + (nI 3))).toNatClampNeg), .int (xs ((l3 + (nI 2))).toNatClampNeg), .int (xs ((l3 + (nI 1))).toNatClampNeg), .ref (e_ad G l1)]) (st1 := [.long p1.1]) rfl rfl hl.1 (Nat.le_of_ble_eq_true rfl) dL_law_660 ⟨e_rcc (by omega), e_rcs (by omega)⟩ (fun H locs J => ?_)
  refine lv_aload_n hx hb dL_law_663 rfl (lv_at hl 2 rfl) ?_
  refine lv_aload_n hx hb dL_law_664 rfl (lv_at hl 0 rfl) ?_
  refine lv_iload_n hx hb dL_law_665 rfl (lv_at hl 3 rfl) ?_
  refine lv_iconst (v := nI 1) hx hb dL_law_666 (by decide) ?_
  refine lv_iadd hx hb dL_law_667 ?_
  obtain ⟨hz, hM⟩ := e_if0 hM
  refine va_sld hx hb hX hbl hbA J.2 hz dL_law_668 ?_
  refine lv_aload_n hx hb dL_law_669 rfl (lv_at hl 0 rfl) ?_
  refine lv_iload_n hx hb dL_law_670 rfl (lv_at hl 3 rfl) ?_
  refine lv_iconst (v := nI 2) hx hb dL_law_671 (by decide) ?_
  refine lv_iadd hx hb dL_law_672 ?_
  obtain ⟨hz, hM⟩ := e_if0 hM
  refine va_sld hx hb hX hbl hbA J.2 hz dL_law_673 ?_
  refine lv_aload_n hx hb dL_law_674 rfl (lv_at hl 0 rfl) ?_
  refine lv_iload_n hx hb dL_law_675 rfl (lv_at hl 3 rfl) ?_
  refine lv_iconst (v := nI 3) hx hb dL_law_676 (by decide) ?_
  refine lv_iadd hx hb dL_law_677 ?_
  obtain ⟨hz, hM⟩ := e_if0 hM
  refine va_sld hx hb hX hbl hbA J.2 hz dL_law_678 ?_
  obtain ⟨p2, hv, hM⟩ := e_bs hM
  obtain ⟨fs_, hk, -⟩ := e_bs hv
  refine e_callV (ci := 9) (As := [.int (xs ((l3 + (nI 1))).toNatClampNeg), .int (xs ((l3 + (nI 2))).toNatClampNeg), .int (xs ((l3 + (nI 3))).toNatClampNeg)]) (rest := [.long p1.1]) (n := 3) E J hk rfl (mX9_lowest (l := l) (G := G) l2 (xs ((l3 + (nI 1))).toNatClampNeg) (xs ((l3 + (nI 2))).toNatClampNeg) (xs ((l3 + (nI 3))).toNatClampNeg) p1.2 _ hv) q_6_33 q_6_34 q_6_35 q_1_9 q_6_36 (by decide +kernel) rfl ⟨Nat.le_of_ble_eq_true rfl, Nat.le_of_ble_eq_true rfl⟩ (st0 := [.int (xs ((l3 + (nI 3))).toNatClampNeg), .int (xs ((l3 + (nI 2))).toNatClampNeg), .int (xs ((l3 + (nI 1))).toNatClampNeg), .ref (e_ad G l2), .long p1.1]) (st1 := [.long p2.1, .long p1.1]) rfl rfl hl.1 (Nat.le_of_ble_eq_true rfl) dL_law_679 ⟨e_rcc (by omega), e_rcs (by omega)⟩ (fun H locs J => ?_)
  refine W.lcmp hx hb dL_law_682 ?_
  refine lv_if_eq (tgt := 1685) hx hb dL_law_683 (by decide) (fun hc => ?_) (fun hc => ?_)
  · have hM := e_ip hc hM
    exact mL_law_b1685 E hX hbl hbA hbz K18 l1 l2 l3 p2.2 hM (by omega) (by omega) J (lv_sub hl [0, 1, 2, 3] rfl)
  · have hM := e_in hc hM
    refine lv_iconst (v := nI 0) hx hb dL_law_686 (by decide) ?_
    cases hM
set_option maxRecDepth 100000 in
set_option maxHeartbeats 4000000 in
theorem mL_law_b688 {p : Program} {l : Launch} {e : Env} {s : State} {m : MethodId} {below : List Frame} {meth : Method} {c : Code} {G : e_G} {L : Nat} {xs : Nat → Int32} {b : Nat} {k18 : Nat → Nat → Int32 → e_H → Option Bool} (E : e_M G p s #[Value.ref b] m meth c cL_law 4 ret RL) (hX : va_X b L xs s s.heap) (hbl : b < s.heap.size) (hbA : ¬ e_A G b) (hbz : G.2.2.1 = s.heap.size) {n9 : Nat} (K18 : ∀ (l1 : Nat) (l2 : Nat) (l3 : Int32) (h : e_H), k18 l1 l2 l3 h = some true → ∀ (cells slots : Nat), cells + (n9 * 2 + 2) ≤ 600000 → slots + (n9 * 99 + 99) ≤ 7302250 → ∀ (H : Heap) (locs : List Loc), e_J G s h H locs → ∀ (ls : Array Slot), lv_has ls 4 [(0, .ref b), (1, .ref (e_ad G l1)), (2, .ref (e_ad G l2)), (3, .int l3)] → W p l e room_1 s m #[Value.ref b] below meth c H locs cells slots (lw_Z below #[Value.ref b] s) (F0 m 18 ls [])) (l1 : Nat) (l2 : Nat) (l3 : Int32) (h : e_H) (hM : fL_law_b688 L xs k18 l1 l2 l3 h = some true) {cells slots : Nat} (hb1 : cells + 0 ≤ 600000) (hb2 : slots + 0 ≤ 7302250) (hb3 : cells + 0 + (n9 * 2 + 2) ≤ 600000) (hb4 : slots + 0 + (n9 * 99 + 99) ≤ 7302250) {H : Heap} {locs : List Loc} (J : e_J G s h H locs) {ls : Array Slot} (hl : lv_has ls 4 [(0, .ref b), (1, .ref (e_ad G l1)), (2, .ref (e_ad G l2)), (3, .int l3)]) : W p l e room_1 s m #[Value.ref b] below meth c H locs cells slots (lw_Z below #[Value.ref b] s) (F0 m 688 ls []) := by
  obtain ⟨hx, hb, hr, hml, hown, hts, hlocks, hES, hbs⟩ := id E
  unfold fL_law_b688 at hM
  refine lv_aload_n hx hb dL_law_688 rfl (lv_at hl 1 rfl) ?_
  refine lv_aload_n hx hb dL_law_689 rfl (lv_at hl 0 rfl) ?_
  refine lv_iload_n hx hb dL_law_690 rfl (lv_at hl 3 rfl) ?_
  refine lv_iconst (v := nI 1) hx hb dL_law_691 (by decide) ?_
  refine lv_iadd hx hb dL_law_692 ?_
  obtain ⟨hz, hM⟩ := e_if0 hM
  refine va_sld hx hb hX hbl hbA J.2 hz dL_law_693 ?_
  refine lv_aload_n hx hb dL_law_694 rfl (lv_at hl 0 rfl) ?_
  refine lv_iload_n hx hb dL_law_695 rfl (lv_at hl 3 rfl) ?_
  refine lv_iconst (v := nI 2) hx hb dL_law_696 (by decide) ?_
  refine lv_iadd hx hb dL_law_697 ?_
  obtain ⟨hz, hM⟩ := e_if0 hM
  refine va_sld hx hb hX hbl hbA J.2 hz dL_law_698 ?_
  obtain ⟨p1, hv, hM⟩ := e_bs hM
  obtain ⟨fs_, hk, -⟩ := e_bs hv
  refine e_callV (ci := 8) (As := [.int (xs ((l3 + (nI 1))).toNatClampNeg), .int (xs ((l3 + (nI 2))).toNatClampNeg)]) (rest := []) (n := 2) E J hk rfl (mX8_slopes (l := l) (G := G) l1 (xs ((l3 + (nI 1))).toNatClampNeg) (xs ((l3 + (nI 2))).toNatClampNeg) h _ hv) q_2_217 q_2_218 q_2_219 q_1_1 q_2_220 (by decide +kernel) rfl ⟨Nat.le_of_ble_eq_true rfl, Nat.le_of_ble_eq_true rfl⟩ (st0 := [.int (xs ((l3 + (nI 2))).toNatClampNeg), .int (xs ((l3 + (nI 1))).toNatClampNeg), .ref (e_ad G l1)]) (st1 := [.int p1.1]) rfl rfl hl.1 (Nat.le_of_ble_eq_true rfl) dL_law_699 ⟨e_rcc (by omega), e_rcs (by omega)⟩ (fun H locs J => ?_)
  refine lv_aload_n hx hb dL_law_702 rfl (lv_at hl 2 rfl) ?_
  refine lv_aload_n hx hb dL_law_703 rfl (lv_at hl 0 rfl) ?_
  refine lv_iload_n hx hb dL_law_704 rfl (lv_at hl 3 rfl) ?_
  refine lv_iconst (v := nI 1) hx hb dL_law_705 (by decide) ?_
  refine lv_iadd hx hb dL_law_706 ?_
  obtain ⟨hz, hM⟩ := e_if0 hM
  refine va_sld hx hb hX hbl hbA J.2 hz dL_law_707 ?_
  refine lv_aload_n hx hb dL_law_708 rfl (lv_at hl 0 rfl) ?_
  refine lv_iload_n hx hb dL_law_709 rfl (lv_at hl 3 rfl) ?_
  refine lv_iconst (v := nI 2) hx hb dL_law_710 (by decide) ?_
  refine lv_iadd hx hb dL_law_711 ?_
  obtain ⟨hz, hM⟩ := e_if0 hM
  refine va_sld hx hb hX hbl hbA J.2 hz dL_law_712 ?_
  obtain ⟨p2, hv, hM⟩ := e_bs hM
  obtain ⟨fs_, hk, -⟩ := e_bs hv
  refine e_callV (ci := 9) (As := [.int (xs ((l3 + (nI 1))).toNatClampNeg), .int (xs ((l3 + (nI 2))).toNatClampNeg)]) (rest := [.int p1.1]) (n := 2) E J hk rfl (mX9_slopes (l := l) (G := G) l2 (xs ((l3 + (nI 1))).toNatClampNeg) (xs ((l3 + (nI 2))).toNatClampNeg) p1.2 _ hv) q_6_45 q_6_46 q_6_47 q_1_9 q_6_48 (by decide +kernel) rfl ⟨Nat.le_of_ble_eq_true rfl, Nat.le_of_ble_eq_true rfl⟩ (st0 := [.int (xs ((l3 + (nI 2))).toNatClampNeg), .int (xs ((l3 + (nI 1))).toNatClampNeg), .ref (e_ad G l2), .int p1.1]) (st1 := [.int p2.1, .int p1.1]) rfl rfl hl.1 (Nat.le_of_ble_eq_true rfl) dL_law_713 ⟨e_rcc (by omega), e_rcs (by omega)⟩ (fun H locs J => ?_)
  refine lv_icmp_eq (tgt := 1685) hx hb dL_law_716 (by decide) (fun hc => ?_) (fun hc => ?_)
  · have hM := e_ip hc hM
    exact mL_law_b1685 E hX hbl hbA hbz K18 l1 l2 l3 p2.2 hM (by omega) (by omega) J (lv_sub hl [0, 1, 2, 3] rfl)
  · have hM := e_in hc hM
    refine lv_iconst (v := nI 0) hx hb dL_law_719 (by decide) ?_
    cases hM
set_option maxRecDepth 100000 in
set_option maxHeartbeats 4000000 in
theorem mL_law_b721 {p : Program} {l : Launch} {e : Env} {s : State} {m : MethodId} {below : List Frame} {meth : Method} {c : Code} {G : e_G} {L : Nat} {xs : Nat → Int32} {b : Nat} {k18 : Nat → Nat → Int32 → e_H → Option Bool} (E : e_M G p s #[Value.ref b] m meth c cL_law 4 ret RL) (hX : va_X b L xs s s.heap) (hbl : b < s.heap.size) (hbA : ¬ e_A G b) (hbz : G.2.2.1 = s.heap.size) {n9 : Nat} (K18 : ∀ (l1 : Nat) (l2 : Nat) (l3 : Int32) (h : e_H), k18 l1 l2 l3 h = some true → ∀ (cells slots : Nat), cells + (n9 * 2 + 2) ≤ 600000 → slots + (n9 * 99 + 99) ≤ 7302250 → ∀ (H : Heap) (locs : List Loc), e_J G s h H locs → ∀ (ls : Array Slot), lv_has ls 4 [(0, .ref b), (1, .ref (e_ad G l1)), (2, .ref (e_ad G l2)), (3, .int l3)] → W p l e room_1 s m #[Value.ref b] below meth c H locs cells slots (lw_Z below #[Value.ref b] s) (F0 m 18 ls [])) (l1 : Nat) (l2 : Nat) (l3 : Int32) (h : e_H) (hM : fL_law_b721 L xs k18 l1 l2 l3 h = some true) {cells slots : Nat} (hb1 : cells + 0 ≤ 600000) (hb2 : slots + 0 ≤ 7302250) (hb3 : cells + 0 + (n9 * 2 + 2) ≤ 600000) (hb4 : slots + 0 + (n9 * 99 + 99) ≤ 7302250) {H : Heap} {locs : List Loc} (J : e_J G s h H locs) {ls : Array Slot} (hl : lv_has ls 4 [(0, .ref b), (1, .ref (e_ad G l1)), (2, .ref (e_ad G l2)), (3, .int l3)]) : W p l e room_1 s m #[Value.ref b] below meth c H locs cells slots (lw_Z below #[Value.ref b] s) (F0 m 721 ls []) := by
  obtain ⟨hx, hb, hr, hml, hown, hts, hlocks, hES, hbs⟩ := id E
  unfold fL_law_b721 at hM
  refine lv_aload_n hx hb dL_law_721 rfl (lv_at hl 1 rfl) ?_
  refine lv_aload_n hx hb dL_law_722 rfl (lv_at hl 0 rfl) ?_
  refine lv_iload_n hx hb dL_law_723 rfl (lv_at hl 3 rfl) ?_
  refine lv_iconst (v := nI 1) hx hb dL_law_724 (by decide) ?_
  refine lv_iadd hx hb dL_law_725 ?_
  obtain ⟨hz, hM⟩ := e_if0 hM
  refine va_sld hx hb hX hbl hbA J.2 hz dL_law_726 ?_
  refine lv_aload_n hx hb dL_law_727 rfl (lv_at hl 0 rfl) ?_
  refine lv_iload_n hx hb dL_law_728 rfl (lv_at hl 3 rfl) ?_
  refine lv_iconst (v := nI 2) hx hb dL_law_729 (by decide) ?_
  refine lv_iadd hx hb dL_law_730 ?_
  obtain ⟨hz, hM⟩ := e_if0 hM
  refine va_sld hx hb hX hbl hbA J.2 hz dL_law_731 ?_
  refine lv_aload_n hx hb dL_law_732 rfl (lv_at hl 0 rfl) ?_
  refine lv_iload_n hx hb dL_law_733 rfl (lv_at hl 3 rfl) ?_
  refine lv_iconst (v := nI 3) hx hb dL_law_734 (by decide) ?_
  refine lv_iadd hx hb dL_law_735 ?_
  obtain ⟨hz, hM⟩ := e_if0 hM
  refine va_sld hx hb hX hbl hbA J.2 hz dL_law_736 ?_
  obtain ⟨p1, hv, hM⟩ := e_bs hM
  obtain ⟨fs_, hk, -⟩ := e_bs hv
  refine e_callV (ci := 8) (As := [.int (xs ((l3 + (nI 1))).toNatClampNeg), .int (xs ((l3 + (nI 2))).toNatClampNeg), .int (xs ((l3 + (nI 3))).toNatClampNeg)]) (rest := []) (n := 3) E J hk rfl (mX8_often (l := l) (G := G) l1 (xs ((l3 + (nI 1))).toNatClampNeg) (xs ((l3 + (nI 2))).toNatClampNeg) (xs ((l3 + (nI 3))).toNatClampNeg) h _ hv) q_2_231 q_2_232 q_2_233 q_1_1 q_2_234 (by decide +kernel) rfl ⟨Nat.le_of_ble_eq_true rfl, Nat.le_of_ble_eq_true rfl⟩ (st0 := [.int (xs ((l3 + (nI 3))).toNatClampNeg), .int (xs ((l3 + (nI 2))).toNatClampNeg), .int (xs ((l3 + (nI 1))).toNatClampNeg), .ref (e_ad G l1)]) (st1 := [.int p1.1]) rfl rfl hl.1 (Nat.le_of_ble_eq_true rfl) dL_law_737 ⟨e_rcc (by omega), e_rcs (by omega)⟩ (fun H locs J => ?_)
  refine lv_aload_n hx hb dL_law_740 rfl (lv_at hl 2 rfl) ?_
  refine lv_aload_n hx hb dL_law_741 rfl (lv_at hl 0 rfl) ?_
  refine lv_iload_n hx hb dL_law_742 rfl (lv_at hl 3 rfl) ?_
  refine lv_iconst (v := nI 1) hx hb dL_law_743 (by decide) ?_
  refine lv_iadd hx hb dL_law_744 ?_
  obtain ⟨hz, hM⟩ := e_if0 hM
  refine va_sld hx hb hX hbl hbA J.2 hz dL_law_745 ?_
  refine lv_aload_n hx hb dL_law_746 rfl (lv_at hl 0 rfl) ?_
  refine lv_iload_n hx hb dL_law_747 rfl (lv_at hl 3 rfl) ?_
  refine lv_iconst (v := nI 2) hx hb dL_law_748 (by decide) ?_
  refine lv_iadd hx hb dL_law_749 ?_
  obtain ⟨hz, hM⟩ := e_if0 hM
  refine va_sld hx hb hX hbl hbA J.2 hz dL_law_750 ?_
  refine lv_aload_n hx hb dL_law_751 rfl (lv_at hl 0 rfl) ?_
  refine lv_iload_n hx hb dL_law_752 rfl (lv_at hl 3 rfl) ?_
  refine lv_iconst (v := nI 3) hx hb dL_law_753 (by decide) ?_
  refine lv_iadd hx hb dL_law_754 ?_
  obtain ⟨hz, hM⟩ := e_if0 hM
  refine va_sld hx hb hX hbl hbA J.2 hz dL_law_755 ?_
  obtain ⟨p2, hv, hM⟩ := e_bs hM
  obtain ⟨fs_, hk, -⟩ := e_bs hv
  refine e_callV (ci := 9) (As := [.int (xs ((l3 + (nI 1))).toNatClampNeg), .int (xs ((l3 + (nI 2))).toNatClampNeg), .int (xs ((l3 + (nI 3))).toNatClampNeg)]) (rest := [.int p1.1]) (n := 3) E J hk rfl (mX9_often (l := l) (G := G) l2 (xs ((l3 + (nI 1))).toNatClampNeg) (xs ((l3 + (nI 2))).toNatClampNeg) (xs ((l3 + (nI 3))).toNatClampNeg) p1.2 _ hv) q_6_58 q_6_59 q_6_60 q_1_9 q_6_61 (by decide +kernel) rfl ⟨Nat.le_of_ble_eq_true rfl, Nat.le_of_ble_eq_true rfl⟩ (st0 := [.int (xs ((l3 + (nI 3))).toNatClampNeg), .int (xs ((l3 + (nI 2))).toNatClampNeg), .int (xs ((l3 + (nI 1))).toNatClampNeg), .ref (e_ad G l2), .int p1.1]) (st1 := [.int p2.1, .int p1.1]) rfl rfl hl.1 (Nat.le_of_ble_eq_true rfl) dL_law_756 ⟨e_rcc (by omega), e_rcs (by omega)⟩ (fun H locs J => ?_)
  refine lv_icmp_eq (tgt := 1685) hx hb dL_law_759 (by decide) (fun hc => ?_) (fun hc => ?_)
  · have hM := e_ip hc hM
    exact mL_law_b1685 E hX hbl hbA hbz K18 l1 l2 l3 p2.2 hM (by omega) (by omega) J (lv_sub hl [0, 1, 2, 3] rfl)
  · have hM := e_in hc hM
    refine lv_iconst (v := nI 0) hx hb dL_law_762 (by decide) ?_
    cases hM
set_option maxRecDepth 100000 in
set_option maxHeartbeats 4000000 in
theorem mL_law_b764 {p : Program} {l : Launch} {e : Env} {s : State} {m : MethodId} {below : List Frame} {meth : Method} {c : Code} {G : e_G} {L : Nat} {xs : Nat → Int32} {b : Nat} {k18 : Nat → Nat → Int32 → e_H → Option Bool} (E : e_M G p s #[Value.ref b] m meth c cL_law 4 ret RL) (hX : va_X b L xs s s.heap) (hbl : b < s.heap.size) (hbA : ¬ e_A G b) (hbz : G.2.2.1 = s.heap.size) {n9 : Nat} (K18 : ∀ (l1 : Nat) (l2 : Nat) (l3 : Int32) (h : e_H), k18 l1 l2 l3 h = some true → ∀ (cells slots : Nat), cells + (n9 * 2 + 2) ≤ 600000 → slots + (n9 * 99 + 99) ≤ 7302250 → ∀ (H : Heap) (locs : List Loc), e_J G s h H locs → ∀ (ls : Array Slot), lv_has ls 4 [(0, .ref b), (1, .ref (e_ad G l1)), (2, .ref (e_ad G l2)), (3, .int l3)] → W p l e room_1 s m #[Value.ref b] below meth c H locs cells slots (lw_Z below #[Value.ref b] s) (F0 m 18 ls [])) (l1 : Nat) (l2 : Nat) (l3 : Int32) (h : e_H) (hM : fL_law_b764 L xs k18 l1 l2 l3 h = some true) {cells slots : Nat} (hb1 : cells + 0 ≤ 600000) (hb2 : slots + 0 ≤ 7302250) (hb3 : cells + 0 + (n9 * 2 + 2) ≤ 600000) (hb4 : slots + 0 + (n9 * 99 + 99) ≤ 7302250) {H : Heap} {locs : List Loc} (J : e_J G s h H locs) {ls : Array Slot} (hl : lv_has ls 4 [(0, .ref b), (1, .ref (e_ad G l1)), (2, .ref (e_ad G l2)), (3, .int l3)]) : W p l e room_1 s m #[Value.ref b] below meth c H locs cells slots (lw_Z below #[Value.ref b] s) (F0 m 764 ls []) := by
  obtain ⟨hx, hb, hr, hml, hown, hts, hlocks, hES, hbs⟩ := id E
  unfold fL_law_b764 at hM
  refine lv_aload_n hx hb dL_law_764 rfl (lv_at hl 1 rfl) ?_
  refine lv_aload_n hx hb dL_law_765 rfl (lv_at hl 0 rfl) ?_
  refine lv_iload_n hx hb dL_law_766 rfl (lv_at hl 3 rfl) ?_
  refine lv_iconst (v := nI 1) hx hb dL_law_767 (by decide) ?_
  refine lv_iadd hx hb dL_law_768 ?_
  obtain ⟨hz, hM⟩ := e_if0 hM
  refine va_sld hx hb hX hbl hbA J.2 hz dL_law_769 ?_
  refine lv_aload_n hx hb dL_law_770 rfl (lv_at hl 0 rfl) ?_
  refine lv_iload_n hx hb dL_law_771 rfl (lv_at hl 3 rfl) ?_
  refine lv_iconst (v := nI 2) hx hb dL_law_772 (by decide) ?_
  refine lv_iadd hx hb dL_law_773 ?_
  obtain ⟨hz, hM⟩ := e_if0 hM
  refine va_sld hx hb hX hbl hbA J.2 hz dL_law_774 ?_
  refine lv_aload_n hx hb dL_law_775 rfl (lv_at hl 0 rfl) ?_
  refine lv_iload_n hx hb dL_law_776 rfl (lv_at hl 3 rfl) ?_
  refine lv_iconst (v := nI 3) hx hb dL_law_777 (by decide) ?_
  refine lv_iadd hx hb dL_law_778 ?_
  obtain ⟨hz, hM⟩ := e_if0 hM
  refine va_sld hx hb hX hbl hbA J.2 hz dL_law_779 ?_
  refine lv_aload_n hx hb dL_law_780 rfl (lv_at hl 0 rfl) ?_
  refine lv_iload_n hx hb dL_law_781 rfl (lv_at hl 3 rfl) ?_
  refine lv_iconst (v := nI 4) hx hb dL_law_782 (by decide) ?_
  refine lv_iadd hx hb dL_law_783 ?_
  obtain ⟨hz, hM⟩ := e_if0 hM
  refine va_sld hx hb hX hbl hbA J.2 hz dL_law_784 ?_
  obtain ⟨p1, hv, hM⟩ := e_bs hM
  obtain ⟨fs_, hk, -⟩ := e_bs hv
  refine e_callV (ci := 8) (As := [.int (xs ((l3 + (nI 1))).toNatClampNeg), .int (xs ((l3 + (nI 2))).toNatClampNeg), .int (xs ((l3 + (nI 3))).toNatClampNeg), .int (xs ((l3 + (nI 4))).toNatClampNeg)]) (rest := []) (n := 4) E J hk rfl (mX8_blown (l := l) (G := G) l1 (xs ((l3 + (nI 1))).toNatClampNeg) (xs ((l3 + (nI 2))).toNatClampNeg) (xs ((l3 + (nI 3))).toNatClampNeg) (xs ((l3 + (nI 4))).toNatClampNeg) h _ hv) q_3_7 q_3_8 q_3_9 q_1_1 q_3_10 (by decide +kernel) rfl ⟨Nat.le_of_ble_eq_true rfl, Nat.le_of_ble_eq_true rfl⟩ (st0 := [.int (xs ((l3 + (nI 4))).toNatClampNeg), .int (xs ((l3 + (nI 3))).toNatClampNeg), .int (xs ((l3 + (nI 2))).toNatClampNeg), .int (xs ((l3 + (nI 1))).toNatClampNeg), .ref (e_ad G l1)]) (st1 := [.int p1.1]) rfl rfl hl.1 (Nat.le_of_ble_eq_true rfl) dL_law_785 ⟨e_rcc (by omega), e_rcs (by omega)⟩ (fun H locs J => ?_)
  refine lv_aload_n hx hb dL_law_788 rfl (lv_at hl 2 rfl) ?_
  refine lv_aload_n hx hb dL_law_789 rfl (lv_at hl 0 rfl) ?_
  refine lv_iload_n hx hb dL_law_790 rfl (lv_at hl 3 rfl) ?_
  refine lv_iconst (v := nI 1) hx hb dL_law_791 (by decide) ?_
  refine lv_iadd hx hb dL_law_792 ?_
  obtain ⟨hz, hM⟩ := e_if0 hM
  refine va_sld hx hb hX hbl hbA J.2 hz dL_law_793 ?_
  refine lv_aload_n hx hb dL_law_794 rfl (lv_at hl 0 rfl) ?_
  refine lv_iload_n hx hb dL_law_795 rfl (lv_at hl 3 rfl) ?_
  refine lv_iconst (v := nI 2) hx hb dL_law_796 (by decide) ?_
  refine lv_iadd hx hb dL_law_797 ?_
  obtain ⟨hz, hM⟩ := e_if0 hM
  refine va_sld hx hb hX hbl hbA J.2 hz dL_law_798 ?_
  refine lv_aload_n hx hb dL_law_799 rfl (lv_at hl 0 rfl) ?_
  refine lv_iload_n hx hb dL_law_800 rfl (lv_at hl 3 rfl) ?_
  refine lv_iconst (v := nI 3) hx hb dL_law_801 (by decide) ?_
  refine lv_iadd hx hb dL_law_802 ?_
  obtain ⟨hz, hM⟩ := e_if0 hM
  refine va_sld hx hb hX hbl hbA J.2 hz dL_law_803 ?_
  refine lv_aload_n hx hb dL_law_804 rfl (lv_at hl 0 rfl) ?_
  refine lv_iload_n hx hb dL_law_805 rfl (lv_at hl 3 rfl) ?_
  refine lv_iconst (v := nI 4) hx hb dL_law_806 (by decide) ?_
  refine lv_iadd hx hb dL_law_807 ?_
  obtain ⟨hz, hM⟩ := e_if0 hM
  refine va_sld hx hb hX hbl hbA J.2 hz dL_law_808 ?_
  obtain ⟨p2, hv, hM⟩ := e_bs hM
  obtain ⟨fs_, hk, -⟩ := e_bs hv
  refine e_callV (ci := 9) (As := [.int (xs ((l3 + (nI 1))).toNatClampNeg), .int (xs ((l3 + (nI 2))).toNatClampNeg), .int (xs ((l3 + (nI 3))).toNatClampNeg), .int (xs ((l3 + (nI 4))).toNatClampNeg)]) (rest := [.int p1.1]) (n := 4) E J hk rfl (mX9_blown (l := l) (G := G) l2 (xs ((l3 + (nI 1))).toNatClampNeg) (xs ((l3 + (nI 2))).toNatClampNeg) (xs ((l3 + (nI 3))).toNatClampNeg) (xs ((l3 + (nI 4))).toNatClampNeg) p1.2 _ hv) q_6_66 q_6_67 q_6_68 q_1_9 q_6_69 (by decide +kernel) rfl ⟨Nat.le_of_ble_eq_true rfl, Nat.le_of_ble_eq_true rfl⟩ (st0 := [.int (xs ((l3 + (nI 4))).toNatClampNeg), .int (xs ((l3 + (nI 3))).toNatClampNeg), .int (xs ((l3 + (nI 2))).toNatClampNeg), .int (xs ((l3 + (nI 1))).toNatClampNeg), .ref (e_ad G l2), .int p1.1]) (st1 := [.int p2.1, .int p1.1]) rfl rfl hl.1 (Nat.le_of_ble_eq_true rfl) dL_law_809 ⟨e_rcc (by omega), e_rcs (by omega)⟩ (fun H locs J => ?_)
  refine lv_icmp_eq (tgt := 1685) hx hb dL_law_812 (by decide) (fun hc => ?_) (fun hc => ?_)
  · have hM := e_ip hc hM
    exact mL_law_b1685 E hX hbl hbA hbz K18 l1 l2 l3 p2.2 hM (by omega) (by omega) J (lv_sub hl [0, 1, 2, 3] rfl)
  · have hM := e_in hc hM
    refine lv_iconst (v := nI 0) hx hb dL_law_815 (by decide) ?_
    cases hM
set_option maxRecDepth 100000 in
set_option maxHeartbeats 4000000 in
theorem mL_law_b817 {p : Program} {l : Launch} {e : Env} {s : State} {m : MethodId} {below : List Frame} {meth : Method} {c : Code} {G : e_G} {L : Nat} {xs : Nat → Int32} {b : Nat} {k18 : Nat → Nat → Int32 → e_H → Option Bool} (E : e_M G p s #[Value.ref b] m meth c cL_law 4 ret RL) (hX : va_X b L xs s s.heap) (hbl : b < s.heap.size) (hbA : ¬ e_A G b) (hbz : G.2.2.1 = s.heap.size) {n9 : Nat} (K18 : ∀ (l1 : Nat) (l2 : Nat) (l3 : Int32) (h : e_H), k18 l1 l2 l3 h = some true → ∀ (cells slots : Nat), cells + (n9 * 2 + 2) ≤ 600000 → slots + (n9 * 99 + 99) ≤ 7302250 → ∀ (H : Heap) (locs : List Loc), e_J G s h H locs → ∀ (ls : Array Slot), lv_has ls 4 [(0, .ref b), (1, .ref (e_ad G l1)), (2, .ref (e_ad G l2)), (3, .int l3)] → W p l e room_1 s m #[Value.ref b] below meth c H locs cells slots (lw_Z below #[Value.ref b] s) (F0 m 18 ls [])) (l1 : Nat) (l2 : Nat) (l3 : Int32) (h : e_H) (hM : fL_law_b817 L xs k18 l1 l2 l3 h = some true) {cells slots : Nat} (hb1 : cells + 0 ≤ 600000) (hb2 : slots + 0 ≤ 7302250) (hb3 : cells + 0 + (n9 * 2 + 2) ≤ 600000) (hb4 : slots + 0 + (n9 * 99 + 99) ≤ 7302250) {H : Heap} {locs : List Loc} (J : e_J G s h H locs) {ls : Array Slot} (hl : lv_has ls 4 [(0, .ref b), (1, .ref (e_ad G l1)), (2, .ref (e_ad G l2)), (3, .int l3)]) : W p l e room_1 s m #[Value.ref b] below meth c H locs cells slots (lw_Z below #[Value.ref b] s) (F0 m 817 ls []) := by
  obtain ⟨hx, hb, hr, hml, hown, hts, hlocks, hES, hbs⟩ := id E
  unfold fL_law_b817 at hM
  refine lv_aload_n hx hb dL_law_817 rfl (lv_at hl 1 rfl) ?_
  refine lv_aload_n hx hb dL_law_818 rfl (lv_at hl 0 rfl) ?_
  refine lv_iload_n hx hb dL_law_819 rfl (lv_at hl 3 rfl) ?_
  refine lv_iconst (v := nI 1) hx hb dL_law_820 (by decide) ?_
  refine lv_iadd hx hb dL_law_821 ?_
  obtain ⟨hz, hM⟩ := e_if0 hM
  refine va_sld hx hb hX hbl hbA J.2 hz dL_law_822 ?_
  refine lv_aload_n hx hb dL_law_823 rfl (lv_at hl 0 rfl) ?_
  refine lv_iload_n hx hb dL_law_824 rfl (lv_at hl 3 rfl) ?_
  refine lv_iconst (v := nI 2) hx hb dL_law_825 (by decide) ?_
  refine lv_iadd hx hb dL_law_826 ?_
  obtain ⟨hz, hM⟩ := e_if0 hM
  refine va_sld hx hb hX hbl hbA J.2 hz dL_law_827 ?_
  refine lv_aload_n hx hb dL_law_828 rfl (lv_at hl 0 rfl) ?_
  refine lv_iload_n hx hb dL_law_829 rfl (lv_at hl 3 rfl) ?_
  refine lv_iconst (v := nI 3) hx hb dL_law_830 (by decide) ?_
  refine lv_iadd hx hb dL_law_831 ?_
  obtain ⟨hz, hM⟩ := e_if0 hM
  refine va_sld hx hb hX hbl hbA J.2 hz dL_law_832 ?_
  refine lv_aload_n hx hb dL_law_833 rfl (lv_at hl 0 rfl) ?_
  refine lv_iload_n hx hb dL_law_834 rfl (lv_at hl 3 rfl) ?_
  refine lv_iconst (v := nI 4) hx hb dL_law_835 (by decide) ?_
  refine lv_iadd hx hb dL_law_836 ?_
  obtain ⟨hz, hM⟩ := e_if0 hM
  refine va_sld hx hb hX hbl hbA J.2 hz dL_law_837 ?_
  obtain ⟨p1, hv, hM⟩ := e_bs hM
  obtain ⟨fs_, hk, -⟩ := e_bs hv
  refine e_callV (ci := 8) (As := [.int (xs ((l3 + (nI 1))).toNatClampNeg), .int (xs ((l3 + (nI 2))).toNatClampNeg), .int (xs ((l3 + (nI 3))).toNatClampNeg), .int (xs ((l3 + (nI 4))).toNatClampNeg)]) (rest := []) (n := 4) E J hk rfl (mX8_tree (l := l) (G := G) l1 (xs ((l3 + (nI 1))).toNatClampNeg) (xs ((l3 + (nI 2))).toNatClampNeg) (xs ((l3 + (nI 3))).toNatClampNeg) (xs ((l3 + (nI 4))).toNatClampNeg) h _ hv) q_3_23 q_3_24 q_3_25 q_1_1 q_3_26 (by decide +kernel) rfl ⟨Nat.le_of_ble_eq_true rfl, Nat.le_of_ble_eq_true rfl⟩ (st0 := [.int (xs ((l3 + (nI 4))).toNatClampNeg), .int (xs ((l3 + (nI 3))).toNatClampNeg), .int (xs ((l3 + (nI 2))).toNatClampNeg), .int (xs ((l3 + (nI 1))).toNatClampNeg), .ref (e_ad G l1)]) (st1 := [.int p1.1]) rfl rfl hl.1 (Nat.le_of_ble_eq_true rfl) dL_law_838 ⟨e_rcc (by omega), e_rcs (by omega)⟩ (fun H locs J => ?_)
  refine lv_aload_n hx hb dL_law_841 rfl (lv_at hl 2 rfl) ?_
  refine lv_aload_n hx hb dL_law_842 rfl (lv_at hl 0 rfl) ?_
  refine lv_iload_n hx hb dL_law_843 rfl (lv_at hl 3 rfl) ?_
  refine lv_iconst (v := nI 1) hx hb dL_law_844 (by decide) ?_
  refine lv_iadd hx hb dL_law_845 ?_
  obtain ⟨hz, hM⟩ := e_if0 hM
  refine va_sld hx hb hX hbl hbA J.2 hz dL_law_846 ?_
  refine lv_aload_n hx hb dL_law_847 rfl (lv_at hl 0 rfl) ?_
  refine lv_iload_n hx hb dL_law_848 rfl (lv_at hl 3 rfl) ?_
  refine lv_iconst (v := nI 2) hx hb dL_law_849 (by decide) ?_
  refine lv_iadd hx hb dL_law_850 ?_
  obtain ⟨hz, hM⟩ := e_if0 hM
  refine va_sld hx hb hX hbl hbA J.2 hz dL_law_851 ?_
  refine lv_aload_n hx hb dL_law_852 rfl (lv_at hl 0 rfl) ?_
  refine lv_iload_n hx hb dL_law_853 rfl (lv_at hl 3 rfl) ?_
  refine lv_iconst (v := nI 3) hx hb dL_law_854 (by decide) ?_
  refine lv_iadd hx hb dL_law_855 ?_
  obtain ⟨hz, hM⟩ := e_if0 hM
  refine va_sld hx hb hX hbl hbA J.2 hz dL_law_856 ?_
  refine lv_aload_n hx hb dL_law_857 rfl (lv_at hl 0 rfl) ?_
  refine lv_iload_n hx hb dL_law_858 rfl (lv_at hl 3 rfl) ?_
  refine lv_iconst (v := nI 4) hx hb dL_law_859 (by decide) ?_
  refine lv_iadd hx hb dL_law_860 ?_
  obtain ⟨hz, hM⟩ := e_if0 hM
  refine va_sld hx hb hX hbl hbA J.2 hz dL_law_861 ?_
  obtain ⟨p2, hv, hM⟩ := e_bs hM
  obtain ⟨fs_, hk, -⟩ := e_bs hv
  refine e_callV (ci := 9) (As := [.int (xs ((l3 + (nI 1))).toNatClampNeg), .int (xs ((l3 + (nI 2))).toNatClampNeg), .int (xs ((l3 + (nI 3))).toNatClampNeg), .int (xs ((l3 + (nI 4))).toNatClampNeg)]) (rest := [.int p1.1]) (n := 4) E J hk rfl (mX9_tree (l := l) (G := G) l2 (xs ((l3 + (nI 1))).toNatClampNeg) (xs ((l3 + (nI 2))).toNatClampNeg) (xs ((l3 + (nI 3))).toNatClampNeg) (xs ((l3 + (nI 4))).toNatClampNeg) p1.2 _ hv) q_6_74 q_6_75 q_6_76 q_1_9 q_6_77 (by decide +kernel) rfl ⟨Nat.le_of_ble_eq_true rfl, Nat.le_of_ble_eq_true rfl⟩ (st0 := [.int (xs ((l3 + (nI 4))).toNatClampNeg), .int (xs ((l3 + (nI 3))).toNatClampNeg), .int (xs ((l3 + (nI 2))).toNatClampNeg), .int (xs ((l3 + (nI 1))).toNatClampNeg), .ref (e_ad G l2), .int p1.1]) (st1 := [.int p2.1, .int p1.1]) rfl rfl hl.1 (Nat.le_of_ble_eq_true rfl) dL_law_862 ⟨e_rcc (by omega), e_rcs (by omega)⟩ (fun H locs J => ?_)
  refine lv_icmp_eq (tgt := 1685) hx hb dL_law_865 (by decide) (fun hc => ?_) (fun hc => ?_)
  · have hM := e_ip hc hM
    exact mL_law_b1685 E hX hbl hbA hbz K18 l1 l2 l3 p2.2 hM (by omega) (by omega) J (lv_sub hl [0, 1, 2, 3] rfl)
  · have hM := e_in hc hM
    refine lv_iconst (v := nI 0) hx hb dL_law_868 (by decide) ?_
    cases hM
set_option maxRecDepth 100000 in
set_option maxHeartbeats 4000000 in
theorem mL_law_b870 {p : Program} {l : Launch} {e : Env} {s : State} {m : MethodId} {below : List Frame} {meth : Method} {c : Code} {G : e_G} {L : Nat} {xs : Nat → Int32} {b : Nat} {k18 : Nat → Nat → Int32 → e_H → Option Bool} (E : e_M G p s #[Value.ref b] m meth c cL_law 4 ret RL) (hX : va_X b L xs s s.heap) (hbl : b < s.heap.size) (hbA : ¬ e_A G b) (hbz : G.2.2.1 = s.heap.size) {n9 : Nat} (K18 : ∀ (l1 : Nat) (l2 : Nat) (l3 : Int32) (h : e_H), k18 l1 l2 l3 h = some true → ∀ (cells slots : Nat), cells + (n9 * 2 + 2) ≤ 600000 → slots + (n9 * 99 + 99) ≤ 7302250 → ∀ (H : Heap) (locs : List Loc), e_J G s h H locs → ∀ (ls : Array Slot), lv_has ls 4 [(0, .ref b), (1, .ref (e_ad G l1)), (2, .ref (e_ad G l2)), (3, .int l3)] → W p l e room_1 s m #[Value.ref b] below meth c H locs cells slots (lw_Z below #[Value.ref b] s) (F0 m 18 ls [])) (l1 : Nat) (l2 : Nat) (l3 : Int32) (h : e_H) (hM : fL_law_b870 L xs k18 l1 l2 l3 h = some true) {cells slots : Nat} (hb1 : cells + 0 ≤ 600000) (hb2 : slots + 0 ≤ 7302250) (hb3 : cells + 0 + (n9 * 2 + 2) ≤ 600000) (hb4 : slots + 0 + (n9 * 99 + 99) ≤ 7302250) {H : Heap} {locs : List Loc} (J : e_J G s h H locs) {ls : Array Slot} (hl : lv_has ls 4 [(0, .ref b), (1, .ref (e_ad G l1)), (2, .ref (e_ad G l2)), (3, .int l3)]) : W p l e room_1 s m #[Value.ref b] below meth c H locs cells slots (lw_Z below #[Value.ref b] s) (F0 m 870 ls []) := by
  obtain ⟨hx, hb, hr, hml, hown, hts, hlocks, hES, hbs⟩ := id E
  unfold fL_law_b870 at hM
  refine lv_aload_n hx hb dL_law_870 rfl (lv_at hl 1 rfl) ?_
  refine lv_aload_n hx hb dL_law_871 rfl (lv_at hl 0 rfl) ?_
  refine lv_iload_n hx hb dL_law_872 rfl (lv_at hl 3 rfl) ?_
  refine lv_iconst (v := nI 1) hx hb dL_law_873 (by decide) ?_
  refine lv_iadd hx hb dL_law_874 ?_
  obtain ⟨hz, hM⟩ := e_if0 hM
  refine va_sld hx hb hX hbl hbA J.2 hz dL_law_875 ?_
  refine lv_aload_n hx hb dL_law_876 rfl (lv_at hl 0 rfl) ?_
  refine lv_iload_n hx hb dL_law_877 rfl (lv_at hl 3 rfl) ?_
  refine lv_iconst (v := nI 2) hx hb dL_law_878 (by decide) ?_
  refine lv_iadd hx hb dL_law_879 ?_
  obtain ⟨hz, hM⟩ := e_if0 hM
  refine va_sld hx hb hX hbl hbA J.2 hz dL_law_880 ?_
  refine lv_aload_n hx hb dL_law_881 rfl (lv_at hl 0 rfl) ?_
  refine lv_iload_n hx hb dL_law_882 rfl (lv_at hl 3 rfl) ?_
  refine lv_iconst (v := nI 3) hx hb dL_law_883 (by decide) ?_
  refine lv_iadd hx hb dL_law_884 ?_
  obtain ⟨hz, hM⟩ := e_if0 hM
  refine va_sld hx hb hX hbl hbA J.2 hz dL_law_885 ?_
  obtain ⟨p1, hv, hM⟩ := e_bs hM
  obtain ⟨fs_, hk, -⟩ := e_bs hv
  refine e_callV (ci := 8) (As := [.int (xs ((l3 + (nI 1))).toNatClampNeg), .int (xs ((l3 + (nI 2))).toNatClampNeg), .int (xs ((l3 + (nI 3))).toNatClampNeg)]) (rest := []) (n := 3) E J hk rfl (mX8_corner (l := l) (G := G) l1 (xs ((l3 + (nI 1))).toNatClampNeg) (xs ((l3 + (nI 2))).toNatClampNeg) (xs ((l3 + (nI 3))).toNatClampNeg) h _ hv) q_3_40 q_3_41 q_3_42 q_1_1 q_3_43 (by decide +kernel) rfl ⟨Nat.le_of_ble_eq_true rfl, Nat.le_of_ble_eq_true rfl⟩ (st0 := [.int (xs ((l3 + (nI 3))).toNatClampNeg), .int (xs ((l3 + (nI 2))).toNatClampNeg), .int (xs ((l3 + (nI 1))).toNatClampNeg), .ref (e_ad G l1)]) (st1 := [.int p1.1]) rfl rfl hl.1 (Nat.le_of_ble_eq_true rfl) dL_law_886 ⟨e_rcc (by omega), e_rcs (by omega)⟩ (fun H locs J => ?_)
  refine lv_aload_n hx hb dL_law_889 rfl (lv_at hl 2 rfl) ?_
  refine lv_aload_n hx hb dL_law_890 rfl (lv_at hl 0 rfl) ?_
  refine lv_iload_n hx hb dL_law_891 rfl (lv_at hl 3 rfl) ?_
  refine lv_iconst (v := nI 1) hx hb dL_law_892 (by decide) ?_
  refine lv_iadd hx hb dL_law_893 ?_
  obtain ⟨hz, hM⟩ := e_if0 hM
  refine va_sld hx hb hX hbl hbA J.2 hz dL_law_894 ?_
  refine lv_aload_n hx hb dL_law_895 rfl (lv_at hl 0 rfl) ?_
  refine lv_iload_n hx hb dL_law_896 rfl (lv_at hl 3 rfl) ?_
  refine lv_iconst (v := nI 2) hx hb dL_law_897 (by decide) ?_
  refine lv_iadd hx hb dL_law_898 ?_
  obtain ⟨hz, hM⟩ := e_if0 hM
  refine va_sld hx hb hX hbl hbA J.2 hz dL_law_899 ?_
  refine lv_aload_n hx hb dL_law_900 rfl (lv_at hl 0 rfl) ?_
  refine lv_iload_n hx hb dL_law_901 rfl (lv_at hl 3 rfl) ?_
  refine lv_iconst (v := nI 3) hx hb dL_law_902 (by decide) ?_
  refine lv_iadd hx hb dL_law_903 ?_
  obtain ⟨hz, hM⟩ := e_if0 hM
  refine va_sld hx hb hX hbl hbA J.2 hz dL_law_904 ?_
  obtain ⟨p2, hv, hM⟩ := e_bs hM
  obtain ⟨fs_, hk, -⟩ := e_bs hv
  refine e_callV (ci := 9) (As := [.int (xs ((l3 + (nI 1))).toNatClampNeg), .int (xs ((l3 + (nI 2))).toNatClampNeg), .int (xs ((l3 + (nI 3))).toNatClampNeg)]) (rest := [.int p1.1]) (n := 3) E J hk rfl (mX9_corner (l := l) (G := G) l2 (xs ((l3 + (nI 1))).toNatClampNeg) (xs ((l3 + (nI 2))).toNatClampNeg) (xs ((l3 + (nI 3))).toNatClampNeg) p1.2 _ hv) q_6_82 q_6_83 q_6_84 q_1_9 q_6_85 (by decide +kernel) rfl ⟨Nat.le_of_ble_eq_true rfl, Nat.le_of_ble_eq_true rfl⟩ (st0 := [.int (xs ((l3 + (nI 3))).toNatClampNeg), .int (xs ((l3 + (nI 2))).toNatClampNeg), .int (xs ((l3 + (nI 1))).toNatClampNeg), .ref (e_ad G l2), .int p1.1]) (st1 := [.int p2.1, .int p1.1]) rfl rfl hl.1 (Nat.le_of_ble_eq_true rfl) dL_law_905 ⟨e_rcc (by omega), e_rcs (by omega)⟩ (fun H locs J => ?_)
  refine lv_icmp_eq (tgt := 1685) hx hb dL_law_908 (by decide) (fun hc => ?_) (fun hc => ?_)
  · have hM := e_ip hc hM
    exact mL_law_b1685 E hX hbl hbA hbz K18 l1 l2 l3 p2.2 hM (by omega) (by omega) J (lv_sub hl [0, 1, 2, 3] rfl)
  · have hM := e_in hc hM
    refine lv_iconst (v := nI 0) hx hb dL_law_911 (by decide) ?_
    cases hM
set_option maxRecDepth 100000 in
set_option maxHeartbeats 4000000 in
theorem mL_law_b913 {p : Program} {l : Launch} {e : Env} {s : State} {m : MethodId} {below : List Frame} {meth : Method} {c : Code} {G : e_G} {L : Nat} {xs : Nat → Int32} {b : Nat} {k18 : Nat → Nat → Int32 → e_H → Option Bool} (E : e_M G p s #[Value.ref b] m meth c cL_law 4 ret RL) (hX : va_X b L xs s s.heap) (hbl : b < s.heap.size) (hbA : ¬ e_A G b) (hbz : G.2.2.1 = s.heap.size) {n9 : Nat} (K18 : ∀ (l1 : Nat) (l2 : Nat) (l3 : Int32) (h : e_H), k18 l1 l2 l3 h = some true → ∀ (cells slots : Nat), cells + (n9 * 2 + 2) ≤ 600000 → slots + (n9 * 99 + 99) ≤ 7302250 → ∀ (H : Heap) (locs : List Loc), e_J G s h H locs → ∀ (ls : Array Slot), lv_has ls 4 [(0, .ref b), (1, .ref (e_ad G l1)), (2, .ref (e_ad G l2)), (3, .int l3)] → W p l e room_1 s m #[Value.ref b] below meth c H locs cells slots (lw_Z below #[Value.ref b] s) (F0 m 18 ls [])) (l1 : Nat) (l2 : Nat) (l3 : Int32) (h : e_H) (hM : fL_law_b913 L xs k18 l1 l2 l3 h = some true) {cells slots : Nat} (hb1 : cells + 0 ≤ 600000) (hb2 : slots + 0 ≤ 7302250) (hb3 : cells + 0 + (n9 * 2 + 2) ≤ 600000) (hb4 : slots + 0 + (n9 * 99 + 99) ≤ 7302250) {H : Heap} {locs : List Loc} (J : e_J G s h H locs) {ls : Array Slot} (hl : lv_has ls 4 [(0, .ref b), (1, .ref (e_ad G l1)), (2, .ref (e_ad G l2)), (3, .int l3)]) : W p l e room_1 s m #[Value.ref b] below meth c H locs cells slots (lw_Z below #[Value.ref b] s) (F0 m 913 ls []) := by
  obtain ⟨hx, hb, hr, hml, hown, hts, hlocks, hES, hbs⟩ := id E
  unfold fL_law_b913 at hM
  refine lv_aload_n hx hb dL_law_913 rfl (lv_at hl 1 rfl) ?_
  refine lv_aload_n hx hb dL_law_914 rfl (lv_at hl 0 rfl) ?_
  refine lv_iload_n hx hb dL_law_915 rfl (lv_at hl 3 rfl) ?_
  refine lv_iconst (v := nI 1) hx hb dL_law_916 (by decide) ?_
  refine lv_iadd hx hb dL_law_917 ?_
  obtain ⟨hz, hM⟩ := e_if0 hM
  refine va_sld hx hb hX hbl hbA J.2 hz dL_law_918 ?_
  refine lv_aload_n hx hb dL_law_919 rfl (lv_at hl 0 rfl) ?_
  refine lv_iload_n hx hb dL_law_920 rfl (lv_at hl 3 rfl) ?_
  refine lv_iconst (v := nI 2) hx hb dL_law_921 (by decide) ?_
  refine lv_iadd hx hb dL_law_922 ?_
  obtain ⟨hz, hM⟩ := e_if0 hM
  refine va_sld hx hb hX hbl hbA J.2 hz dL_law_923 ?_
  refine lv_aload_n hx hb dL_law_924 rfl (lv_at hl 0 rfl) ?_
  refine lv_iload_n hx hb dL_law_925 rfl (lv_at hl 3 rfl) ?_
  refine lv_iconst (v := nI 3) hx hb dL_law_926 (by decide) ?_
  refine lv_iadd hx hb dL_law_927 ?_
  obtain ⟨hz, hM⟩ := e_if0 hM
  refine va_sld hx hb hX hbl hbA J.2 hz dL_law_928 ?_
  obtain ⟨p1, hv, hM⟩ := e_bs hM
  obtain ⟨fs_, hk, -⟩ := e_bs hv
  refine e_callV (ci := 8) (As := [.int (xs ((l3 + (nI 1))).toNatClampNeg), .int (xs ((l3 + (nI 2))).toNatClampNeg), .int (xs ((l3 + (nI 3))).toNatClampNeg)]) (rest := []) (n := 3) E J hk rfl (mX8_power (l := l) (G := G) l1 (xs ((l3 + (nI 1))).toNatClampNeg) (xs ((l3 + (nI 2))).toNatClampNeg) (xs ((l3 + (nI 3))).toNatClampNeg) h _ hv) q_3_49 q_3_50 q_3_51 q_1_1 q_3_52 (by decide +kernel) rfl ⟨Nat.le_of_ble_eq_true rfl, Nat.le_of_ble_eq_true rfl⟩ (st0 := [.int (xs ((l3 + (nI 3))).toNatClampNeg), .int (xs ((l3 + (nI 2))).toNatClampNeg), .int (xs ((l3 + (nI 1))).toNatClampNeg), .ref (e_ad G l1)]) (st1 := [.int p1.1]) rfl rfl hl.1 (Nat.le_of_ble_eq_true rfl) dL_law_929 ⟨e_rcc (by omega), e_rcs (by omega)⟩ (fun H locs J => ?_)
  refine lv_aload_n hx hb dL_law_932 rfl (lv_at hl 2 rfl) ?_
  refine lv_aload_n hx hb dL_law_933 rfl (lv_at hl 0 rfl) ?_
  refine lv_iload_n hx hb dL_law_934 rfl (lv_at hl 3 rfl) ?_
  refine lv_iconst (v := nI 1) hx hb dL_law_935 (by decide) ?_
  refine lv_iadd hx hb dL_law_936 ?_
  obtain ⟨hz, hM⟩ := e_if0 hM
  refine va_sld hx hb hX hbl hbA J.2 hz dL_law_937 ?_
  refine lv_aload_n hx hb dL_law_938 rfl (lv_at hl 0 rfl) ?_
  refine lv_iload_n hx hb dL_law_939 rfl (lv_at hl 3 rfl) ?_
  refine lv_iconst (v := nI 2) hx hb dL_law_940 (by decide) ?_
  refine lv_iadd hx hb dL_law_941 ?_
  obtain ⟨hz, hM⟩ := e_if0 hM
  refine va_sld hx hb hX hbl hbA J.2 hz dL_law_942 ?_
  refine lv_aload_n hx hb dL_law_943 rfl (lv_at hl 0 rfl) ?_
  refine lv_iload_n hx hb dL_law_944 rfl (lv_at hl 3 rfl) ?_
  refine lv_iconst (v := nI 3) hx hb dL_law_945 (by decide) ?_
  refine lv_iadd hx hb dL_law_946 ?_
  obtain ⟨hz, hM⟩ := e_if0 hM
  refine va_sld hx hb hX hbl hbA J.2 hz dL_law_947 ?_
  obtain ⟨p2, hv, hM⟩ := e_bs hM
  obtain ⟨fs_, hk, -⟩ := e_bs hv
  refine e_callV (ci := 9) (As := [.int (xs ((l3 + (nI 1))).toNatClampNeg), .int (xs ((l3 + (nI 2))).toNatClampNeg), .int (xs ((l3 + (nI 3))).toNatClampNeg)]) (rest := [.int p1.1]) (n := 3) E J hk rfl (mX9_power (l := l) (G := G) l2 (xs ((l3 + (nI 1))).toNatClampNeg) (xs ((l3 + (nI 2))).toNatClampNeg) (xs ((l3 + (nI 3))).toNatClampNeg) p1.2 _ hv) q_6_91 q_6_92 q_6_93 q_1_9 q_6_94 (by decide +kernel) rfl ⟨Nat.le_of_ble_eq_true rfl, Nat.le_of_ble_eq_true rfl⟩ (st0 := [.int (xs ((l3 + (nI 3))).toNatClampNeg), .int (xs ((l3 + (nI 2))).toNatClampNeg), .int (xs ((l3 + (nI 1))).toNatClampNeg), .ref (e_ad G l2), .int p1.1]) (st1 := [.int p2.1, .int p1.1]) rfl rfl hl.1 (Nat.le_of_ble_eq_true rfl) dL_law_948 ⟨e_rcc (by omega), e_rcs (by omega)⟩ (fun H locs J => ?_)
  refine lv_icmp_eq (tgt := 1685) hx hb dL_law_951 (by decide) (fun hc => ?_) (fun hc => ?_)
  · have hM := e_ip hc hM
    exact mL_law_b1685 E hX hbl hbA hbz K18 l1 l2 l3 p2.2 hM (by omega) (by omega) J (lv_sub hl [0, 1, 2, 3] rfl)
  · have hM := e_in hc hM
    refine lv_iconst (v := nI 0) hx hb dL_law_954 (by decide) ?_
    cases hM
set_option maxRecDepth 100000 in
set_option maxHeartbeats 4000000 in
theorem mL_law_b956 {p : Program} {l : Launch} {e : Env} {s : State} {m : MethodId} {below : List Frame} {meth : Method} {c : Code} {G : e_G} {L : Nat} {xs : Nat → Int32} {b : Nat} {k18 : Nat → Nat → Int32 → e_H → Option Bool} (E : e_M G p s #[Value.ref b] m meth c cL_law 4 ret RL) (hX : va_X b L xs s s.heap) (hbl : b < s.heap.size) (hbA : ¬ e_A G b) (hbz : G.2.2.1 = s.heap.size) {n9 : Nat} (K18 : ∀ (l1 : Nat) (l2 : Nat) (l3 : Int32) (h : e_H), k18 l1 l2 l3 h = some true → ∀ (cells slots : Nat), cells + (n9 * 2 + 2) ≤ 600000 → slots + (n9 * 99 + 99) ≤ 7302250 → ∀ (H : Heap) (locs : List Loc), e_J G s h H locs → ∀ (ls : Array Slot), lv_has ls 4 [(0, .ref b), (1, .ref (e_ad G l1)), (2, .ref (e_ad G l2)), (3, .int l3)] → W p l e room_1 s m #[Value.ref b] below meth c H locs cells slots (lw_Z below #[Value.ref b] s) (F0 m 18 ls [])) (l1 : Nat) (l2 : Nat) (l3 : Int32) (h : e_H) (hM : fL_law_b956 L xs k18 l1 l2 l3 h = some true) {cells slots : Nat} (hb1 : cells + 0 ≤ 600000) (hb2 : slots + 0 ≤ 7302250) (hb3 : cells + 0 + (n9 * 2 + 2) ≤ 600000) (hb4 : slots + 0 + (n9 * 99 + 99) ≤ 7302250) {H : Heap} {locs : List Loc} (J : e_J G s h H locs) {ls : Array Slot} (hl : lv_has ls 4 [(0, .ref b), (1, .ref (e_ad G l1)), (2, .ref (e_ad G l2)), (3, .int l3)]) : W p l e room_1 s m #[Value.ref b] below meth c H locs cells slots (lw_Z below #[Value.ref b] s) (F0 m 956 ls []) := by
  obtain ⟨hx, hb, hr, hml, hown, hts, hlocks, hES, hbs⟩ := id E
  unfold fL_law_b956 at hM
  refine lv_aload_n hx hb dL_law_956 rfl (lv_at hl 1 rfl) ?_
  refine lv_aload_n hx hb dL_law_957 rfl (lv_at hl 0 rfl) ?_
  refine lv_iload_n hx hb dL_law_958 rfl (lv_at hl 3 rfl) ?_
  refine lv_iconst (v := nI 1) hx hb dL_law_959 (by decide) ?_
  refine lv_iadd hx hb dL_law_960 ?_
  obtain ⟨hz, hM⟩ := e_if0 hM
  refine va_sld hx hb hX hbl hbA J.2 hz dL_law_961 ?_
  refine lv_aload_n hx hb dL_law_962 rfl (lv_at hl 0 rfl) ?_
  refine lv_iload_n hx hb dL_law_963 rfl (lv_at hl 3 rfl) ?_
  refine lv_iconst (v := nI 2) hx hb dL_law_964 (by decide) ?_
  refine lv_iadd hx hb dL_law_965 ?_
  obtain ⟨hz, hM⟩ := e_if0 hM
  refine va_sld hx hb hX hbl hbA J.2 hz dL_law_966 ?_
  refine lv_aload_n hx hb dL_law_967 rfl (lv_at hl 0 rfl) ?_
  refine lv_iload_n hx hb dL_law_968 rfl (lv_at hl 3 rfl) ?_
  refine lv_iconst (v := nI 3) hx hb dL_law_969 (by decide) ?_
  refine lv_iadd hx hb dL_law_970 ?_
  obtain ⟨hz, hM⟩ := e_if0 hM
  refine va_sld hx hb hX hbl hbA J.2 hz dL_law_971 ?_
  obtain ⟨p1, hv, hM⟩ := e_bs hM
  obtain ⟨fs_, hk, -⟩ := e_bs hv
  refine e_callV (ci := 8) (As := [.int (xs ((l3 + (nI 1))).toNatClampNeg), .int (xs ((l3 + (nI 2))).toNatClampNeg), .int (xs ((l3 + (nI 3))).toNatClampNeg)]) (rest := []) (n := 3) E J hk rfl (mX8_line (l := l) (G := G) l1 (xs ((l3 + (nI 1))).toNatClampNeg) (xs ((l3 + (nI 2))).toNatClampNeg) (xs ((l3 + (nI 3))).toNatClampNeg) h _ hv) q_3_68 q_3_69 q_3_70 q_1_1 q_3_71 (by decide +kernel) rfl ⟨Nat.le_of_ble_eq_true rfl, Nat.le_of_ble_eq_true rfl⟩ (st0 := [.int (xs ((l3 + (nI 3))).toNatClampNeg), .int (xs ((l3 + (nI 2))).toNatClampNeg), .int (xs ((l3 + (nI 1))).toNatClampNeg), .ref (e_ad G l1)]) (st1 := [.int p1.1]) rfl rfl hl.1 (Nat.le_of_ble_eq_true rfl) dL_law_972 ⟨e_rcc (by omega), e_rcs (by omega)⟩ (fun H locs J => ?_)
  refine lv_aload_n hx hb dL_law_975 rfl (lv_at hl 2 rfl) ?_
  refine lv_aload_n hx hb dL_law_976 rfl (lv_at hl 0 rfl) ?_
  refine lv_iload_n hx hb dL_law_977 rfl (lv_at hl 3 rfl) ?_
  refine lv_iconst (v := nI 1) hx hb dL_law_978 (by decide) ?_
  refine lv_iadd hx hb dL_law_979 ?_
  obtain ⟨hz, hM⟩ := e_if0 hM
  refine va_sld hx hb hX hbl hbA J.2 hz dL_law_980 ?_
  refine lv_aload_n hx hb dL_law_981 rfl (lv_at hl 0 rfl) ?_
  refine lv_iload_n hx hb dL_law_982 rfl (lv_at hl 3 rfl) ?_
  refine lv_iconst (v := nI 2) hx hb dL_law_983 (by decide) ?_
  refine lv_iadd hx hb dL_law_984 ?_
  obtain ⟨hz, hM⟩ := e_if0 hM
  refine va_sld hx hb hX hbl hbA J.2 hz dL_law_985 ?_
  refine lv_aload_n hx hb dL_law_986 rfl (lv_at hl 0 rfl) ?_
  refine lv_iload_n hx hb dL_law_987 rfl (lv_at hl 3 rfl) ?_
  refine lv_iconst (v := nI 3) hx hb dL_law_988 (by decide) ?_
  refine lv_iadd hx hb dL_law_989 ?_
  obtain ⟨hz, hM⟩ := e_if0 hM
  refine va_sld hx hb hX hbl hbA J.2 hz dL_law_990 ?_
  obtain ⟨p2, hv, hM⟩ := e_bs hM
  obtain ⟨fs_, hk, -⟩ := e_bs hv
  refine e_callV (ci := 9) (As := [.int (xs ((l3 + (nI 1))).toNatClampNeg), .int (xs ((l3 + (nI 2))).toNatClampNeg), .int (xs ((l3 + (nI 3))).toNatClampNeg)]) (rest := [.int p1.1]) (n := 3) E J hk rfl (mX9_line (l := l) (G := G) l2 (xs ((l3 + (nI 1))).toNatClampNeg) (xs ((l3 + (nI 2))).toNatClampNeg) (xs ((l3 + (nI 3))).toNatClampNeg) p1.2 _ hv) q_6_98 q_6_99 q_6_100 q_1_9 q_6_101 (by decide +kernel) rfl ⟨Nat.le_of_ble_eq_true rfl, Nat.le_of_ble_eq_true rfl⟩ (st0 := [.int (xs ((l3 + (nI 3))).toNatClampNeg), .int (xs ((l3 + (nI 2))).toNatClampNeg), .int (xs ((l3 + (nI 1))).toNatClampNeg), .ref (e_ad G l2), .int p1.1]) (st1 := [.int p2.1, .int p1.1]) rfl rfl hl.1 (Nat.le_of_ble_eq_true rfl) dL_law_991 ⟨e_rcc (by omega), e_rcs (by omega)⟩ (fun H locs J => ?_)
  refine lv_icmp_eq (tgt := 1685) hx hb dL_law_994 (by decide) (fun hc => ?_) (fun hc => ?_)
  · have hM := e_ip hc hM
    exact mL_law_b1685 E hX hbl hbA hbz K18 l1 l2 l3 p2.2 hM (by omega) (by omega) J (lv_sub hl [0, 1, 2, 3] rfl)
  · have hM := e_in hc hM
    refine lv_iconst (v := nI 0) hx hb dL_law_997 (by decide) ?_
    cases hM
set_option maxRecDepth 100000 in
set_option maxHeartbeats 4000000 in
theorem mL_law_b999 {p : Program} {l : Launch} {e : Env} {s : State} {m : MethodId} {below : List Frame} {meth : Method} {c : Code} {G : e_G} {L : Nat} {xs : Nat → Int32} {b : Nat} {k18 : Nat → Nat → Int32 → e_H → Option Bool} (E : e_M G p s #[Value.ref b] m meth c cL_law 4 ret RL) (hX : va_X b L xs s s.heap) (hbl : b < s.heap.size) (hbA : ¬ e_A G b) (hbz : G.2.2.1 = s.heap.size) {n9 : Nat} (K18 : ∀ (l1 : Nat) (l2 : Nat) (l3 : Int32) (h : e_H), k18 l1 l2 l3 h = some true → ∀ (cells slots : Nat), cells + (n9 * 2 + 2) ≤ 600000 → slots + (n9 * 99 + 99) ≤ 7302250 → ∀ (H : Heap) (locs : List Loc), e_J G s h H locs → ∀ (ls : Array Slot), lv_has ls 4 [(0, .ref b), (1, .ref (e_ad G l1)), (2, .ref (e_ad G l2)), (3, .int l3)] → W p l e room_1 s m #[Value.ref b] below meth c H locs cells slots (lw_Z below #[Value.ref b] s) (F0 m 18 ls [])) (l1 : Nat) (l2 : Nat) (l3 : Int32) (h : e_H) (hM : fL_law_b999 L xs k18 l1 l2 l3 h = some true) {cells slots : Nat} (hb1 : cells + 0 ≤ 600000) (hb2 : slots + 0 ≤ 7302250) (hb3 : cells + 0 + (n9 * 2 + 2) ≤ 600000) (hb4 : slots + 0 + (n9 * 99 + 99) ≤ 7302250) {H : Heap} {locs : List Loc} (J : e_J G s h H locs) {ls : Array Slot} (hl : lv_has ls 4 [(0, .ref b), (1, .ref (e_ad G l1)), (2, .ref (e_ad G l2)), (3, .int l3)]) : W p l e room_1 s m #[Value.ref b] below meth c H locs cells slots (lw_Z below #[Value.ref b] s) (F0 m 999 ls []) := by
  obtain ⟨hx, hb, hr, hml, hown, hts, hlocks, hES, hbs⟩ := id E
  unfold fL_law_b999 at hM
  refine lv_aload_n hx hb dL_law_999 rfl (lv_at hl 1 rfl) ?_
  refine lv_aload_n hx hb dL_law_1000 rfl (lv_at hl 0 rfl) ?_
  refine lv_iload_n hx hb dL_law_1001 rfl (lv_at hl 3 rfl) ?_
  refine lv_iconst (v := nI 1) hx hb dL_law_1002 (by decide) ?_
  refine lv_iadd hx hb dL_law_1003 ?_
  obtain ⟨hz, hM⟩ := e_if0 hM
  refine va_sld hx hb hX hbl hbA J.2 hz dL_law_1004 ?_
  refine lv_aload_n hx hb dL_law_1005 rfl (lv_at hl 0 rfl) ?_
  refine lv_iload_n hx hb dL_law_1006 rfl (lv_at hl 3 rfl) ?_
  refine lv_iconst (v := nI 2) hx hb dL_law_1007 (by decide) ?_
  refine lv_iadd hx hb dL_law_1008 ?_
  obtain ⟨hz, hM⟩ := e_if0 hM
  refine va_sld hx hb hX hbl hbA J.2 hz dL_law_1009 ?_
  obtain ⟨p1, hv, hM⟩ := e_bs hM
  obtain ⟨fs_, hk, -⟩ := e_bs hv
  refine e_callV (ci := 8) (As := [.int (xs ((l3 + (nI 1))).toNatClampNeg), .int (xs ((l3 + (nI 2))).toNatClampNeg)]) (rest := []) (n := 2) E J hk rfl (mX8_all (l := l) (G := G) l1 (xs ((l3 + (nI 1))).toNatClampNeg) (xs ((l3 + (nI 2))).toNatClampNeg) h _ hv) q_3_81 q_3_82 q_3_83 q_1_1 q_3_84 (by decide +kernel) rfl ⟨Nat.le_of_ble_eq_true rfl, Nat.le_of_ble_eq_true rfl⟩ (st0 := [.int (xs ((l3 + (nI 2))).toNatClampNeg), .int (xs ((l3 + (nI 1))).toNatClampNeg), .ref (e_ad G l1)]) (st1 := [.int p1.1]) rfl rfl hl.1 (Nat.le_of_ble_eq_true rfl) dL_law_1010 ⟨e_rcc (by omega), e_rcs (by omega)⟩ (fun H locs J => ?_)
  refine lv_aload_n hx hb dL_law_1013 rfl (lv_at hl 2 rfl) ?_
  refine lv_aload_n hx hb dL_law_1014 rfl (lv_at hl 0 rfl) ?_
  refine lv_iload_n hx hb dL_law_1015 rfl (lv_at hl 3 rfl) ?_
  refine lv_iconst (v := nI 1) hx hb dL_law_1016 (by decide) ?_
  refine lv_iadd hx hb dL_law_1017 ?_
  obtain ⟨hz, hM⟩ := e_if0 hM
  refine va_sld hx hb hX hbl hbA J.2 hz dL_law_1018 ?_
  refine lv_aload_n hx hb dL_law_1019 rfl (lv_at hl 0 rfl) ?_
  refine lv_iload_n hx hb dL_law_1020 rfl (lv_at hl 3 rfl) ?_
  refine lv_iconst (v := nI 2) hx hb dL_law_1021 (by decide) ?_
  refine lv_iadd hx hb dL_law_1022 ?_
  obtain ⟨hz, hM⟩ := e_if0 hM
  refine va_sld hx hb hX hbl hbA J.2 hz dL_law_1023 ?_
  obtain ⟨p2, hv, hM⟩ := e_bs hM
  obtain ⟨fs_, hk, -⟩ := e_bs hv
  refine e_callV (ci := 9) (As := [.int (xs ((l3 + (nI 1))).toNatClampNeg), .int (xs ((l3 + (nI 2))).toNatClampNeg)]) (rest := [.int p1.1]) (n := 2) E J hk rfl (mX9_all (l := l) (G := G) l2 (xs ((l3 + (nI 1))).toNatClampNeg) (xs ((l3 + (nI 2))).toNatClampNeg) p1.2 _ hv) q_6_102 q_6_103 q_6_104 q_1_9 q_6_105 (by decide +kernel) rfl ⟨Nat.le_of_ble_eq_true rfl, Nat.le_of_ble_eq_true rfl⟩ (st0 := [.int (xs ((l3 + (nI 2))).toNatClampNeg), .int (xs ((l3 + (nI 1))).toNatClampNeg), .ref (e_ad G l2), .int p1.1]) (st1 := [.int p2.1, .int p1.1]) rfl rfl hl.1 (Nat.le_of_ble_eq_true rfl) dL_law_1024 ⟨e_rcc (by omega), e_rcs (by omega)⟩ (fun H locs J => ?_)
  refine lv_icmp_eq (tgt := 1685) hx hb dL_law_1027 (by decide) (fun hc => ?_) (fun hc => ?_)
  · have hM := e_ip hc hM
    exact mL_law_b1685 E hX hbl hbA hbz K18 l1 l2 l3 p2.2 hM (by omega) (by omega) J (lv_sub hl [0, 1, 2, 3] rfl)
  · have hM := e_in hc hM
    refine lv_iconst (v := nI 0) hx hb dL_law_1030 (by decide) ?_
    cases hM
set_option maxRecDepth 100000 in
set_option maxHeartbeats 4000000 in
theorem mL_law_b1032 {p : Program} {l : Launch} {e : Env} {s : State} {m : MethodId} {below : List Frame} {meth : Method} {c : Code} {G : e_G} {L : Nat} {xs : Nat → Int32} {b : Nat} {k18 : Nat → Nat → Int32 → e_H → Option Bool} (E : e_M G p s #[Value.ref b] m meth c cL_law 4 ret RL) (hX : va_X b L xs s s.heap) (hbl : b < s.heap.size) (hbA : ¬ e_A G b) (hbz : G.2.2.1 = s.heap.size) {n9 : Nat} (K18 : ∀ (l1 : Nat) (l2 : Nat) (l3 : Int32) (h : e_H), k18 l1 l2 l3 h = some true → ∀ (cells slots : Nat), cells + (n9 * 2 + 2) ≤ 600000 → slots + (n9 * 99 + 99) ≤ 7302250 → ∀ (H : Heap) (locs : List Loc), e_J G s h H locs → ∀ (ls : Array Slot), lv_has ls 4 [(0, .ref b), (1, .ref (e_ad G l1)), (2, .ref (e_ad G l2)), (3, .int l3)] → W p l e room_1 s m #[Value.ref b] below meth c H locs cells slots (lw_Z below #[Value.ref b] s) (F0 m 18 ls [])) (l1 : Nat) (l2 : Nat) (l3 : Int32) (h : e_H) (hM : fL_law_b1032 L xs k18 l1 l2 l3 h = some true) {cells slots : Nat} (hb1 : cells + 0 ≤ 600000) (hb2 : slots + 0 ≤ 7302250) (hb3 : cells + 0 + (n9 * 2 + 2) ≤ 600000) (hb4 : slots + 0 + (n9 * 99 + 99) ≤ 7302250) {H : Heap} {locs : List Loc} (J : e_J G s h H locs) {ls : Array Slot} (hl : lv_has ls 4 [(0, .ref b), (1, .ref (e_ad G l1)), (2, .ref (e_ad G l2)), (3, .int l3)]) : W p l e room_1 s m #[Value.ref b] below meth c H locs cells slots (lw_Z below #[Value.ref b] s) (F0 m 1032 ls []) := by
  obtain ⟨hx, hb, hr, hml, hown, hts, hlocks, hES, hbs⟩ := id E
  unfold fL_law_b1032 at hM
  refine lv_aload_n hx hb dL_law_1032 rfl (lv_at hl 1 rfl) ?_
  refine lv_aload_n hx hb dL_law_1033 rfl (lv_at hl 0 rfl) ?_
  refine lv_iload_n hx hb dL_law_1034 rfl (lv_at hl 3 rfl) ?_
  refine lv_iconst (v := nI 1) hx hb dL_law_1035 (by decide) ?_
  refine lv_iadd hx hb dL_law_1036 ?_
  obtain ⟨hz, hM⟩ := e_if0 hM
  refine va_sld hx hb hX hbl hbA J.2 hz dL_law_1037 ?_
  refine lv_aload_n hx hb dL_law_1038 rfl (lv_at hl 0 rfl) ?_
  refine lv_iload_n hx hb dL_law_1039 rfl (lv_at hl 3 rfl) ?_
  refine lv_iconst (v := nI 2) hx hb dL_law_1040 (by decide) ?_
  refine lv_iadd hx hb dL_law_1041 ?_
  obtain ⟨hz, hM⟩ := e_if0 hM
  refine va_sld hx hb hX hbl hbA J.2 hz dL_law_1042 ?_
  obtain ⟨p1, hv, hM⟩ := e_bs hM
  obtain ⟨fs_, hk, -⟩ := e_bs hv
  refine e_callV (ci := 8) (As := [.int (xs ((l3 + (nI 1))).toNatClampNeg), .int (xs ((l3 + (nI 2))).toNatClampNeg)]) (rest := []) (n := 2) E J hk rfl (mX8_on (l := l) (G := G) l1 (xs ((l3 + (nI 1))).toNatClampNeg) (xs ((l3 + (nI 2))).toNatClampNeg) h _ hv) q_3_101 q_3_102 q_3_103 q_1_1 q_3_104 (by decide +kernel) rfl ⟨Nat.le_of_ble_eq_true rfl, Nat.le_of_ble_eq_true rfl⟩ (st0 := [.int (xs ((l3 + (nI 2))).toNatClampNeg), .int (xs ((l3 + (nI 1))).toNatClampNeg), .ref (e_ad G l1)]) (st1 := [.int p1.1]) rfl rfl hl.1 (Nat.le_of_ble_eq_true rfl) dL_law_1043 ⟨e_rcc (by omega), e_rcs (by omega)⟩ (fun H locs J => ?_)
  refine lv_aload_n hx hb dL_law_1046 rfl (lv_at hl 2 rfl) ?_
  refine lv_aload_n hx hb dL_law_1047 rfl (lv_at hl 0 rfl) ?_
  refine lv_iload_n hx hb dL_law_1048 rfl (lv_at hl 3 rfl) ?_
  refine lv_iconst (v := nI 1) hx hb dL_law_1049 (by decide) ?_
  refine lv_iadd hx hb dL_law_1050 ?_
  obtain ⟨hz, hM⟩ := e_if0 hM
  refine va_sld hx hb hX hbl hbA J.2 hz dL_law_1051 ?_
  refine lv_aload_n hx hb dL_law_1052 rfl (lv_at hl 0 rfl) ?_
  refine lv_iload_n hx hb dL_law_1053 rfl (lv_at hl 3 rfl) ?_
  refine lv_iconst (v := nI 2) hx hb dL_law_1054 (by decide) ?_
  refine lv_iadd hx hb dL_law_1055 ?_
  obtain ⟨hz, hM⟩ := e_if0 hM
  refine va_sld hx hb hX hbl hbA J.2 hz dL_law_1056 ?_
  obtain ⟨p2, hv, hM⟩ := e_bs hM
  obtain ⟨fs_, hk, -⟩ := e_bs hv
  refine e_callV (ci := 9) (As := [.int (xs ((l3 + (nI 1))).toNatClampNeg), .int (xs ((l3 + (nI 2))).toNatClampNeg)]) (rest := [.int p1.1]) (n := 2) E J hk rfl (mX9_on (l := l) (G := G) l2 (xs ((l3 + (nI 1))).toNatClampNeg) (xs ((l3 + (nI 2))).toNatClampNeg) p1.2 _ hv) q_6_106 q_6_107 q_6_108 q_1_9 q_6_109 (by decide +kernel) rfl ⟨Nat.le_of_ble_eq_true rfl, Nat.le_of_ble_eq_true rfl⟩ (st0 := [.int (xs ((l3 + (nI 2))).toNatClampNeg), .int (xs ((l3 + (nI 1))).toNatClampNeg), .ref (e_ad G l2), .int p1.1]) (st1 := [.int p2.1, .int p1.1]) rfl rfl hl.1 (Nat.le_of_ble_eq_true rfl) dL_law_1057 ⟨e_rcc (by omega), e_rcs (by omega)⟩ (fun H locs J => ?_)
  refine lv_icmp_eq (tgt := 1685) hx hb dL_law_1060 (by decide) (fun hc => ?_) (fun hc => ?_)
  · have hM := e_ip hc hM
    exact mL_law_b1685 E hX hbl hbA hbz K18 l1 l2 l3 p2.2 hM (by omega) (by omega) J (lv_sub hl [0, 1, 2, 3] rfl)
  · have hM := e_in hc hM
    refine lv_iconst (v := nI 0) hx hb dL_law_1063 (by decide) ?_
    cases hM
set_option maxRecDepth 100000 in
set_option maxHeartbeats 4000000 in
theorem mL_law_b1065 {p : Program} {l : Launch} {e : Env} {s : State} {m : MethodId} {below : List Frame} {meth : Method} {c : Code} {G : e_G} {L : Nat} {xs : Nat → Int32} {b : Nat} {k18 : Nat → Nat → Int32 → e_H → Option Bool} (E : e_M G p s #[Value.ref b] m meth c cL_law 4 ret RL) (hX : va_X b L xs s s.heap) (hbl : b < s.heap.size) (hbA : ¬ e_A G b) (hbz : G.2.2.1 = s.heap.size) {n9 : Nat} (K18 : ∀ (l1 : Nat) (l2 : Nat) (l3 : Int32) (h : e_H), k18 l1 l2 l3 h = some true → ∀ (cells slots : Nat), cells + (n9 * 2 + 2) ≤ 600000 → slots + (n9 * 99 + 99) ≤ 7302250 → ∀ (H : Heap) (locs : List Loc), e_J G s h H locs → ∀ (ls : Array Slot), lv_has ls 4 [(0, .ref b), (1, .ref (e_ad G l1)), (2, .ref (e_ad G l2)), (3, .int l3)] → W p l e room_1 s m #[Value.ref b] below meth c H locs cells slots (lw_Z below #[Value.ref b] s) (F0 m 18 ls [])) (l1 : Nat) (l2 : Nat) (l3 : Int32) (h : e_H) (hM : fL_law_b1065 L xs k18 l1 l2 l3 h = some true) {cells slots : Nat} (hb1 : cells + 0 ≤ 600000) (hb2 : slots + 0 ≤ 7302250) (hb3 : cells + 0 + (n9 * 2 + 2) ≤ 600000) (hb4 : slots + 0 + (n9 * 99 + 99) ≤ 7302250) {H : Heap} {locs : List Loc} (J : e_J G s h H locs) {ls : Array Slot} (hl : lv_has ls 4 [(0, .ref b), (1, .ref (e_ad G l1)), (2, .ref (e_ad G l2)), (3, .int l3)]) : W p l e room_1 s m #[Value.ref b] below meth c H locs cells slots (lw_Z below #[Value.ref b] s) (F0 m 1065 ls []) := by
  obtain ⟨hx, hb, hr, hml, hown, hts, hlocks, hES, hbs⟩ := id E
  unfold fL_law_b1065 at hM
  refine lv_aload_n hx hb dL_law_1065 rfl (lv_at hl 1 rfl) ?_
  refine lv_aload_n hx hb dL_law_1066 rfl (lv_at hl 0 rfl) ?_
  refine lv_iload_n hx hb dL_law_1067 rfl (lv_at hl 3 rfl) ?_
  refine lv_iconst (v := nI 1) hx hb dL_law_1068 (by decide) ?_
  refine lv_iadd hx hb dL_law_1069 ?_
  obtain ⟨hz, hM⟩ := e_if0 hM
  refine va_sld hx hb hX hbl hbA J.2 hz dL_law_1070 ?_
  obtain ⟨p1, hv, hM⟩ := e_bs hM
  obtain ⟨fs_, hk, -⟩ := e_bs hv
  refine e_callV (ci := 8) (As := [.int (xs ((l3 + (nI 1))).toNatClampNeg)]) (rest := []) (n := 1) E J hk rfl (mX8_genus (l := l) (G := G) l1 (xs ((l3 + (nI 1))).toNatClampNeg) h _ hv) q_3_113 q_3_114 q_3_115 q_1_1 q_3_116 (by decide +kernel) rfl ⟨Nat.le_of_ble_eq_true rfl, Nat.le_of_ble_eq_true rfl⟩ (st0 := [.int (xs ((l3 + (nI 1))).toNatClampNeg), .ref (e_ad G l1)]) (st1 := [.int p1.1]) rfl rfl hl.1 (Nat.le_of_ble_eq_true rfl) dL_law_1071 ⟨e_rcc (by omega), e_rcs (by omega)⟩ (fun H locs J => ?_)
  refine lv_aload_n hx hb dL_law_1074 rfl (lv_at hl 2 rfl) ?_
  refine lv_aload_n hx hb dL_law_1075 rfl (lv_at hl 0 rfl) ?_
  refine lv_iload_n hx hb dL_law_1076 rfl (lv_at hl 3 rfl) ?_
  refine lv_iconst (v := nI 1) hx hb dL_law_1077 (by decide) ?_
  refine lv_iadd hx hb dL_law_1078 ?_
  obtain ⟨hz, hM⟩ := e_if0 hM
  refine va_sld hx hb hX hbl hbA J.2 hz dL_law_1079 ?_
  obtain ⟨p2, hv, hM⟩ := e_bs hM
  obtain ⟨fs_, hk, -⟩ := e_bs hv
  refine e_callV (ci := 9) (As := [.int (xs ((l3 + (nI 1))).toNatClampNeg)]) (rest := [.int p1.1]) (n := 1) E J hk rfl (mX9_genus (l := l) (G := G) l2 (xs ((l3 + (nI 1))).toNatClampNeg) p1.2 _ hv) q_6_110 q_6_111 q_6_112 q_1_9 q_6_113 (by decide +kernel) rfl ⟨Nat.le_of_ble_eq_true rfl, Nat.le_of_ble_eq_true rfl⟩ (st0 := [.int (xs ((l3 + (nI 1))).toNatClampNeg), .ref (e_ad G l2), .int p1.1]) (st1 := [.int p2.1, .int p1.1]) rfl rfl hl.1 (Nat.le_of_ble_eq_true rfl) dL_law_1080 ⟨e_rcc (by omega), e_rcs (by omega)⟩ (fun H locs J => ?_)
  refine lv_icmp_eq (tgt := 1685) hx hb dL_law_1083 (by decide) (fun hc => ?_) (fun hc => ?_)
  · have hM := e_ip hc hM
    exact mL_law_b1685 E hX hbl hbA hbz K18 l1 l2 l3 p2.2 hM (by omega) (by omega) J (lv_sub hl [0, 1, 2, 3] rfl)
  · have hM := e_in hc hM
    refine lv_iconst (v := nI 0) hx hb dL_law_1086 (by decide) ?_
    cases hM
set_option maxRecDepth 100000 in
set_option maxHeartbeats 4000000 in
theorem mL_law_b1088 {p : Program} {l : Launch} {e : Env} {s : State} {m : MethodId} {below : List Frame} {meth : Method} {c : Code} {G : e_G} {L : Nat} {xs : Nat → Int32} {b : Nat} {k18 : Nat → Nat → Int32 → e_H → Option Bool} (E : e_M G p s #[Value.ref b] m meth c cL_law 4 ret RL) (hX : va_X b L xs s s.heap) (hbl : b < s.heap.size) (hbA : ¬ e_A G b) (hbz : G.2.2.1 = s.heap.size) {n9 : Nat} (K18 : ∀ (l1 : Nat) (l2 : Nat) (l3 : Int32) (h : e_H), k18 l1 l2 l3 h = some true → ∀ (cells slots : Nat), cells + (n9 * 2 + 2) ≤ 600000 → slots + (n9 * 99 + 99) ≤ 7302250 → ∀ (H : Heap) (locs : List Loc), e_J G s h H locs → ∀ (ls : Array Slot), lv_has ls 4 [(0, .ref b), (1, .ref (e_ad G l1)), (2, .ref (e_ad G l2)), (3, .int l3)] → W p l e room_1 s m #[Value.ref b] below meth c H locs cells slots (lw_Z below #[Value.ref b] s) (F0 m 18 ls [])) (l1 : Nat) (l2 : Nat) (l3 : Int32) (h : e_H) (hM : fL_law_b1088 L xs k18 l1 l2 l3 h = some true) {cells slots : Nat} (hb1 : cells + 0 ≤ 600000) (hb2 : slots + 0 ≤ 7302250) (hb3 : cells + 0 + (n9 * 2 + 2) ≤ 600000) (hb4 : slots + 0 + (n9 * 99 + 99) ≤ 7302250) {H : Heap} {locs : List Loc} (J : e_J G s h H locs) {ls : Array Slot} (hl : lv_has ls 4 [(0, .ref b), (1, .ref (e_ad G l1)), (2, .ref (e_ad G l2)), (3, .int l3)]) : W p l e room_1 s m #[Value.ref b] below meth c H locs cells slots (lw_Z below #[Value.ref b] s) (F0 m 1088 ls []) := by
  obtain ⟨hx, hb, hr, hml, hown, hts, hlocks, hES, hbs⟩ := id E
  unfold fL_law_b1088 at hM
  refine lv_aload_n hx hb dL_law_1088 rfl (lv_at hl 1 rfl) ?_
  refine lv_aload_n hx hb dL_law_1089 rfl (lv_at hl 0 rfl) ?_
  refine lv_iload_n hx hb dL_law_1090 rfl (lv_at hl 3 rfl) ?_
  refine lv_iconst (v := nI 1) hx hb dL_law_1091 (by decide) ?_
  refine lv_iadd hx hb dL_law_1092 ?_
  obtain ⟨hz, hM⟩ := e_if0 hM
  refine va_sld hx hb hX hbl hbA J.2 hz dL_law_1093 ?_
  refine lv_aload_n hx hb dL_law_1094 rfl (lv_at hl 0 rfl) ?_
  refine lv_iload_n hx hb dL_law_1095 rfl (lv_at hl 3 rfl) ?_
  refine lv_iconst (v := nI 2) hx hb dL_law_1096 (by decide) ?_
  refine lv_iadd hx hb dL_law_1097 ?_
  obtain ⟨hz, hM⟩ := e_if0 hM
  refine va_sld hx hb hX hbl hbA J.2 hz dL_law_1098 ?_
  obtain ⟨p1, hv, hM⟩ := e_bs hM
  obtain ⟨fs_, hk, -⟩ := e_bs hv
  refine e_callV (ci := 8) (As := [.int (xs ((l3 + (nI 1))).toNatClampNeg), .int (xs ((l3 + (nI 2))).toNatClampNeg)]) (rest := []) (n := 2) E J hk rfl (mX8_both (l := l) (G := G) l1 (xs ((l3 + (nI 1))).toNatClampNeg) (xs ((l3 + (nI 2))).toNatClampNeg) h _ hv) q_3_121 q_3_122 q_3_123 q_1_1 q_3_124 (by decide +kernel) rfl ⟨Nat.le_of_ble_eq_true rfl, Nat.le_of_ble_eq_true rfl⟩ (st0 := [.int (xs ((l3 + (nI 2))).toNatClampNeg), .int (xs ((l3 + (nI 1))).toNatClampNeg), .ref (e_ad G l1)]) (st1 := [.int p1.1]) rfl rfl hl.1 (Nat.le_of_ble_eq_true rfl) dL_law_1099 ⟨e_rcc (by omega), e_rcs (by omega)⟩ (fun H locs J => ?_)
  refine lv_aload_n hx hb dL_law_1102 rfl (lv_at hl 2 rfl) ?_
  refine lv_aload_n hx hb dL_law_1103 rfl (lv_at hl 0 rfl) ?_
  refine lv_iload_n hx hb dL_law_1104 rfl (lv_at hl 3 rfl) ?_
  refine lv_iconst (v := nI 1) hx hb dL_law_1105 (by decide) ?_
  refine lv_iadd hx hb dL_law_1106 ?_
  obtain ⟨hz, hM⟩ := e_if0 hM
  refine va_sld hx hb hX hbl hbA J.2 hz dL_law_1107 ?_
  refine lv_aload_n hx hb dL_law_1108 rfl (lv_at hl 0 rfl) ?_
  refine lv_iload_n hx hb dL_law_1109 rfl (lv_at hl 3 rfl) ?_
  refine lv_iconst (v := nI 2) hx hb dL_law_1110 (by decide) ?_
  refine lv_iadd hx hb dL_law_1111 ?_
  obtain ⟨hz, hM⟩ := e_if0 hM
  refine va_sld hx hb hX hbl hbA J.2 hz dL_law_1112 ?_
  obtain ⟨p2, hv, hM⟩ := e_bs hM
  obtain ⟨fs_, hk, -⟩ := e_bs hv
  refine e_callV (ci := 9) (As := [.int (xs ((l3 + (nI 1))).toNatClampNeg), .int (xs ((l3 + (nI 2))).toNatClampNeg)]) (rest := [.int p1.1]) (n := 2) E J hk rfl (mX9_both (l := l) (G := G) l2 (xs ((l3 + (nI 1))).toNatClampNeg) (xs ((l3 + (nI 2))).toNatClampNeg) p1.2 _ hv) q_6_114 q_6_115 q_6_116 q_1_9 q_6_117 (by decide +kernel) rfl ⟨Nat.le_of_ble_eq_true rfl, Nat.le_of_ble_eq_true rfl⟩ (st0 := [.int (xs ((l3 + (nI 2))).toNatClampNeg), .int (xs ((l3 + (nI 1))).toNatClampNeg), .ref (e_ad G l2), .int p1.1]) (st1 := [.int p2.1, .int p1.1]) rfl rfl hl.1 (Nat.le_of_ble_eq_true rfl) dL_law_1113 ⟨e_rcc (by omega), e_rcs (by omega)⟩ (fun H locs J => ?_)
  refine lv_icmp_eq (tgt := 1685) hx hb dL_law_1116 (by decide) (fun hc => ?_) (fun hc => ?_)
  · have hM := e_ip hc hM
    exact mL_law_b1685 E hX hbl hbA hbz K18 l1 l2 l3 p2.2 hM (by omega) (by omega) J (lv_sub hl [0, 1, 2, 3] rfl)
  · have hM := e_in hc hM
    refine lv_iconst (v := nI 0) hx hb dL_law_1119 (by decide) ?_
    cases hM
set_option maxRecDepth 100000 in
set_option maxHeartbeats 4000000 in
theorem mL_law_b1121 {p : Program} {l : Launch} {e : Env} {s : State} {m : MethodId} {below : List Frame} {meth : Method} {c : Code} {G : e_G} {L : Nat} {xs : Nat → Int32} {b : Nat} {k18 : Nat → Nat → Int32 → e_H → Option Bool} (E : e_M G p s #[Value.ref b] m meth c cL_law 4 ret RL) (hX : va_X b L xs s s.heap) (hbl : b < s.heap.size) (hbA : ¬ e_A G b) (hbz : G.2.2.1 = s.heap.size) {n9 : Nat} (K18 : ∀ (l1 : Nat) (l2 : Nat) (l3 : Int32) (h : e_H), k18 l1 l2 l3 h = some true → ∀ (cells slots : Nat), cells + (n9 * 2 + 2) ≤ 600000 → slots + (n9 * 99 + 99) ≤ 7302250 → ∀ (H : Heap) (locs : List Loc), e_J G s h H locs → ∀ (ls : Array Slot), lv_has ls 4 [(0, .ref b), (1, .ref (e_ad G l1)), (2, .ref (e_ad G l2)), (3, .int l3)] → W p l e room_1 s m #[Value.ref b] below meth c H locs cells slots (lw_Z below #[Value.ref b] s) (F0 m 18 ls [])) (l1 : Nat) (l2 : Nat) (l3 : Int32) (h : e_H) (hM : fL_law_b1121 L xs k18 l1 l2 l3 h = some true) {cells slots : Nat} (hb1 : cells + 0 ≤ 600000) (hb2 : slots + 0 ≤ 7302250) (hb3 : cells + 0 + (n9 * 2 + 2) ≤ 600000) (hb4 : slots + 0 + (n9 * 99 + 99) ≤ 7302250) {H : Heap} {locs : List Loc} (J : e_J G s h H locs) {ls : Array Slot} (hl : lv_has ls 4 [(0, .ref b), (1, .ref (e_ad G l1)), (2, .ref (e_ad G l2)), (3, .int l3)]) : W p l e room_1 s m #[Value.ref b] below meth c H locs cells slots (lw_Z below #[Value.ref b] s) (F0 m 1121 ls []) := by
  obtain ⟨hx, hb, hr, hml, hown, hts, hlocks, hES, hbs⟩ := id E
  unfold fL_law_b1121 at hM
  refine lv_aload_n hx hb dL_law_1121 rfl (lv_at hl 1 rfl) ?_
  refine lv_aload_n hx hb dL_law_1122 rfl (lv_at hl 0 rfl) ?_
  refine lv_iload_n hx hb dL_law_1123 rfl (lv_at hl 3 rfl) ?_
  refine lv_iconst (v := nI 1) hx hb dL_law_1124 (by decide) ?_
  refine lv_iadd hx hb dL_law_1125 ?_
  obtain ⟨hz, hM⟩ := e_if0 hM
  refine va_sld hx hb hX hbl hbA J.2 hz dL_law_1126 ?_
  refine lv_aload_n hx hb dL_law_1127 rfl (lv_at hl 0 rfl) ?_
  refine lv_iload_n hx hb dL_law_1128 rfl (lv_at hl 3 rfl) ?_
  refine lv_iconst (v := nI 2) hx hb dL_law_1129 (by decide) ?_
  refine lv_iadd hx hb dL_law_1130 ?_
  obtain ⟨hz, hM⟩ := e_if0 hM
  refine va_sld hx hb hX hbl hbA J.2 hz dL_law_1131 ?_
  refine lv_aload_n hx hb dL_law_1132 rfl (lv_at hl 0 rfl) ?_
  refine lv_iload_n hx hb dL_law_1133 rfl (lv_at hl 3 rfl) ?_
  refine lv_iconst (v := nI 3) hx hb dL_law_1134 (by decide) ?_
  refine lv_iadd hx hb dL_law_1135 ?_
  obtain ⟨hz, hM⟩ := e_if0 hM
  refine va_sld hx hb hX hbl hbA J.2 hz dL_law_1136 ?_
  obtain ⟨p1, hv, hM⟩ := e_bs hM
  obtain ⟨fs_, hk, -⟩ := e_bs hv
  refine e_callV (ci := 8) (As := [.int (xs ((l3 + (nI 1))).toNatClampNeg), .int (xs ((l3 + (nI 2))).toNatClampNeg), .int (xs ((l3 + (nI 3))).toNatClampNeg)]) (rest := []) (n := 3) E J hk rfl (mX8_feed (l := l) (G := G) l1 (xs ((l3 + (nI 1))).toNatClampNeg) (xs ((l3 + (nI 2))).toNatClampNeg) (xs ((l3 + (nI 3))).toNatClampNeg) h _ hv) q_3_136 q_3_137 q_3_138 q_1_1 q_3_139 (by decide +kernel) rfl ⟨Nat.le_of_ble_eq_true rfl, Nat.le_of_ble_eq_true rfl⟩ (st0 := [.int (xs ((l3 + (nI 3))).toNatClampNeg), .int (xs ((l3 + (nI 2))).toNatClampNeg), .int (xs ((l3 + (nI 1))).toNatClampNeg), .ref (e_ad G l1)]) (st1 := [.int p1.1]) rfl rfl hl.1 (Nat.le_of_ble_eq_true rfl) dL_law_1137 ⟨e_rcc (by omega), e_rcs (by omega)⟩ (fun H locs J => ?_)
  refine lv_aload_n hx hb dL_law_1140 rfl (lv_at hl 2 rfl) ?_
  refine lv_aload_n hx hb dL_law_1141 rfl (lv_at hl 0 rfl) ?_
  refine lv_iload_n hx hb dL_law_1142 rfl (lv_at hl 3 rfl) ?_
  refine lv_iconst (v := nI 1) hx hb dL_law_1143 (by decide) ?_
  refine lv_iadd hx hb dL_law_1144 ?_
  obtain ⟨hz, hM⟩ := e_if0 hM
  refine va_sld hx hb hX hbl hbA J.2 hz dL_law_1145 ?_
  refine lv_aload_n hx hb dL_law_1146 rfl (lv_at hl 0 rfl) ?_
  refine lv_iload_n hx hb dL_law_1147 rfl (lv_at hl 3 rfl) ?_
  refine lv_iconst (v := nI 2) hx hb dL_law_1148 (by decide) ?_
  refine lv_iadd hx hb dL_law_1149 ?_
  obtain ⟨hz, hM⟩ := e_if0 hM
  refine va_sld hx hb hX hbl hbA J.2 hz dL_law_1150 ?_
  refine lv_aload_n hx hb dL_law_1151 rfl (lv_at hl 0 rfl) ?_
  refine lv_iload_n hx hb dL_law_1152 rfl (lv_at hl 3 rfl) ?_
  refine lv_iconst (v := nI 3) hx hb dL_law_1153 (by decide) ?_
  refine lv_iadd hx hb dL_law_1154 ?_
  obtain ⟨hz, hM⟩ := e_if0 hM
  refine va_sld hx hb hX hbl hbA J.2 hz dL_law_1155 ?_
  obtain ⟨p2, hv, hM⟩ := e_bs hM
  obtain ⟨fs_, hk, -⟩ := e_bs hv
  refine e_callV (ci := 9) (As := [.int (xs ((l3 + (nI 1))).toNatClampNeg), .int (xs ((l3 + (nI 2))).toNatClampNeg), .int (xs ((l3 + (nI 3))).toNatClampNeg)]) (rest := [.int p1.1]) (n := 3) E J hk rfl (mX9_feed (l := l) (G := G) l2 (xs ((l3 + (nI 1))).toNatClampNeg) (xs ((l3 + (nI 2))).toNatClampNeg) (xs ((l3 + (nI 3))).toNatClampNeg) p1.2 _ hv) q_6_118 q_6_119 q_6_120 q_1_9 q_6_121 (by decide +kernel) rfl ⟨Nat.le_of_ble_eq_true rfl, Nat.le_of_ble_eq_true rfl⟩ (st0 := [.int (xs ((l3 + (nI 3))).toNatClampNeg), .int (xs ((l3 + (nI 2))).toNatClampNeg), .int (xs ((l3 + (nI 1))).toNatClampNeg), .ref (e_ad G l2), .int p1.1]) (st1 := [.int p2.1, .int p1.1]) rfl rfl hl.1 (Nat.le_of_ble_eq_true rfl) dL_law_1156 ⟨e_rcc (by omega), e_rcs (by omega)⟩ (fun H locs J => ?_)
  refine lv_icmp_eq (tgt := 1685) hx hb dL_law_1159 (by decide) (fun hc => ?_) (fun hc => ?_)
  · have hM := e_ip hc hM
    exact mL_law_b1685 E hX hbl hbA hbz K18 l1 l2 l3 p2.2 hM (by omega) (by omega) J (lv_sub hl [0, 1, 2, 3] rfl)
  · have hM := e_in hc hM
    refine lv_iconst (v := nI 0) hx hb dL_law_1162 (by decide) ?_
    cases hM
set_option maxRecDepth 100000 in
set_option maxHeartbeats 4000000 in
theorem mL_law_b1164 {p : Program} {l : Launch} {e : Env} {s : State} {m : MethodId} {below : List Frame} {meth : Method} {c : Code} {G : e_G} {L : Nat} {xs : Nat → Int32} {b : Nat} {k18 : Nat → Nat → Int32 → e_H → Option Bool} (E : e_M G p s #[Value.ref b] m meth c cL_law 4 ret RL) (hX : va_X b L xs s s.heap) (hbl : b < s.heap.size) (hbA : ¬ e_A G b) (hbz : G.2.2.1 = s.heap.size) {n9 : Nat} (K18 : ∀ (l1 : Nat) (l2 : Nat) (l3 : Int32) (h : e_H), k18 l1 l2 l3 h = some true → ∀ (cells slots : Nat), cells + (n9 * 2 + 2) ≤ 600000 → slots + (n9 * 99 + 99) ≤ 7302250 → ∀ (H : Heap) (locs : List Loc), e_J G s h H locs → ∀ (ls : Array Slot), lv_has ls 4 [(0, .ref b), (1, .ref (e_ad G l1)), (2, .ref (e_ad G l2)), (3, .int l3)] → W p l e room_1 s m #[Value.ref b] below meth c H locs cells slots (lw_Z below #[Value.ref b] s) (F0 m 18 ls [])) (l1 : Nat) (l2 : Nat) (l3 : Int32) (h : e_H) (hM : fL_law_b1164 L xs k18 l1 l2 l3 h = some true) {cells slots : Nat} (hb1 : cells + 0 ≤ 600000) (hb2 : slots + 0 ≤ 7302250) (hb3 : cells + 0 + (n9 * 2 + 2) ≤ 600000) (hb4 : slots + 0 + (n9 * 99 + 99) ≤ 7302250) {H : Heap} {locs : List Loc} (J : e_J G s h H locs) {ls : Array Slot} (hl : lv_has ls 4 [(0, .ref b), (1, .ref (e_ad G l1)), (2, .ref (e_ad G l2)), (3, .int l3)]) : W p l e room_1 s m #[Value.ref b] below meth c H locs cells slots (lw_Z below #[Value.ref b] s) (F0 m 1164 ls []) := by
  obtain ⟨hx, hb, hr, hml, hown, hts, hlocks, hES, hbs⟩ := id E
  unfold fL_law_b1164 at hM
  refine lv_aload_n hx hb dL_law_1164 rfl (lv_at hl 1 rfl) ?_
  refine lv_aload_n hx hb dL_law_1165 rfl (lv_at hl 0 rfl) ?_
  refine lv_iload_n hx hb dL_law_1166 rfl (lv_at hl 3 rfl) ?_
  refine lv_iconst (v := nI 1) hx hb dL_law_1167 (by decide) ?_
  refine lv_iadd hx hb dL_law_1168 ?_
  obtain ⟨hz, hM⟩ := e_if0 hM
  refine va_sld hx hb hX hbl hbA J.2 hz dL_law_1169 ?_
  obtain ⟨p1, hv, hM⟩ := e_bs hM
  obtain ⟨fs_, hk, -⟩ := e_bs hv
  refine e_callV (ci := 8) (As := [.int (xs ((l3 + (nI 1))).toNatClampNeg)]) (rest := []) (n := 1) E J hk rfl (mX8_trim (l := l) (G := G) l1 (xs ((l3 + (nI 1))).toNatClampNeg) h _ hv) q_3_144 q_3_145 q_3_146 q_1_1 q_3_147 (by decide +kernel) rfl ⟨Nat.le_of_ble_eq_true rfl, Nat.le_of_ble_eq_true rfl⟩ (st0 := [.int (xs ((l3 + (nI 1))).toNatClampNeg), .ref (e_ad G l1)]) (st1 := [.int p1.1]) rfl rfl hl.1 (Nat.le_of_ble_eq_true rfl) dL_law_1170 ⟨e_rcc (by omega), e_rcs (by omega)⟩ (fun H locs J => ?_)
  refine lv_aload_n hx hb dL_law_1173 rfl (lv_at hl 2 rfl) ?_
  refine lv_aload_n hx hb dL_law_1174 rfl (lv_at hl 0 rfl) ?_
  refine lv_iload_n hx hb dL_law_1175 rfl (lv_at hl 3 rfl) ?_
  refine lv_iconst (v := nI 1) hx hb dL_law_1176 (by decide) ?_
  refine lv_iadd hx hb dL_law_1177 ?_
  obtain ⟨hz, hM⟩ := e_if0 hM
  refine va_sld hx hb hX hbl hbA J.2 hz dL_law_1178 ?_
  obtain ⟨p2, hv, hM⟩ := e_bs hM
  obtain ⟨fs_, hk, -⟩ := e_bs hv
  refine e_callV (ci := 9) (As := [.int (xs ((l3 + (nI 1))).toNatClampNeg)]) (rest := [.int p1.1]) (n := 1) E J hk rfl (mX9_trim (l := l) (G := G) l2 (xs ((l3 + (nI 1))).toNatClampNeg) p1.2 _ hv) q_6_122 q_6_123 q_6_124 q_1_9 q_6_125 (by decide +kernel) rfl ⟨Nat.le_of_ble_eq_true rfl, Nat.le_of_ble_eq_true rfl⟩ (st0 := [.int (xs ((l3 + (nI 1))).toNatClampNeg), .ref (e_ad G l2), .int p1.1]) (st1 := [.int p2.1, .int p1.1]) rfl rfl hl.1 (Nat.le_of_ble_eq_true rfl) dL_law_1179 ⟨e_rcc (by omega), e_rcs (by omega)⟩ (fun H locs J => ?_)
  refine lv_icmp_eq (tgt := 1685) hx hb dL_law_1182 (by decide) (fun hc => ?_) (fun hc => ?_)
  · have hM := e_ip hc hM
    exact mL_law_b1685 E hX hbl hbA hbz K18 l1 l2 l3 p2.2 hM (by omega) (by omega) J (lv_sub hl [0, 1, 2, 3] rfl)
  · have hM := e_in hc hM
    refine lv_iconst (v := nI 0) hx hb dL_law_1185 (by decide) ?_
    cases hM
set_option maxRecDepth 100000 in
set_option maxHeartbeats 4000000 in
theorem mL_law_b1187 {p : Program} {l : Launch} {e : Env} {s : State} {m : MethodId} {below : List Frame} {meth : Method} {c : Code} {G : e_G} {L : Nat} {xs : Nat → Int32} {b : Nat} {k18 : Nat → Nat → Int32 → e_H → Option Bool} (E : e_M G p s #[Value.ref b] m meth c cL_law 4 ret RL) (hX : va_X b L xs s s.heap) (hbl : b < s.heap.size) (hbA : ¬ e_A G b) (hbz : G.2.2.1 = s.heap.size) {n9 : Nat} (K18 : ∀ (l1 : Nat) (l2 : Nat) (l3 : Int32) (h : e_H), k18 l1 l2 l3 h = some true → ∀ (cells slots : Nat), cells + (n9 * 2 + 2) ≤ 600000 → slots + (n9 * 99 + 99) ≤ 7302250 → ∀ (H : Heap) (locs : List Loc), e_J G s h H locs → ∀ (ls : Array Slot), lv_has ls 4 [(0, .ref b), (1, .ref (e_ad G l1)), (2, .ref (e_ad G l2)), (3, .int l3)] → W p l e room_1 s m #[Value.ref b] below meth c H locs cells slots (lw_Z below #[Value.ref b] s) (F0 m 18 ls [])) (l1 : Nat) (l2 : Nat) (l3 : Int32) (h : e_H) (hM : fL_law_b1187 L xs k18 l1 l2 l3 h = some true) {cells slots : Nat} (hb1 : cells + 2 ≤ 600000) (hb2 : slots + 99 ≤ 7302250) (hb3 : cells + 2 + (n9 * 2 + 2) ≤ 600000) (hb4 : slots + 99 + (n9 * 99 + 99) ≤ 7302250) {H : Heap} {locs : List Loc} (J : e_J G s h H locs) {ls : Array Slot} (hl : lv_has ls 4 [(0, .ref b), (1, .ref (e_ad G l1)), (2, .ref (e_ad G l2)), (3, .int l3)]) : W p l e room_1 s m #[Value.ref b] below meth c H locs cells slots (lw_Z below #[Value.ref b] s) (F0 m 1187 ls []) := by
  obtain ⟨hx, hb, hr, hml, hown, hts, hlocks, hES, hbs⟩ := id E
  unfold fL_law_b1187 at hM
  refine lv_aload_n hx hb dL_law_1187 rfl (lv_at hl 1 rfl) ?_
  obtain ⟨p1, hv, hM⟩ := e_bs hM
  obtain ⟨fs_, hk, -⟩ := e_bs hv
  refine e_callVc (ci := 8) (As := []) (rest := []) (n := 0) E J hk rfl (mX8_text (l := l) (G := G) l1 h _ hv) q_3_148 q_3_149 q_3_150 q_1_1 q_3_151 (by decide +kernel) rfl ⟨Nat.le_of_ble_eq_true rfl, Nat.le_of_ble_eq_true rfl⟩ (st0 := [.ref (e_ad G l1)]) (st1 := [.int p1.1]) rfl rfl hl.1 (Nat.le_of_ble_eq_true rfl) dL_law_1188 ⟨e_rcc (by omega), e_rcs (by omega)⟩ (fun H locs J => ?_)
  refine lv_aload_n hx hb dL_law_1191 rfl (lv_at hl 2 rfl) ?_
  obtain ⟨p2, hv, hM⟩ := e_bs hM
  obtain ⟨fs_, hk, -⟩ := e_bs hv
  refine e_callV (ci := 9) (As := []) (rest := [.int p1.1]) (n := 0) E J hk rfl (mX9_text (l := l) (G := G) l2 p1.2 _ hv) q_6_126 q_6_127 q_6_128 q_1_9 q_6_129 (by decide +kernel) rfl ⟨Nat.le_of_ble_eq_true rfl, Nat.le_of_ble_eq_true rfl⟩ (st0 := [.ref (e_ad G l2), .int p1.1]) (st1 := [.int p2.1, .int p1.1]) rfl rfl hl.1 (Nat.le_of_ble_eq_true rfl) dL_law_1192 ⟨e_rcc (by omega), e_rcs (by omega)⟩ (fun H locs J => ?_)
  refine lv_icmp_eq (tgt := 1685) hx hb dL_law_1195 (by decide) (fun hc => ?_) (fun hc => ?_)
  · have hM := e_ip hc hM
    exact mL_law_b1685 E hX hbl hbA hbz K18 l1 l2 l3 p2.2 hM (by omega) (by omega) J (lv_sub hl [0, 1, 2, 3] rfl)
  · have hM := e_in hc hM
    refine lv_iconst (v := nI 0) hx hb dL_law_1198 (by decide) ?_
    cases hM
set_option maxRecDepth 100000 in
set_option maxHeartbeats 4000000 in
theorem mL_law_b1200 {p : Program} {l : Launch} {e : Env} {s : State} {m : MethodId} {below : List Frame} {meth : Method} {c : Code} {G : e_G} {L : Nat} {xs : Nat → Int32} {b : Nat} {k18 : Nat → Nat → Int32 → e_H → Option Bool} (E : e_M G p s #[Value.ref b] m meth c cL_law 4 ret RL) (hX : va_X b L xs s s.heap) (hbl : b < s.heap.size) (hbA : ¬ e_A G b) (hbz : G.2.2.1 = s.heap.size) {n9 : Nat} (K18 : ∀ (l1 : Nat) (l2 : Nat) (l3 : Int32) (h : e_H), k18 l1 l2 l3 h = some true → ∀ (cells slots : Nat), cells + (n9 * 2 + 2) ≤ 600000 → slots + (n9 * 99 + 99) ≤ 7302250 → ∀ (H : Heap) (locs : List Loc), e_J G s h H locs → ∀ (ls : Array Slot), lv_has ls 4 [(0, .ref b), (1, .ref (e_ad G l1)), (2, .ref (e_ad G l2)), (3, .int l3)] → W p l e room_1 s m #[Value.ref b] below meth c H locs cells slots (lw_Z below #[Value.ref b] s) (F0 m 18 ls [])) (l1 : Nat) (l2 : Nat) (l3 : Int32) (h : e_H) (hM : fL_law_b1200 L xs k18 l1 l2 l3 h = some true) {cells slots : Nat} (hb1 : cells + 0 ≤ 600000) (hb2 : slots + 0 ≤ 7302250) (hb3 : cells + 0 + (n9 * 2 + 2) ≤ 600000) (hb4 : slots + 0 + (n9 * 99 + 99) ≤ 7302250) {H : Heap} {locs : List Loc} (J : e_J G s h H locs) {ls : Array Slot} (hl : lv_has ls 4 [(0, .ref b), (1, .ref (e_ad G l1)), (2, .ref (e_ad G l2)), (3, .int l3)]) : W p l e room_1 s m #[Value.ref b] below meth c H locs cells slots (lw_Z below #[Value.ref b] s) (F0 m 1200 ls []) := by
  obtain ⟨hx, hb, hr, hml, hown, hts, hlocks, hES, hbs⟩ := id E
  unfold fL_law_b1200 at hM
  refine lv_aload_n hx hb dL_law_1200 rfl (lv_at hl 1 rfl) ?_
  refine lv_aload_n hx hb dL_law_1201 rfl (lv_at hl 0 rfl) ?_
  refine lv_iload_n hx hb dL_law_1202 rfl (lv_at hl 3 rfl) ?_
  refine lv_iconst (v := nI 1) hx hb dL_law_1203 (by decide) ?_
  refine lv_iadd hx hb dL_law_1204 ?_
  obtain ⟨hz, hM⟩ := e_if0 hM
  refine va_sld hx hb hX hbl hbA J.2 hz dL_law_1205 ?_
  refine lv_aload_n hx hb dL_law_1206 rfl (lv_at hl 0 rfl) ?_
  refine lv_iload_n hx hb dL_law_1207 rfl (lv_at hl 3 rfl) ?_
  refine lv_iconst (v := nI 2) hx hb dL_law_1208 (by decide) ?_
  refine lv_iadd hx hb dL_law_1209 ?_
  obtain ⟨hz, hM⟩ := e_if0 hM
  refine va_sld hx hb hX hbl hbA J.2 hz dL_law_1210 ?_
  obtain ⟨v1, hv, hM⟩ := e_bs hM
  obtain ⟨fs_, hk, -⟩ := e_bs hv
  refine e_callV (ci := 8) (As := [.int (xs ((l3 + (nI 1))).toNatClampNeg), .int (xs ((l3 + (nI 2))).toNatClampNeg)]) (rest := []) (n := 2) E J hk rfl (mX8_textTold (l := l) (G := G) l1 (xs ((l3 + (nI 1))).toNatClampNeg) (xs ((l3 + (nI 2))).toNatClampNeg) h _ hv) q_4_124 q_4_125 q_4_126 q_1_1 q_4_127 (by decide +kernel) rfl ⟨Nat.le_of_ble_eq_true rfl, Nat.le_of_ble_eq_true rfl⟩ (st0 := [.int (xs ((l3 + (nI 2))).toNatClampNeg), .int (xs ((l3 + (nI 1))).toNatClampNeg), .ref (e_ad G l1)]) (st1 := [.int v1]) rfl rfl hl.1 (Nat.le_of_ble_eq_true rfl) dL_law_1211 ⟨e_rcc (by omega), e_rcs (by omega)⟩ (fun H locs J => ?_)
  refine lv_aload_n hx hb dL_law_1214 rfl (lv_at hl 2 rfl) ?_
  refine lv_aload_n hx hb dL_law_1215 rfl (lv_at hl 0 rfl) ?_
  refine lv_iload_n hx hb dL_law_1216 rfl (lv_at hl 3 rfl) ?_
  refine lv_iconst (v := nI 1) hx hb dL_law_1217 (by decide) ?_
  refine lv_iadd hx hb dL_law_1218 ?_
  obtain ⟨hz, hM⟩ := e_if0 hM
  refine va_sld hx hb hX hbl hbA J.2 hz dL_law_1219 ?_
  refine lv_aload_n hx hb dL_law_1220 rfl (lv_at hl 0 rfl) ?_
  refine lv_iload_n hx hb dL_law_1221 rfl (lv_at hl 3 rfl) ?_
  refine lv_iconst (v := nI 2) hx hb dL_law_1222 (by decide) ?_
  refine lv_iadd hx hb dL_law_1223 ?_
  obtain ⟨hz, hM⟩ := e_if0 hM
  refine va_sld hx hb hX hbl hbA J.2 hz dL_law_1224 ?_
  obtain ⟨v2, hv, hM⟩ := e_bs hM
  obtain ⟨fs_, hk, -⟩ := e_bs hv
  refine e_callV (ci := 9) (As := [.int (xs ((l3 + (nI 1))).toNatClampNeg), .int (xs ((l3 + (nI 2))).toNatClampNeg)]) (rest := [.int v1]) (n := 2) E J hk rfl (mX9_textTold (l := l) (G := G) l2 (xs ((l3 + (nI 1))).toNatClampNeg) (xs ((l3 + (nI 2))).toNatClampNeg) h _ hv) q_6_173 q_6_174 q_6_175 q_1_9 q_6_176 (by decide +kernel) rfl ⟨Nat.le_of_ble_eq_true rfl, Nat.le_of_ble_eq_true rfl⟩ (st0 := [.int (xs ((l3 + (nI 2))).toNatClampNeg), .int (xs ((l3 + (nI 1))).toNatClampNeg), .ref (e_ad G l2), .int v1]) (st1 := [.int v2, .int v1]) rfl rfl hl.1 (Nat.le_of_ble_eq_true rfl) dL_law_1225 ⟨e_rcc (by omega), e_rcs (by omega)⟩ (fun H locs J => ?_)
  refine lv_icmp_eq (tgt := 1685) hx hb dL_law_1228 (by decide) (fun hc => ?_) (fun hc => ?_)
  · have hM := e_ip hc hM
    exact mL_law_b1685 E hX hbl hbA hbz K18 l1 l2 l3 h hM (by omega) (by omega) J (lv_sub hl [0, 1, 2, 3] rfl)
  · have hM := e_in hc hM
    refine lv_iconst (v := nI 0) hx hb dL_law_1231 (by decide) ?_
    cases hM
set_option maxRecDepth 100000 in
set_option maxHeartbeats 4000000 in
theorem mL_law_b1233 {p : Program} {l : Launch} {e : Env} {s : State} {m : MethodId} {below : List Frame} {meth : Method} {c : Code} {G : e_G} {L : Nat} {xs : Nat → Int32} {b : Nat} {k18 : Nat → Nat → Int32 → e_H → Option Bool} (E : e_M G p s #[Value.ref b] m meth c cL_law 4 ret RL) (hX : va_X b L xs s s.heap) (hbl : b < s.heap.size) (hbA : ¬ e_A G b) (hbz : G.2.2.1 = s.heap.size) {n9 : Nat} (K18 : ∀ (l1 : Nat) (l2 : Nat) (l3 : Int32) (h : e_H), k18 l1 l2 l3 h = some true → ∀ (cells slots : Nat), cells + (n9 * 2 + 2) ≤ 600000 → slots + (n9 * 99 + 99) ≤ 7302250 → ∀ (H : Heap) (locs : List Loc), e_J G s h H locs → ∀ (ls : Array Slot), lv_has ls 4 [(0, .ref b), (1, .ref (e_ad G l1)), (2, .ref (e_ad G l2)), (3, .int l3)] → W p l e room_1 s m #[Value.ref b] below meth c H locs cells slots (lw_Z below #[Value.ref b] s) (F0 m 18 ls [])) (l1 : Nat) (l2 : Nat) (l3 : Int32) (h : e_H) (hM : fL_law_b1233 L xs k18 l1 l2 l3 h = some true) {cells slots : Nat} (hb1 : cells + 0 ≤ 600000) (hb2 : slots + 0 ≤ 7302250) (hb3 : cells + 0 + (n9 * 2 + 2) ≤ 600000) (hb4 : slots + 0 + (n9 * 99 + 99) ≤ 7302250) {H : Heap} {locs : List Loc} (J : e_J G s h H locs) {ls : Array Slot} (hl : lv_has ls 4 [(0, .ref b), (1, .ref (e_ad G l1)), (2, .ref (e_ad G l2)), (3, .int l3)]) : W p l e room_1 s m #[Value.ref b] below meth c H locs cells slots (lw_Z below #[Value.ref b] s) (F0 m 1233 ls []) := by
  obtain ⟨hx, hb, hr, hml, hown, hts, hlocks, hES, hbs⟩ := id E
  unfold fL_law_b1233 at hM
  refine lv_aload_n hx hb dL_law_1233 rfl (lv_at hl 1 rfl) ?_
  refine lv_aload_n hx hb dL_law_1234 rfl (lv_at hl 0 rfl) ?_
  refine lv_iload_n hx hb dL_law_1235 rfl (lv_at hl 3 rfl) ?_
  refine lv_iconst (v := nI 1) hx hb dL_law_1236 (by decide) ?_
  refine lv_iadd hx hb dL_law_1237 ?_
  obtain ⟨hz, hM⟩ := e_if0 hM
  refine va_sld hx hb hX hbl hbA J.2 hz dL_law_1238 ?_
  obtain ⟨v1, hv, hM⟩ := e_bs hM
  obtain ⟨fs_, hk, -⟩ := e_bs hv
  refine e_callV (ci := 8) (As := [.int (xs ((l3 + (nI 1))).toNatClampNeg)]) (rest := []) (n := 1) E J hk rfl (mX8_why (l := l) (G := G) l1 (xs ((l3 + (nI 1))).toNatClampNeg) h _ hv) q_4_129 q_4_130 q_4_131 q_1_1 q_4_132 (by decide +kernel) rfl ⟨Nat.le_of_ble_eq_true rfl, Nat.le_of_ble_eq_true rfl⟩ (st0 := [.int (xs ((l3 + (nI 1))).toNatClampNeg), .ref (e_ad G l1)]) (st1 := [.int v1]) rfl rfl hl.1 (Nat.le_of_ble_eq_true rfl) dL_law_1239 ⟨e_rcc (by omega), e_rcs (by omega)⟩ (fun H locs J => ?_)
  refine lv_aload_n hx hb dL_law_1242 rfl (lv_at hl 2 rfl) ?_
  refine lv_aload_n hx hb dL_law_1243 rfl (lv_at hl 0 rfl) ?_
  refine lv_iload_n hx hb dL_law_1244 rfl (lv_at hl 3 rfl) ?_
  refine lv_iconst (v := nI 1) hx hb dL_law_1245 (by decide) ?_
  refine lv_iadd hx hb dL_law_1246 ?_
  obtain ⟨hz, hM⟩ := e_if0 hM
  refine va_sld hx hb hX hbl hbA J.2 hz dL_law_1247 ?_
  obtain ⟨v2, hv, hM⟩ := e_bs hM
  obtain ⟨fs_, hk, -⟩ := e_bs hv
  refine e_callV (ci := 9) (As := [.int (xs ((l3 + (nI 1))).toNatClampNeg)]) (rest := [.int v1]) (n := 1) E J hk rfl (mX9_why (l := l) (G := G) l2 (xs ((l3 + (nI 1))).toNatClampNeg) h _ hv) q_6_177 q_6_178 q_6_179 q_1_9 q_6_180 (by decide +kernel) rfl ⟨Nat.le_of_ble_eq_true rfl, Nat.le_of_ble_eq_true rfl⟩ (st0 := [.int (xs ((l3 + (nI 1))).toNatClampNeg), .ref (e_ad G l2), .int v1]) (st1 := [.int v2, .int v1]) rfl rfl hl.1 (Nat.le_of_ble_eq_true rfl) dL_law_1248 ⟨e_rcc (by omega), e_rcs (by omega)⟩ (fun H locs J => ?_)
  refine lv_icmp_eq (tgt := 1685) hx hb dL_law_1251 (by decide) (fun hc => ?_) (fun hc => ?_)
  · have hM := e_ip hc hM
    exact mL_law_b1685 E hX hbl hbA hbz K18 l1 l2 l3 h hM (by omega) (by omega) J (lv_sub hl [0, 1, 2, 3] rfl)
  · have hM := e_in hc hM
    refine lv_iconst (v := nI 0) hx hb dL_law_1254 (by decide) ?_
    cases hM
set_option maxRecDepth 100000 in
set_option maxHeartbeats 4000000 in
theorem mL_law_b1256 {p : Program} {l : Launch} {e : Env} {s : State} {m : MethodId} {below : List Frame} {meth : Method} {c : Code} {G : e_G} {L : Nat} {xs : Nat → Int32} {b : Nat} {k18 : Nat → Nat → Int32 → e_H → Option Bool} (E : e_M G p s #[Value.ref b] m meth c cL_law 4 ret RL) (hX : va_X b L xs s s.heap) (hbl : b < s.heap.size) (hbA : ¬ e_A G b) (hbz : G.2.2.1 = s.heap.size) {n9 : Nat} (K18 : ∀ (l1 : Nat) (l2 : Nat) (l3 : Int32) (h : e_H), k18 l1 l2 l3 h = some true → ∀ (cells slots : Nat), cells + (n9 * 2 + 2) ≤ 600000 → slots + (n9 * 99 + 99) ≤ 7302250 → ∀ (H : Heap) (locs : List Loc), e_J G s h H locs → ∀ (ls : Array Slot), lv_has ls 4 [(0, .ref b), (1, .ref (e_ad G l1)), (2, .ref (e_ad G l2)), (3, .int l3)] → W p l e room_1 s m #[Value.ref b] below meth c H locs cells slots (lw_Z below #[Value.ref b] s) (F0 m 18 ls [])) (l1 : Nat) (l2 : Nat) (l3 : Int32) (h : e_H) (hM : fL_law_b1256 L xs k18 l1 l2 l3 h = some true) {cells slots : Nat} (hb1 : cells + 0 ≤ 600000) (hb2 : slots + 0 ≤ 7302250) (hb3 : cells + 0 + (n9 * 2 + 2) ≤ 600000) (hb4 : slots + 0 + (n9 * 99 + 99) ≤ 7302250) {H : Heap} {locs : List Loc} (J : e_J G s h H locs) {ls : Array Slot} (hl : lv_has ls 4 [(0, .ref b), (1, .ref (e_ad G l1)), (2, .ref (e_ad G l2)), (3, .int l3)]) : W p l e room_1 s m #[Value.ref b] below meth c H locs cells slots (lw_Z below #[Value.ref b] s) (F0 m 1256 ls []) := by
  obtain ⟨hx, hb, hr, hml, hown, hts, hlocks, hES, hbs⟩ := id E
  unfold fL_law_b1256 at hM
  refine lv_aload_n hx hb dL_law_1256 rfl (lv_at hl 1 rfl) ?_
  refine lv_aload_n hx hb dL_law_1257 rfl (lv_at hl 0 rfl) ?_
  refine lv_iload_n hx hb dL_law_1258 rfl (lv_at hl 3 rfl) ?_
  refine lv_iconst (v := nI 1) hx hb dL_law_1259 (by decide) ?_
  refine lv_iadd hx hb dL_law_1260 ?_
  obtain ⟨hz, hM⟩ := e_if0 hM
  refine va_sld hx hb hX hbl hbA J.2 hz dL_law_1261 ?_
  refine lv_aload_n hx hb dL_law_1262 rfl (lv_at hl 0 rfl) ?_
  refine lv_iload_n hx hb dL_law_1263 rfl (lv_at hl 3 rfl) ?_
  refine lv_iconst (v := nI 2) hx hb dL_law_1264 (by decide) ?_
  refine lv_iadd hx hb dL_law_1265 ?_
  obtain ⟨hz, hM⟩ := e_if0 hM
  refine va_sld hx hb hX hbl hbA J.2 hz dL_law_1266 ?_
  refine lv_aload_n hx hb dL_law_1267 rfl (lv_at hl 0 rfl) ?_
  refine lv_iload_n hx hb dL_law_1268 rfl (lv_at hl 3 rfl) ?_
  refine lv_iconst (v := nI 3) hx hb dL_law_1269 (by decide) ?_
  refine lv_iadd hx hb dL_law_1270 ?_
  obtain ⟨hz, hM⟩ := e_if0 hM
  refine va_sld hx hb hX hbl hbA J.2 hz dL_law_1271 ?_
  obtain ⟨p1, hv, hM⟩ := e_bs hM
  obtain ⟨fs_, hk, -⟩ := e_bs hv
  refine e_callV (ci := 8) (As := [.int (xs ((l3 + (nI 1))).toNatClampNeg), .int (xs ((l3 + (nI 2))).toNatClampNeg), .int (xs ((l3 + (nI 3))).toNatClampNeg)]) (rest := []) (n := 3) E J hk rfl (mX8_sheet (l := l) (G := G) l1 (xs ((l3 + (nI 1))).toNatClampNeg) (xs ((l3 + (nI 2))).toNatClampNeg) (xs ((l3 + (nI 3))).toNatClampNeg) h _ hv) q_4_134 q_4_135 q_4_136 q_1_1 q_4_137 (by decide +kernel) rfl ⟨Nat.le_of_ble_eq_true rfl, Nat.le_of_ble_eq_true rfl⟩ (st0 := [.int (xs ((l3 + (nI 3))).toNatClampNeg), .int (xs ((l3 + (nI 2))).toNatClampNeg), .int (xs ((l3 + (nI 1))).toNatClampNeg), .ref (e_ad G l1)]) (st1 := [.int p1.1]) rfl rfl hl.1 (Nat.le_of_ble_eq_true rfl) dL_law_1272 ⟨e_rcc (by omega), e_rcs (by omega)⟩ (fun H locs J => ?_)
  refine lv_aload_n hx hb dL_law_1275 rfl (lv_at hl 2 rfl) ?_
  refine lv_aload_n hx hb dL_law_1276 rfl (lv_at hl 0 rfl) ?_
  refine lv_iload_n hx hb dL_law_1277 rfl (lv_at hl 3 rfl) ?_
  refine lv_iconst (v := nI 1) hx hb dL_law_1278 (by decide) ?_
  refine lv_iadd hx hb dL_law_1279 ?_
  obtain ⟨hz, hM⟩ := e_if0 hM
  refine va_sld hx hb hX hbl hbA J.2 hz dL_law_1280 ?_
  refine lv_aload_n hx hb dL_law_1281 rfl (lv_at hl 0 rfl) ?_
  refine lv_iload_n hx hb dL_law_1282 rfl (lv_at hl 3 rfl) ?_
  refine lv_iconst (v := nI 2) hx hb dL_law_1283 (by decide) ?_
  refine lv_iadd hx hb dL_law_1284 ?_
  obtain ⟨hz, hM⟩ := e_if0 hM
  refine va_sld hx hb hX hbl hbA J.2 hz dL_law_1285 ?_
  refine lv_aload_n hx hb dL_law_1286 rfl (lv_at hl 0 rfl) ?_
  refine lv_iload_n hx hb dL_law_1287 rfl (lv_at hl 3 rfl) ?_
  refine lv_iconst (v := nI 3) hx hb dL_law_1288 (by decide) ?_
  refine lv_iadd hx hb dL_law_1289 ?_
  obtain ⟨hz, hM⟩ := e_if0 hM
  refine va_sld hx hb hX hbl hbA J.2 hz dL_law_1290 ?_
  obtain ⟨p2, hv, hM⟩ := e_bs hM
  obtain ⟨fs_, hk, -⟩ := e_bs hv
  refine e_callV (ci := 9) (As := [.int (xs ((l3 + (nI 1))).toNatClampNeg), .int (xs ((l3 + (nI 2))).toNatClampNeg), .int (xs ((l3 + (nI 3))).toNatClampNeg)]) (rest := [.int p1.1]) (n := 3) E J hk rfl (mX9_sheet (l := l) (G := G) l2 (xs ((l3 + (nI 1))).toNatClampNeg) (xs ((l3 + (nI 2))).toNatClampNeg) (xs ((l3 + (nI 3))).toNatClampNeg) p1.2 _ hv) q_6_181 q_6_182 q_6_183 q_1_9 q_6_184 (by decide +kernel) rfl ⟨Nat.le_of_ble_eq_true rfl, Nat.le_of_ble_eq_true rfl⟩ (st0 := [.int (xs ((l3 + (nI 3))).toNatClampNeg), .int (xs ((l3 + (nI 2))).toNatClampNeg), .int (xs ((l3 + (nI 1))).toNatClampNeg), .ref (e_ad G l2), .int p1.1]) (st1 := [.int p2.1, .int p1.1]) rfl rfl hl.1 (Nat.le_of_ble_eq_true rfl) dL_law_1291 ⟨e_rcc (by omega), e_rcs (by omega)⟩ (fun H locs J => ?_)
  refine lv_icmp_eq (tgt := 1685) hx hb dL_law_1294 (by decide) (fun hc => ?_) (fun hc => ?_)
  · have hM := e_ip hc hM
    exact mL_law_b1685 E hX hbl hbA hbz K18 l1 l2 l3 p2.2 hM (by omega) (by omega) J (lv_sub hl [0, 1, 2, 3] rfl)
  · have hM := e_in hc hM
    refine lv_iconst (v := nI 0) hx hb dL_law_1297 (by decide) ?_
    cases hM
set_option maxRecDepth 100000 in
set_option maxHeartbeats 4000000 in
theorem mL_law_b1299 {p : Program} {l : Launch} {e : Env} {s : State} {m : MethodId} {below : List Frame} {meth : Method} {c : Code} {G : e_G} {L : Nat} {xs : Nat → Int32} {b : Nat} {k18 : Nat → Nat → Int32 → e_H → Option Bool} (E : e_M G p s #[Value.ref b] m meth c cL_law 4 ret RL) (hX : va_X b L xs s s.heap) (hbl : b < s.heap.size) (hbA : ¬ e_A G b) (hbz : G.2.2.1 = s.heap.size) {n9 : Nat} (K18 : ∀ (l1 : Nat) (l2 : Nat) (l3 : Int32) (h : e_H), k18 l1 l2 l3 h = some true → ∀ (cells slots : Nat), cells + (n9 * 2 + 2) ≤ 600000 → slots + (n9 * 99 + 99) ≤ 7302250 → ∀ (H : Heap) (locs : List Loc), e_J G s h H locs → ∀ (ls : Array Slot), lv_has ls 4 [(0, .ref b), (1, .ref (e_ad G l1)), (2, .ref (e_ad G l2)), (3, .int l3)] → W p l e room_1 s m #[Value.ref b] below meth c H locs cells slots (lw_Z below #[Value.ref b] s) (F0 m 18 ls [])) (l1 : Nat) (l2 : Nat) (l3 : Int32) (h : e_H) (hM : fL_law_b1299 L xs k18 l1 l2 l3 h = some true) {cells slots : Nat} (hb1 : cells + 0 ≤ 600000) (hb2 : slots + 0 ≤ 7302250) (hb3 : cells + 0 + (n9 * 2 + 2) ≤ 600000) (hb4 : slots + 0 + (n9 * 99 + 99) ≤ 7302250) {H : Heap} {locs : List Loc} (J : e_J G s h H locs) {ls : Array Slot} (hl : lv_has ls 4 [(0, .ref b), (1, .ref (e_ad G l1)), (2, .ref (e_ad G l2)), (3, .int l3)]) : W p l e room_1 s m #[Value.ref b] below meth c H locs cells slots (lw_Z below #[Value.ref b] s) (F0 m 1299 ls []) := by
  obtain ⟨hx, hb, hr, hml, hown, hts, hlocks, hES, hbs⟩ := id E
  unfold fL_law_b1299 at hM
  refine lv_aload_n hx hb dL_law_1299 rfl (lv_at hl 1 rfl) ?_
  refine lv_aload_n hx hb dL_law_1300 rfl (lv_at hl 0 rfl) ?_
  refine lv_iload_n hx hb dL_law_1301 rfl (lv_at hl 3 rfl) ?_
  refine lv_iconst (v := nI 1) hx hb dL_law_1302 (by decide) ?_
  refine lv_iadd hx hb dL_law_1303 ?_
  obtain ⟨hz, hM⟩ := e_if0 hM
  refine va_sld hx hb hX hbl hbA J.2 hz dL_law_1304 ?_
  refine lv_aload_n hx hb dL_law_1305 rfl (lv_at hl 0 rfl) ?_
  refine lv_iload_n hx hb dL_law_1306 rfl (lv_at hl 3 rfl) ?_
  refine lv_iconst (v := nI 2) hx hb dL_law_1307 (by decide) ?_
  refine lv_iadd hx hb dL_law_1308 ?_
  obtain ⟨hz, hM⟩ := e_if0 hM
  refine va_sld hx hb hX hbl hbA J.2 hz dL_law_1309 ?_
  refine lv_aload_n hx hb dL_law_1310 rfl (lv_at hl 0 rfl) ?_
  refine lv_iload_n hx hb dL_law_1311 rfl (lv_at hl 3 rfl) ?_
  refine lv_iconst (v := nI 3) hx hb dL_law_1312 (by decide) ?_
  refine lv_iadd hx hb dL_law_1313 ?_
  obtain ⟨hz, hM⟩ := e_if0 hM
  refine va_sld hx hb hX hbl hbA J.2 hz dL_law_1314 ?_
  obtain ⟨p1, hv, hM⟩ := e_bs hM
  obtain ⟨fs_, hk, -⟩ := e_bs hv
  refine e_callV (ci := 8) (As := [.int (xs ((l3 + (nI 1))).toNatClampNeg), .int (xs ((l3 + (nI 2))).toNatClampNeg), .int (xs ((l3 + (nI 3))).toNatClampNeg)]) (rest := []) (n := 3) E J hk rfl (mX8_mark (l := l) (G := G) l1 (xs ((l3 + (nI 1))).toNatClampNeg) (xs ((l3 + (nI 2))).toNatClampNeg) (xs ((l3 + (nI 3))).toNatClampNeg) h _ hv) q_4_148 q_4_149 q_4_150 q_1_1 q_4_151 (by decide +kernel) rfl ⟨Nat.le_of_ble_eq_true rfl, Nat.le_of_ble_eq_true rfl⟩ (st0 := [.int (xs ((l3 + (nI 3))).toNatClampNeg), .int (xs ((l3 + (nI 2))).toNatClampNeg), .int (xs ((l3 + (nI 1))).toNatClampNeg), .ref (e_ad G l1)]) (st1 := [.int p1.1]) rfl rfl hl.1 (Nat.le_of_ble_eq_true rfl) dL_law_1315 ⟨e_rcc (by omega), e_rcs (by omega)⟩ (fun H locs J => ?_)
  refine lv_aload_n hx hb dL_law_1318 rfl (lv_at hl 2 rfl) ?_
  refine lv_aload_n hx hb dL_law_1319 rfl (lv_at hl 0 rfl) ?_
  refine lv_iload_n hx hb dL_law_1320 rfl (lv_at hl 3 rfl) ?_
  refine lv_iconst (v := nI 1) hx hb dL_law_1321 (by decide) ?_
  refine lv_iadd hx hb dL_law_1322 ?_
  obtain ⟨hz, hM⟩ := e_if0 hM
  refine va_sld hx hb hX hbl hbA J.2 hz dL_law_1323 ?_
  refine lv_aload_n hx hb dL_law_1324 rfl (lv_at hl 0 rfl) ?_
  refine lv_iload_n hx hb dL_law_1325 rfl (lv_at hl 3 rfl) ?_
  refine lv_iconst (v := nI 2) hx hb dL_law_1326 (by decide) ?_
  refine lv_iadd hx hb dL_law_1327 ?_
  obtain ⟨hz, hM⟩ := e_if0 hM
  refine va_sld hx hb hX hbl hbA J.2 hz dL_law_1328 ?_
  refine lv_aload_n hx hb dL_law_1329 rfl (lv_at hl 0 rfl) ?_
  refine lv_iload_n hx hb dL_law_1330 rfl (lv_at hl 3 rfl) ?_
  refine lv_iconst (v := nI 3) hx hb dL_law_1331 (by decide) ?_
  refine lv_iadd hx hb dL_law_1332 ?_
  obtain ⟨hz, hM⟩ := e_if0 hM
  refine va_sld hx hb hX hbl hbA J.2 hz dL_law_1333 ?_
  obtain ⟨p2, hv, hM⟩ := e_bs hM
  obtain ⟨fs_, hk, -⟩ := e_bs hv
  refine e_callV (ci := 9) (As := [.int (xs ((l3 + (nI 1))).toNatClampNeg), .int (xs ((l3 + (nI 2))).toNatClampNeg), .int (xs ((l3 + (nI 3))).toNatClampNeg)]) (rest := [.int p1.1]) (n := 3) E J hk rfl (mX9_mark (l := l) (G := G) l2 (xs ((l3 + (nI 1))).toNatClampNeg) (xs ((l3 + (nI 2))).toNatClampNeg) (xs ((l3 + (nI 3))).toNatClampNeg) p1.2 _ hv) q_6_189 q_6_190 q_6_191 q_1_9 q_6_192 (by decide +kernel) rfl ⟨Nat.le_of_ble_eq_true rfl, Nat.le_of_ble_eq_true rfl⟩ (st0 := [.int (xs ((l3 + (nI 3))).toNatClampNeg), .int (xs ((l3 + (nI 2))).toNatClampNeg), .int (xs ((l3 + (nI 1))).toNatClampNeg), .ref (e_ad G l2), .int p1.1]) (st1 := [.int p2.1, .int p1.1]) rfl rfl hl.1 (Nat.le_of_ble_eq_true rfl) dL_law_1334 ⟨e_rcc (by omega), e_rcs (by omega)⟩ (fun H locs J => ?_)
  refine lv_icmp_eq (tgt := 1685) hx hb dL_law_1337 (by decide) (fun hc => ?_) (fun hc => ?_)
  · have hM := e_ip hc hM
    exact mL_law_b1685 E hX hbl hbA hbz K18 l1 l2 l3 p2.2 hM (by omega) (by omega) J (lv_sub hl [0, 1, 2, 3] rfl)
  · have hM := e_in hc hM
    refine lv_iconst (v := nI 0) hx hb dL_law_1340 (by decide) ?_
    cases hM
set_option maxRecDepth 100000 in
set_option maxHeartbeats 4000000 in
theorem mL_law_b1342 {p : Program} {l : Launch} {e : Env} {s : State} {m : MethodId} {below : List Frame} {meth : Method} {c : Code} {G : e_G} {L : Nat} {xs : Nat → Int32} {b : Nat} {k18 : Nat → Nat → Int32 → e_H → Option Bool} (E : e_M G p s #[Value.ref b] m meth c cL_law 4 ret RL) (hX : va_X b L xs s s.heap) (hbl : b < s.heap.size) (hbA : ¬ e_A G b) (hbz : G.2.2.1 = s.heap.size) {n9 : Nat} (K18 : ∀ (l1 : Nat) (l2 : Nat) (l3 : Int32) (h : e_H), k18 l1 l2 l3 h = some true → ∀ (cells slots : Nat), cells + (n9 * 2 + 2) ≤ 600000 → slots + (n9 * 99 + 99) ≤ 7302250 → ∀ (H : Heap) (locs : List Loc), e_J G s h H locs → ∀ (ls : Array Slot), lv_has ls 4 [(0, .ref b), (1, .ref (e_ad G l1)), (2, .ref (e_ad G l2)), (3, .int l3)] → W p l e room_1 s m #[Value.ref b] below meth c H locs cells slots (lw_Z below #[Value.ref b] s) (F0 m 18 ls [])) (l1 : Nat) (l2 : Nat) (l3 : Int32) (h : e_H) (hM : fL_law_b1342 L xs k18 l1 l2 l3 h = some true) {cells slots : Nat} (hb1 : cells + 0 ≤ 600000) (hb2 : slots + 0 ≤ 7302250) (hb3 : cells + 0 + (n9 * 2 + 2) ≤ 600000) (hb4 : slots + 0 + (n9 * 99 + 99) ≤ 7302250) {H : Heap} {locs : List Loc} (J : e_J G s h H locs) {ls : Array Slot} (hl : lv_has ls 4 [(0, .ref b), (1, .ref (e_ad G l1)), (2, .ref (e_ad G l2)), (3, .int l3)]) : W p l e room_1 s m #[Value.ref b] below meth c H locs cells slots (lw_Z below #[Value.ref b] s) (F0 m 1342 ls []) := by
  obtain ⟨hx, hb, hr, hml, hown, hts, hlocks, hES, hbs⟩ := id E
  unfold fL_law_b1342 at hM
  refine lv_aload_n hx hb dL_law_1342 rfl (lv_at hl 1 rfl) ?_
  refine lv_aload_n hx hb dL_law_1343 rfl (lv_at hl 0 rfl) ?_
  refine lv_iload_n hx hb dL_law_1344 rfl (lv_at hl 3 rfl) ?_
  refine lv_iconst (v := nI 1) hx hb dL_law_1345 (by decide) ?_
  refine lv_iadd hx hb dL_law_1346 ?_
  obtain ⟨hz, hM⟩ := e_if0 hM
  refine va_sld hx hb hX hbl hbA J.2 hz dL_law_1347 ?_
  refine lv_aload_n hx hb dL_law_1348 rfl (lv_at hl 0 rfl) ?_
  refine lv_iload_n hx hb dL_law_1349 rfl (lv_at hl 3 rfl) ?_
  refine lv_iconst (v := nI 2) hx hb dL_law_1350 (by decide) ?_
  refine lv_iadd hx hb dL_law_1351 ?_
  obtain ⟨hz, hM⟩ := e_if0 hM
  refine va_sld hx hb hX hbl hbA J.2 hz dL_law_1352 ?_
  obtain ⟨p1, hv, hM⟩ := e_bs hM
  obtain ⟨fs_, hk, -⟩ := e_bs hv
  refine e_callV (ci := 8) (As := [.int (xs ((l3 + (nI 1))).toNatClampNeg), .int (xs ((l3 + (nI 2))).toNatClampNeg)]) (rest := []) (n := 2) E J hk rfl (mX8_pour (l := l) (G := G) l1 (xs ((l3 + (nI 1))).toNatClampNeg) (xs ((l3 + (nI 2))).toNatClampNeg) h _ hv) q_4_165 q_4_166 q_4_167 q_1_1 q_4_168 (by decide +kernel) rfl ⟨Nat.le_of_ble_eq_true rfl, Nat.le_of_ble_eq_true rfl⟩ (st0 := [.int (xs ((l3 + (nI 2))).toNatClampNeg), .int (xs ((l3 + (nI 1))).toNatClampNeg), .ref (e_ad G l1)]) (st1 := [.int p1.1]) rfl rfl hl.1 (Nat.le_of_ble_eq_true rfl) dL_law_1353 ⟨e_rcc (by omega), e_rcs (by omega)⟩ (fun H locs J => ?_)
  refine lv_aload_n hx hb dL_law_1356 rfl (lv_at hl 2 rfl) ?_
  refine lv_aload_n hx hb dL_law_1357 rfl (lv_at hl 0 rfl) ?_
  refine lv_iload_n hx hb dL_law_1358 rfl (lv_at hl 3 rfl) ?_
  refine lv_iconst (v := nI 1) hx hb dL_law_1359 (by decide) ?_
  refine lv_iadd hx hb dL_law_1360 ?_
  obtain ⟨hz, hM⟩ := e_if0 hM
  refine va_sld hx hb hX hbl hbA J.2 hz dL_law_1361 ?_
  refine lv_aload_n hx hb dL_law_1362 rfl (lv_at hl 0 rfl) ?_
  refine lv_iload_n hx hb dL_law_1363 rfl (lv_at hl 3 rfl) ?_
  refine lv_iconst (v := nI 2) hx hb dL_law_1364 (by decide) ?_
  refine lv_iadd hx hb dL_law_1365 ?_
  obtain ⟨hz, hM⟩ := e_if0 hM
  refine va_sld hx hb hX hbl hbA J.2 hz dL_law_1366 ?_
  obtain ⟨p2, hv, hM⟩ := e_bs hM
  obtain ⟨fs_, hk, -⟩ := e_bs hv
  refine e_callV (ci := 9) (As := [.int (xs ((l3 + (nI 1))).toNatClampNeg), .int (xs ((l3 + (nI 2))).toNatClampNeg)]) (rest := [.int p1.1]) (n := 2) E J hk rfl (mX9_pour (l := l) (G := G) l2 (xs ((l3 + (nI 1))).toNatClampNeg) (xs ((l3 + (nI 2))).toNatClampNeg) p1.2 _ hv) q_6_197 q_6_198 q_6_199 q_1_9 q_6_200 (by decide +kernel) rfl ⟨Nat.le_of_ble_eq_true rfl, Nat.le_of_ble_eq_true rfl⟩ (st0 := [.int (xs ((l3 + (nI 2))).toNatClampNeg), .int (xs ((l3 + (nI 1))).toNatClampNeg), .ref (e_ad G l2), .int p1.1]) (st1 := [.int p2.1, .int p1.1]) rfl rfl hl.1 (Nat.le_of_ble_eq_true rfl) dL_law_1367 ⟨e_rcc (by omega), e_rcs (by omega)⟩ (fun H locs J => ?_)
  refine lv_icmp_eq (tgt := 1685) hx hb dL_law_1370 (by decide) (fun hc => ?_) (fun hc => ?_)
  · have hM := e_ip hc hM
    exact mL_law_b1685 E hX hbl hbA hbz K18 l1 l2 l3 p2.2 hM (by omega) (by omega) J (lv_sub hl [0, 1, 2, 3] rfl)
  · have hM := e_in hc hM
    refine lv_iconst (v := nI 0) hx hb dL_law_1373 (by decide) ?_
    cases hM
set_option maxRecDepth 100000 in
set_option maxHeartbeats 4000000 in
theorem mL_law_b1375 {p : Program} {l : Launch} {e : Env} {s : State} {m : MethodId} {below : List Frame} {meth : Method} {c : Code} {G : e_G} {L : Nat} {xs : Nat → Int32} {b : Nat} {k18 : Nat → Nat → Int32 → e_H → Option Bool} (E : e_M G p s #[Value.ref b] m meth c cL_law 4 ret RL) (hX : va_X b L xs s s.heap) (hbl : b < s.heap.size) (hbA : ¬ e_A G b) (hbz : G.2.2.1 = s.heap.size) {n9 : Nat} (K18 : ∀ (l1 : Nat) (l2 : Nat) (l3 : Int32) (h : e_H), k18 l1 l2 l3 h = some true → ∀ (cells slots : Nat), cells + (n9 * 2 + 2) ≤ 600000 → slots + (n9 * 99 + 99) ≤ 7302250 → ∀ (H : Heap) (locs : List Loc), e_J G s h H locs → ∀ (ls : Array Slot), lv_has ls 4 [(0, .ref b), (1, .ref (e_ad G l1)), (2, .ref (e_ad G l2)), (3, .int l3)] → W p l e room_1 s m #[Value.ref b] below meth c H locs cells slots (lw_Z below #[Value.ref b] s) (F0 m 18 ls [])) (l1 : Nat) (l2 : Nat) (l3 : Int32) (h : e_H) (hM : fL_law_b1375 L xs k18 l1 l2 l3 h = some true) {cells slots : Nat} (hb1 : cells + 0 ≤ 600000) (hb2 : slots + 0 ≤ 7302250) (hb3 : cells + 0 + (n9 * 2 + 2) ≤ 600000) (hb4 : slots + 0 + (n9 * 99 + 99) ≤ 7302250) {H : Heap} {locs : List Loc} (J : e_J G s h H locs) {ls : Array Slot} (hl : lv_has ls 4 [(0, .ref b), (1, .ref (e_ad G l1)), (2, .ref (e_ad G l2)), (3, .int l3)]) : W p l e room_1 s m #[Value.ref b] below meth c H locs cells slots (lw_Z below #[Value.ref b] s) (F0 m 1375 ls []) := by
  obtain ⟨hx, hb, hr, hml, hown, hts, hlocks, hES, hbs⟩ := id E
  unfold fL_law_b1375 at hM
  refine lv_aload_n hx hb dL_law_1375 rfl (lv_at hl 1 rfl) ?_
  refine lv_aload_n hx hb dL_law_1376 rfl (lv_at hl 0 rfl) ?_
  refine lv_iload_n hx hb dL_law_1377 rfl (lv_at hl 3 rfl) ?_
  refine lv_iconst (v := nI 1) hx hb dL_law_1378 (by decide) ?_
  refine lv_iadd hx hb dL_law_1379 ?_
  obtain ⟨hz, hM⟩ := e_if0 hM
  refine va_sld hx hb hX hbl hbA J.2 hz dL_law_1380 ?_
  refine lv_aload_n hx hb dL_law_1381 rfl (lv_at hl 0 rfl) ?_
  refine lv_iload_n hx hb dL_law_1382 rfl (lv_at hl 3 rfl) ?_
  refine lv_iconst (v := nI 2) hx hb dL_law_1383 (by decide) ?_
  refine lv_iadd hx hb dL_law_1384 ?_
  obtain ⟨hz, hM⟩ := e_if0 hM
  refine va_sld hx hb hX hbl hbA J.2 hz dL_law_1385 ?_
  refine lv_aload_n hx hb dL_law_1386 rfl (lv_at hl 0 rfl) ?_
  refine lv_iload_n hx hb dL_law_1387 rfl (lv_at hl 3 rfl) ?_
  refine lv_iconst (v := nI 3) hx hb dL_law_1388 (by decide) ?_
  refine lv_iadd hx hb dL_law_1389 ?_
  obtain ⟨hz, hM⟩ := e_if0 hM
  refine va_sld hx hb hX hbl hbA J.2 hz dL_law_1390 ?_
  refine lv_aload_n hx hb dL_law_1391 rfl (lv_at hl 0 rfl) ?_
  refine lv_iload_n hx hb dL_law_1392 rfl (lv_at hl 3 rfl) ?_
  refine lv_iconst (v := nI 4) hx hb dL_law_1393 (by decide) ?_
  refine lv_iadd hx hb dL_law_1394 ?_
  obtain ⟨hz, hM⟩ := e_if0 hM
  refine va_sld hx hb hX hbl hbA J.2 hz dL_law_1395 ?_
  refine lv_aload_n hx hb dL_law_1396 rfl (lv_at hl 0 rfl) ?_
  refine lv_iload_n hx hb dL_law_1397 rfl (lv_at hl 3 rfl) ?_
  refine lv_iconst (v := nI 5) hx hb dL_law_1398 (by decide) ?_
  refine lv_iadd hx hb dL_law_1399 ?_
  obtain ⟨hz, hM⟩ := e_if0 hM
  refine va_sld hx hb hX hbl hbA J.2 hz dL_law_1400 ?_
  obtain ⟨p1, hv, hM⟩ := e_bs hM
  obtain ⟨fs_, hk, -⟩ := e_bs hv
  refine e_callV (ci := 8) (As := [.int (xs ((l3 + (nI 1))).toNatClampNeg), .int (xs ((l3 + (nI 2))).toNatClampNeg), .int (xs ((l3 + (nI 3))).toNatClampNeg), .int (xs ((l3 + (nI 4))).toNatClampNeg), .int (xs ((l3 + (nI 5))).toNatClampNeg)]) (rest := []) (n := 5) E J hk rfl (mX8_copy (l := l) (G := G) l1 (xs ((l3 + (nI 1))).toNatClampNeg) (xs ((l3 + (nI 2))).toNatClampNeg) (xs ((l3 + (nI 3))).toNatClampNeg) (xs ((l3 + (nI 4))).toNatClampNeg) (xs ((l3 + (nI 5))).toNatClampNeg) h _ hv) q_4_173 q_4_174 q_4_175 q_1_1 q_4_176 (by decide +kernel) rfl ⟨Nat.le_of_ble_eq_true rfl, Nat.le_of_ble_eq_true rfl⟩ (st0 := [.int (xs ((l3 + (nI 5))).toNatClampNeg), .int (xs ((l3 + (nI 4))).toNatClampNeg), .int (xs ((l3 + (nI 3))).toNatClampNeg), .int (xs ((l3 + (nI 2))).toNatClampNeg), .int (xs ((l3 + (nI 1))).toNatClampNeg), .ref (e_ad G l1)]) (st1 := [.int p1.1]) rfl rfl hl.1 (Nat.le_of_ble_eq_true rfl) dL_law_1401 ⟨e_rcc (by omega), e_rcs (by omega)⟩ (fun H locs J => ?_)
  refine lv_aload_n hx hb dL_law_1404 rfl (lv_at hl 2 rfl) ?_
  refine lv_aload_n hx hb dL_law_1405 rfl (lv_at hl 0 rfl) ?_
  refine lv_iload_n hx hb dL_law_1406 rfl (lv_at hl 3 rfl) ?_
  refine lv_iconst (v := nI 1) hx hb dL_law_1407 (by decide) ?_
  refine lv_iadd hx hb dL_law_1408 ?_
  obtain ⟨hz, hM⟩ := e_if0 hM
  refine va_sld hx hb hX hbl hbA J.2 hz dL_law_1409 ?_
  refine lv_aload_n hx hb dL_law_1410 rfl (lv_at hl 0 rfl) ?_
  refine lv_iload_n hx hb dL_law_1411 rfl (lv_at hl 3 rfl) ?_
  refine lv_iconst (v := nI 2) hx hb dL_law_1412 (by decide) ?_
  refine lv_iadd hx hb dL_law_1413 ?_
  obtain ⟨hz, hM⟩ := e_if0 hM
  refine va_sld hx hb hX hbl hbA J.2 hz dL_law_1414 ?_
  refine lv_aload_n hx hb dL_law_1415 rfl (lv_at hl 0 rfl) ?_
  refine lv_iload_n hx hb dL_law_1416 rfl (lv_at hl 3 rfl) ?_
  refine lv_iconst (v := nI 3) hx hb dL_law_1417 (by decide) ?_
  refine lv_iadd hx hb dL_law_1418 ?_
  obtain ⟨hz, hM⟩ := e_if0 hM
  refine va_sld hx hb hX hbl hbA J.2 hz dL_law_1419 ?_
  refine lv_aload_n hx hb dL_law_1420 rfl (lv_at hl 0 rfl) ?_
  refine lv_iload_n hx hb dL_law_1421 rfl (lv_at hl 3 rfl) ?_
  refine lv_iconst (v := nI 4) hx hb dL_law_1422 (by decide) ?_
  refine lv_iadd hx hb dL_law_1423 ?_
  obtain ⟨hz, hM⟩ := e_if0 hM
  refine va_sld hx hb hX hbl hbA J.2 hz dL_law_1424 ?_
  refine lv_aload_n hx hb dL_law_1425 rfl (lv_at hl 0 rfl) ?_
  refine lv_iload_n hx hb dL_law_1426 rfl (lv_at hl 3 rfl) ?_
  refine lv_iconst (v := nI 5) hx hb dL_law_1427 (by decide) ?_
  refine lv_iadd hx hb dL_law_1428 ?_
  obtain ⟨hz, hM⟩ := e_if0 hM
  refine va_sld hx hb hX hbl hbA J.2 hz dL_law_1429 ?_
  obtain ⟨p2, hv, hM⟩ := e_bs hM
  obtain ⟨fs_, hk, -⟩ := e_bs hv
  refine e_callV (ci := 9) (As := [.int (xs ((l3 + (nI 1))).toNatClampNeg), .int (xs ((l3 + (nI 2))).toNatClampNeg), .int (xs ((l3 + (nI 3))).toNatClampNeg), .int (xs ((l3 + (nI 4))).toNatClampNeg), .int (xs ((l3 + (nI 5))).toNatClampNeg)]) (rest := [.int p1.1]) (n := 5) E J hk rfl (mX9_copy (l := l) (G := G) l2 (xs ((l3 + (nI 1))).toNatClampNeg) (xs ((l3 + (nI 2))).toNatClampNeg) (xs ((l3 + (nI 3))).toNatClampNeg) (xs ((l3 + (nI 4))).toNatClampNeg) (xs ((l3 + (nI 5))).toNatClampNeg) p1.2 _ hv) q_6_201 q_6_202 q_6_203 q_1_9 q_6_204 (by decide +kernel) rfl ⟨Nat.le_of_ble_eq_true rfl, Nat.le_of_ble_eq_true rfl⟩ (st0 := [.int (xs ((l3 + (nI 5))).toNatClampNeg), .int (xs ((l3 + (nI 4))).toNatClampNeg), .int (xs ((l3 + (nI 3))).toNatClampNeg), .int (xs ((l3 + (nI 2))).toNatClampNeg), .int (xs ((l3 + (nI 1))).toNatClampNeg), .ref (e_ad G l2), .int p1.1]) (st1 := [.int p2.1, .int p1.1]) rfl rfl hl.1 (Nat.le_of_ble_eq_true rfl) dL_law_1430 ⟨e_rcc (by omega), e_rcs (by omega)⟩ (fun H locs J => ?_)
  refine lv_icmp_eq (tgt := 1685) hx hb dL_law_1433 (by decide) (fun hc => ?_) (fun hc => ?_)
  · have hM := e_ip hc hM
    exact mL_law_b1685 E hX hbl hbA hbz K18 l1 l2 l3 p2.2 hM (by omega) (by omega) J (lv_sub hl [0, 1, 2, 3] rfl)
  · have hM := e_in hc hM
    refine lv_iconst (v := nI 0) hx hb dL_law_1436 (by decide) ?_
    cases hM
set_option maxRecDepth 100000 in
set_option maxHeartbeats 4000000 in
theorem mL_law_b1438 {p : Program} {l : Launch} {e : Env} {s : State} {m : MethodId} {below : List Frame} {meth : Method} {c : Code} {G : e_G} {L : Nat} {xs : Nat → Int32} {b : Nat} {k18 : Nat → Nat → Int32 → e_H → Option Bool} (E : e_M G p s #[Value.ref b] m meth c cL_law 4 ret RL) (hX : va_X b L xs s s.heap) (hbl : b < s.heap.size) (hbA : ¬ e_A G b) (hbz : G.2.2.1 = s.heap.size) {n9 : Nat} (K18 : ∀ (l1 : Nat) (l2 : Nat) (l3 : Int32) (h : e_H), k18 l1 l2 l3 h = some true → ∀ (cells slots : Nat), cells + (n9 * 2 + 2) ≤ 600000 → slots + (n9 * 99 + 99) ≤ 7302250 → ∀ (H : Heap) (locs : List Loc), e_J G s h H locs → ∀ (ls : Array Slot), lv_has ls 4 [(0, .ref b), (1, .ref (e_ad G l1)), (2, .ref (e_ad G l2)), (3, .int l3)] → W p l e room_1 s m #[Value.ref b] below meth c H locs cells slots (lw_Z below #[Value.ref b] s) (F0 m 18 ls [])) (l1 : Nat) (l2 : Nat) (l3 : Int32) (h : e_H) (hM : fL_law_b1438 L xs k18 l1 l2 l3 h = some true) {cells slots : Nat} (hb1 : cells + 0 ≤ 600000) (hb2 : slots + 0 ≤ 7302250) (hb3 : cells + 0 + (n9 * 2 + 2) ≤ 600000) (hb4 : slots + 0 + (n9 * 99 + 99) ≤ 7302250) {H : Heap} {locs : List Loc} (J : e_J G s h H locs) {ls : Array Slot} (hl : lv_has ls 4 [(0, .ref b), (1, .ref (e_ad G l1)), (2, .ref (e_ad G l2)), (3, .int l3)]) : W p l e room_1 s m #[Value.ref b] below meth c H locs cells slots (lw_Z below #[Value.ref b] s) (F0 m 1438 ls []) := by
  obtain ⟨hx, hb, hr, hml, hown, hts, hlocks, hES, hbs⟩ := id E
  unfold fL_law_b1438 at hM
  refine lv_aload_n hx hb dL_law_1438 rfl (lv_at hl 1 rfl) ?_
  refine lv_aload_n hx hb dL_law_1439 rfl (lv_at hl 0 rfl) ?_
  refine lv_iload_n hx hb dL_law_1440 rfl (lv_at hl 3 rfl) ?_
  refine lv_iconst (v := nI 1) hx hb dL_law_1441 (by decide) ?_
  refine lv_iadd hx hb dL_law_1442 ?_
  obtain ⟨hz, hM⟩ := e_if0 hM
  refine va_sld hx hb hX hbl hbA J.2 hz dL_law_1443 ?_
  refine lv_aload_n hx hb dL_law_1444 rfl (lv_at hl 0 rfl) ?_
  refine lv_iload_n hx hb dL_law_1445 rfl (lv_at hl 3 rfl) ?_
  refine lv_iconst (v := nI 2) hx hb dL_law_1446 (by decide) ?_
  refine lv_iadd hx hb dL_law_1447 ?_
  obtain ⟨hz, hM⟩ := e_if0 hM
  refine va_sld hx hb hX hbl hbA J.2 hz dL_law_1448 ?_
  refine lv_aload_n hx hb dL_law_1449 rfl (lv_at hl 0 rfl) ?_
  refine lv_iload_n hx hb dL_law_1450 rfl (lv_at hl 3 rfl) ?_
  refine lv_iconst (v := nI 3) hx hb dL_law_1451 (by decide) ?_
  refine lv_iadd hx hb dL_law_1452 ?_
  obtain ⟨hz, hM⟩ := e_if0 hM
  refine va_sld hx hb hX hbl hbA J.2 hz dL_law_1453 ?_
  obtain ⟨p1, hv, hM⟩ := e_bs hM
  obtain ⟨fs_, hk, -⟩ := e_bs hv
  refine e_callV (ci := 8) (As := [.int (xs ((l3 + (nI 1))).toNatClampNeg), .int (xs ((l3 + (nI 2))).toNatClampNeg), .int (xs ((l3 + (nI 3))).toNatClampNeg)]) (rest := []) (n := 3) E J hk rfl (mX8_lay (l := l) (G := G) l1 (xs ((l3 + (nI 1))).toNatClampNeg) (xs ((l3 + (nI 2))).toNatClampNeg) (xs ((l3 + (nI 3))).toNatClampNeg) h _ hv) q_4_182 q_4_183 q_4_184 q_1_1 q_4_185 (by decide +kernel) rfl ⟨Nat.le_of_ble_eq_true rfl, Nat.le_of_ble_eq_true rfl⟩ (st0 := [.int (xs ((l3 + (nI 3))).toNatClampNeg), .int (xs ((l3 + (nI 2))).toNatClampNeg), .int (xs ((l3 + (nI 1))).toNatClampNeg), .ref (e_ad G l1)]) (st1 := [.int p1.1]) rfl rfl hl.1 (Nat.le_of_ble_eq_true rfl) dL_law_1454 ⟨e_rcc (by omega), e_rcs (by omega)⟩ (fun H locs J => ?_)
  refine lv_aload_n hx hb dL_law_1457 rfl (lv_at hl 2 rfl) ?_
  refine lv_aload_n hx hb dL_law_1458 rfl (lv_at hl 0 rfl) ?_
  refine lv_iload_n hx hb dL_law_1459 rfl (lv_at hl 3 rfl) ?_
  refine lv_iconst (v := nI 1) hx hb dL_law_1460 (by decide) ?_
  refine lv_iadd hx hb dL_law_1461 ?_
  obtain ⟨hz, hM⟩ := e_if0 hM
  refine va_sld hx hb hX hbl hbA J.2 hz dL_law_1462 ?_
  refine lv_aload_n hx hb dL_law_1463 rfl (lv_at hl 0 rfl) ?_
  refine lv_iload_n hx hb dL_law_1464 rfl (lv_at hl 3 rfl) ?_
  refine lv_iconst (v := nI 2) hx hb dL_law_1465 (by decide) ?_
  refine lv_iadd hx hb dL_law_1466 ?_
  obtain ⟨hz, hM⟩ := e_if0 hM
  refine va_sld hx hb hX hbl hbA J.2 hz dL_law_1467 ?_
  refine lv_aload_n hx hb dL_law_1468 rfl (lv_at hl 0 rfl) ?_
  refine lv_iload_n hx hb dL_law_1469 rfl (lv_at hl 3 rfl) ?_
  refine lv_iconst (v := nI 3) hx hb dL_law_1470 (by decide) ?_
  refine lv_iadd hx hb dL_law_1471 ?_
  obtain ⟨hz, hM⟩ := e_if0 hM
  refine va_sld hx hb hX hbl hbA J.2 hz dL_law_1472 ?_
  obtain ⟨p2, hv, hM⟩ := e_bs hM
  obtain ⟨fs_, hk, -⟩ := e_bs hv
  refine e_callV (ci := 9) (As := [.int (xs ((l3 + (nI 1))).toNatClampNeg), .int (xs ((l3 + (nI 2))).toNatClampNeg), .int (xs ((l3 + (nI 3))).toNatClampNeg)]) (rest := [.int p1.1]) (n := 3) E J hk rfl (mX9_lay (l := l) (G := G) l2 (xs ((l3 + (nI 1))).toNatClampNeg) (xs ((l3 + (nI 2))).toNatClampNeg) (xs ((l3 + (nI 3))).toNatClampNeg) p1.2 _ hv) q_6_205 q_6_206 q_6_207 q_1_9 q_6_208 (by decide +kernel) rfl ⟨Nat.le_of_ble_eq_true rfl, Nat.le_of_ble_eq_true rfl⟩ (st0 := [.int (xs ((l3 + (nI 3))).toNatClampNeg), .int (xs ((l3 + (nI 2))).toNatClampNeg), .int (xs ((l3 + (nI 1))).toNatClampNeg), .ref (e_ad G l2), .int p1.1]) (st1 := [.int p2.1, .int p1.1]) rfl rfl hl.1 (Nat.le_of_ble_eq_true rfl) dL_law_1473 ⟨e_rcc (by omega), e_rcs (by omega)⟩ (fun H locs J => ?_)
  refine lv_icmp_eq (tgt := 1685) hx hb dL_law_1476 (by decide) (fun hc => ?_) (fun hc => ?_)
  · have hM := e_ip hc hM
    exact mL_law_b1685 E hX hbl hbA hbz K18 l1 l2 l3 p2.2 hM (by omega) (by omega) J (lv_sub hl [0, 1, 2, 3] rfl)
  · have hM := e_in hc hM
    refine lv_iconst (v := nI 0) hx hb dL_law_1479 (by decide) ?_
    cases hM
set_option maxRecDepth 100000 in
set_option maxHeartbeats 4000000 in
theorem mL_law_b1481 {p : Program} {l : Launch} {e : Env} {s : State} {m : MethodId} {below : List Frame} {meth : Method} {c : Code} {G : e_G} {L : Nat} {xs : Nat → Int32} {b : Nat} {k18 : Nat → Nat → Int32 → e_H → Option Bool} (E : e_M G p s #[Value.ref b] m meth c cL_law 4 ret RL) (hX : va_X b L xs s s.heap) (hbl : b < s.heap.size) (hbA : ¬ e_A G b) (hbz : G.2.2.1 = s.heap.size) {n9 : Nat} (K18 : ∀ (l1 : Nat) (l2 : Nat) (l3 : Int32) (h : e_H), k18 l1 l2 l3 h = some true → ∀ (cells slots : Nat), cells + (n9 * 2 + 2) ≤ 600000 → slots + (n9 * 99 + 99) ≤ 7302250 → ∀ (H : Heap) (locs : List Loc), e_J G s h H locs → ∀ (ls : Array Slot), lv_has ls 4 [(0, .ref b), (1, .ref (e_ad G l1)), (2, .ref (e_ad G l2)), (3, .int l3)] → W p l e room_1 s m #[Value.ref b] below meth c H locs cells slots (lw_Z below #[Value.ref b] s) (F0 m 18 ls [])) (l1 : Nat) (l2 : Nat) (l3 : Int32) (h : e_H) (hM : fL_law_b1481 L xs k18 l1 l2 l3 h = some true) {cells slots : Nat} (hb1 : cells + 0 ≤ 600000) (hb2 : slots + 0 ≤ 7302250) (hb3 : cells + 0 + (n9 * 2 + 2) ≤ 600000) (hb4 : slots + 0 + (n9 * 99 + 99) ≤ 7302250) {H : Heap} {locs : List Loc} (J : e_J G s h H locs) {ls : Array Slot} (hl : lv_has ls 4 [(0, .ref b), (1, .ref (e_ad G l1)), (2, .ref (e_ad G l2)), (3, .int l3)]) : W p l e room_1 s m #[Value.ref b] below meth c H locs cells slots (lw_Z below #[Value.ref b] s) (F0 m 1481 ls []) := by
  obtain ⟨hx, hb, hr, hml, hown, hts, hlocks, hES, hbs⟩ := id E
  unfold fL_law_b1481 at hM
  refine lv_aload_n hx hb dL_law_1481 rfl (lv_at hl 1 rfl) ?_
  refine lv_aload_n hx hb dL_law_1482 rfl (lv_at hl 0 rfl) ?_
  refine lv_iload_n hx hb dL_law_1483 rfl (lv_at hl 3 rfl) ?_
  refine lv_iconst (v := nI 1) hx hb dL_law_1484 (by decide) ?_
  refine lv_iadd hx hb dL_law_1485 ?_
  obtain ⟨hz, hM⟩ := e_if0 hM
  refine va_sld hx hb hX hbl hbA J.2 hz dL_law_1486 ?_
  refine lv_aload_n hx hb dL_law_1487 rfl (lv_at hl 0 rfl) ?_
  refine lv_iload_n hx hb dL_law_1488 rfl (lv_at hl 3 rfl) ?_
  refine lv_iconst (v := nI 2) hx hb dL_law_1489 (by decide) ?_
  refine lv_iadd hx hb dL_law_1490 ?_
  obtain ⟨hz, hM⟩ := e_if0 hM
  refine va_sld hx hb hX hbl hbA J.2 hz dL_law_1491 ?_
  obtain ⟨v1, hv, hM⟩ := e_bs hM
  obtain ⟨fs_, hk, -⟩ := e_bs hv
  refine e_callV (ci := 8) (As := [.int (xs ((l3 + (nI 1))).toNatClampNeg), .int (xs ((l3 + (nI 2))).toNatClampNeg)]) (rest := []) (n := 2) E J hk rfl (mX8_ask (l := l) (G := G) l1 (xs ((l3 + (nI 1))).toNatClampNeg) (xs ((l3 + (nI 2))).toNatClampNeg) h _ hv) q_4_200 q_4_201 q_4_202 q_1_1 q_4_203 (by decide +kernel) rfl ⟨Nat.le_of_ble_eq_true rfl, Nat.le_of_ble_eq_true rfl⟩ (st0 := [.int (xs ((l3 + (nI 2))).toNatClampNeg), .int (xs ((l3 + (nI 1))).toNatClampNeg), .ref (e_ad G l1)]) (st1 := [.int v1]) rfl rfl hl.1 (Nat.le_of_ble_eq_true rfl) dL_law_1492 ⟨e_rcc (by omega), e_rcs (by omega)⟩ (fun H locs J => ?_)
  refine lv_aload_n hx hb dL_law_1495 rfl (lv_at hl 2 rfl) ?_
  refine lv_aload_n hx hb dL_law_1496 rfl (lv_at hl 0 rfl) ?_
  refine lv_iload_n hx hb dL_law_1497 rfl (lv_at hl 3 rfl) ?_
  refine lv_iconst (v := nI 1) hx hb dL_law_1498 (by decide) ?_
  refine lv_iadd hx hb dL_law_1499 ?_
  obtain ⟨hz, hM⟩ := e_if0 hM
  refine va_sld hx hb hX hbl hbA J.2 hz dL_law_1500 ?_
  refine lv_aload_n hx hb dL_law_1501 rfl (lv_at hl 0 rfl) ?_
  refine lv_iload_n hx hb dL_law_1502 rfl (lv_at hl 3 rfl) ?_
  refine lv_iconst (v := nI 2) hx hb dL_law_1503 (by decide) ?_
  refine lv_iadd hx hb dL_law_1504 ?_
  obtain ⟨hz, hM⟩ := e_if0 hM
  refine va_sld hx hb hX hbl hbA J.2 hz dL_law_1505 ?_
  obtain ⟨v2, hv, hM⟩ := e_bs hM
  obtain ⟨fs_, hk, -⟩ := e_bs hv
  refine e_callV (ci := 9) (As := [.int (xs ((l3 + (nI 1))).toNatClampNeg), .int (xs ((l3 + (nI 2))).toNatClampNeg)]) (rest := [.int v1]) (n := 2) E J hk rfl (mX9_ask (l := l) (G := G) l2 (xs ((l3 + (nI 1))).toNatClampNeg) (xs ((l3 + (nI 2))).toNatClampNeg) h _ hv) q_6_212 q_6_213 q_6_214 q_1_9 q_6_215 (by decide +kernel) rfl ⟨Nat.le_of_ble_eq_true rfl, Nat.le_of_ble_eq_true rfl⟩ (st0 := [.int (xs ((l3 + (nI 2))).toNatClampNeg), .int (xs ((l3 + (nI 1))).toNatClampNeg), .ref (e_ad G l2), .int v1]) (st1 := [.int v2, .int v1]) rfl rfl hl.1 (Nat.le_of_ble_eq_true rfl) dL_law_1506 ⟨e_rcc (by omega), e_rcs (by omega)⟩ (fun H locs J => ?_)
  refine lv_icmp_eq (tgt := 1685) hx hb dL_law_1509 (by decide) (fun hc => ?_) (fun hc => ?_)
  · have hM := e_ip hc hM
    exact mL_law_b1685 E hX hbl hbA hbz K18 l1 l2 l3 h hM (by omega) (by omega) J (lv_sub hl [0, 1, 2, 3] rfl)
  · have hM := e_in hc hM
    refine lv_iconst (v := nI 0) hx hb dL_law_1512 (by decide) ?_
    cases hM
set_option maxRecDepth 100000 in
set_option maxHeartbeats 4000000 in
theorem mL_law_b1514 {p : Program} {l : Launch} {e : Env} {s : State} {m : MethodId} {below : List Frame} {meth : Method} {c : Code} {G : e_G} {L : Nat} {xs : Nat → Int32} {b : Nat} {k18 : Nat → Nat → Int32 → e_H → Option Bool} (E : e_M G p s #[Value.ref b] m meth c cL_law 4 ret RL) (hX : va_X b L xs s s.heap) (hbl : b < s.heap.size) (hbA : ¬ e_A G b) (hbz : G.2.2.1 = s.heap.size) {n9 : Nat} (K18 : ∀ (l1 : Nat) (l2 : Nat) (l3 : Int32) (h : e_H), k18 l1 l2 l3 h = some true → ∀ (cells slots : Nat), cells + (n9 * 2 + 2) ≤ 600000 → slots + (n9 * 99 + 99) ≤ 7302250 → ∀ (H : Heap) (locs : List Loc), e_J G s h H locs → ∀ (ls : Array Slot), lv_has ls 4 [(0, .ref b), (1, .ref (e_ad G l1)), (2, .ref (e_ad G l2)), (3, .int l3)] → W p l e room_1 s m #[Value.ref b] below meth c H locs cells slots (lw_Z below #[Value.ref b] s) (F0 m 18 ls [])) (l1 : Nat) (l2 : Nat) (l3 : Int32) (h : e_H) (hM : fL_law_b1514 L xs k18 l1 l2 l3 h = some true) {cells slots : Nat} (hb1 : cells + 0 ≤ 600000) (hb2 : slots + 0 ≤ 7302250) (hb3 : cells + 0 + (n9 * 2 + 2) ≤ 600000) (hb4 : slots + 0 + (n9 * 99 + 99) ≤ 7302250) {H : Heap} {locs : List Loc} (J : e_J G s h H locs) {ls : Array Slot} (hl : lv_has ls 4 [(0, .ref b), (1, .ref (e_ad G l1)), (2, .ref (e_ad G l2)), (3, .int l3)]) : W p l e room_1 s m #[Value.ref b] below meth c H locs cells slots (lw_Z below #[Value.ref b] s) (F0 m 1514 ls []) := by
  obtain ⟨hx, hb, hr, hml, hown, hts, hlocks, hES, hbs⟩ := id E
  unfold fL_law_b1514 at hM
  refine lv_aload_n hx hb dL_law_1514 rfl (lv_at hl 1 rfl) ?_
  refine lv_aload_n hx hb dL_law_1515 rfl (lv_at hl 0 rfl) ?_
  refine lv_iload_n hx hb dL_law_1516 rfl (lv_at hl 3 rfl) ?_
  refine lv_iconst (v := nI 1) hx hb dL_law_1517 (by decide) ?_
  refine lv_iadd hx hb dL_law_1518 ?_
  obtain ⟨hz, hM⟩ := e_if0 hM
  refine va_sld hx hb hX hbl hbA J.2 hz dL_law_1519 ?_
  refine lv_aload_n hx hb dL_law_1520 rfl (lv_at hl 0 rfl) ?_
  refine lv_iload_n hx hb dL_law_1521 rfl (lv_at hl 3 rfl) ?_
  refine lv_iconst (v := nI 2) hx hb dL_law_1522 (by decide) ?_
  refine lv_iadd hx hb dL_law_1523 ?_
  obtain ⟨hz, hM⟩ := e_if0 hM
  refine va_sld hx hb hX hbl hbA J.2 hz dL_law_1524 ?_
  obtain ⟨v1, hv, hM⟩ := e_bs hM
  obtain ⟨fs_, hk, -⟩ := e_bs hv
  refine e_callV (ci := 8) (As := [.int (xs ((l3 + (nI 1))).toNatClampNeg), .int (xs ((l3 + (nI 2))).toNatClampNeg)]) (rest := []) (n := 2) E J hk rfl (mX8_item (l := l) (G := G) l1 (xs ((l3 + (nI 1))).toNatClampNeg) (xs ((l3 + (nI 2))).toNatClampNeg) h _ hv) q_4_204 q_4_205 q_4_206 q_1_1 q_4_207 (by decide +kernel) rfl ⟨Nat.le_of_ble_eq_true rfl, Nat.le_of_ble_eq_true rfl⟩ (st0 := [.int (xs ((l3 + (nI 2))).toNatClampNeg), .int (xs ((l3 + (nI 1))).toNatClampNeg), .ref (e_ad G l1)]) (st1 := [.int v1]) rfl rfl hl.1 (Nat.le_of_ble_eq_true rfl) dL_law_1525 ⟨e_rcc (by omega), e_rcs (by omega)⟩ (fun H locs J => ?_)
  refine lv_aload_n hx hb dL_law_1528 rfl (lv_at hl 2 rfl) ?_
  refine lv_aload_n hx hb dL_law_1529 rfl (lv_at hl 0 rfl) ?_
  refine lv_iload_n hx hb dL_law_1530 rfl (lv_at hl 3 rfl) ?_
  refine lv_iconst (v := nI 1) hx hb dL_law_1531 (by decide) ?_
  refine lv_iadd hx hb dL_law_1532 ?_
  obtain ⟨hz, hM⟩ := e_if0 hM
  refine va_sld hx hb hX hbl hbA J.2 hz dL_law_1533 ?_
  refine lv_aload_n hx hb dL_law_1534 rfl (lv_at hl 0 rfl) ?_
  refine lv_iload_n hx hb dL_law_1535 rfl (lv_at hl 3 rfl) ?_
  refine lv_iconst (v := nI 2) hx hb dL_law_1536 (by decide) ?_
  refine lv_iadd hx hb dL_law_1537 ?_
  obtain ⟨hz, hM⟩ := e_if0 hM
  refine va_sld hx hb hX hbl hbA J.2 hz dL_law_1538 ?_
  obtain ⟨v2, hv, hM⟩ := e_bs hM
  obtain ⟨fs_, hk, -⟩ := e_bs hv
  refine e_callV (ci := 9) (As := [.int (xs ((l3 + (nI 1))).toNatClampNeg), .int (xs ((l3 + (nI 2))).toNatClampNeg)]) (rest := [.int v1]) (n := 2) E J hk rfl (mX9_item (l := l) (G := G) l2 (xs ((l3 + (nI 1))).toNatClampNeg) (xs ((l3 + (nI 2))).toNatClampNeg) h _ hv) q_6_216 q_6_217 q_6_218 q_1_9 q_6_219 (by decide +kernel) rfl ⟨Nat.le_of_ble_eq_true rfl, Nat.le_of_ble_eq_true rfl⟩ (st0 := [.int (xs ((l3 + (nI 2))).toNatClampNeg), .int (xs ((l3 + (nI 1))).toNatClampNeg), .ref (e_ad G l2), .int v1]) (st1 := [.int v2, .int v1]) rfl rfl hl.1 (Nat.le_of_ble_eq_true rfl) dL_law_1539 ⟨e_rcc (by omega), e_rcs (by omega)⟩ (fun H locs J => ?_)
  refine lv_icmp_eq (tgt := 1685) hx hb dL_law_1542 (by decide) (fun hc => ?_) (fun hc => ?_)
  · have hM := e_ip hc hM
    exact mL_law_b1685 E hX hbl hbA hbz K18 l1 l2 l3 h hM (by omega) (by omega) J (lv_sub hl [0, 1, 2, 3] rfl)
  · have hM := e_in hc hM
    refine lv_iconst (v := nI 0) hx hb dL_law_1545 (by decide) ?_
    cases hM
set_option maxRecDepth 100000 in
set_option maxHeartbeats 4000000 in
theorem mL_law_b1547 {p : Program} {l : Launch} {e : Env} {s : State} {m : MethodId} {below : List Frame} {meth : Method} {c : Code} {G : e_G} {L : Nat} {xs : Nat → Int32} {b : Nat} {k18 : Nat → Nat → Int32 → e_H → Option Bool} (E : e_M G p s #[Value.ref b] m meth c cL_law 4 ret RL) (hX : va_X b L xs s s.heap) (hbl : b < s.heap.size) (hbA : ¬ e_A G b) (hbz : G.2.2.1 = s.heap.size) {n9 : Nat} (K18 : ∀ (l1 : Nat) (l2 : Nat) (l3 : Int32) (h : e_H), k18 l1 l2 l3 h = some true → ∀ (cells slots : Nat), cells + (n9 * 2 + 2) ≤ 600000 → slots + (n9 * 99 + 99) ≤ 7302250 → ∀ (H : Heap) (locs : List Loc), e_J G s h H locs → ∀ (ls : Array Slot), lv_has ls 4 [(0, .ref b), (1, .ref (e_ad G l1)), (2, .ref (e_ad G l2)), (3, .int l3)] → W p l e room_1 s m #[Value.ref b] below meth c H locs cells slots (lw_Z below #[Value.ref b] s) (F0 m 18 ls [])) (l1 : Nat) (l2 : Nat) (l3 : Int32) (h : e_H) (hM : fL_law_b1547 L xs k18 l1 l2 l3 h = some true) {cells slots : Nat} (hb1 : cells + 0 ≤ 600000) (hb2 : slots + 0 ≤ 7302250) (hb3 : cells + 0 + (n9 * 2 + 2) ≤ 600000) (hb4 : slots + 0 + (n9 * 99 + 99) ≤ 7302250) {H : Heap} {locs : List Loc} (J : e_J G s h H locs) {ls : Array Slot} (hl : lv_has ls 4 [(0, .ref b), (1, .ref (e_ad G l1)), (2, .ref (e_ad G l2)), (3, .int l3)]) : W p l e room_1 s m #[Value.ref b] below meth c H locs cells slots (lw_Z below #[Value.ref b] s) (F0 m 1547 ls []) := by
  obtain ⟨hx, hb, hr, hml, hown, hts, hlocks, hES, hbs⟩ := id E
  unfold fL_law_b1547 at hM
  refine lv_aload_n hx hb dL_law_1547 rfl (lv_at hl 1 rfl) ?_
  refine lv_aload_n hx hb dL_law_1548 rfl (lv_at hl 0 rfl) ?_
  refine lv_iload_n hx hb dL_law_1549 rfl (lv_at hl 3 rfl) ?_
  refine lv_iconst (v := nI 1) hx hb dL_law_1550 (by decide) ?_
  refine lv_iadd hx hb dL_law_1551 ?_
  obtain ⟨hz, hM⟩ := e_if0 hM
  refine va_sld hx hb hX hbl hbA J.2 hz dL_law_1552 ?_
  refine lv_aload_n hx hb dL_law_1553 rfl (lv_at hl 0 rfl) ?_
  refine lv_iload_n hx hb dL_law_1554 rfl (lv_at hl 3 rfl) ?_
  refine lv_iconst (v := nI 2) hx hb dL_law_1555 (by decide) ?_
  refine lv_iadd hx hb dL_law_1556 ?_
  obtain ⟨hz, hM⟩ := e_if0 hM
  refine va_sld hx hb hX hbl hbA J.2 hz dL_law_1557 ?_
  obtain ⟨v1, hv, hM⟩ := e_bs hM
  obtain ⟨fs_, hk, -⟩ := e_bs hv
  refine e_callV (ci := 8) (As := [.int (xs ((l3 + (nI 1))).toNatClampNeg), .int (xs ((l3 + (nI 2))).toNatClampNeg)]) (rest := []) (n := 2) E J hk rfl (mX8_rest (l := l) (G := G) l1 (xs ((l3 + (nI 1))).toNatClampNeg) (xs ((l3 + (nI 2))).toNatClampNeg) h _ hv) q_4_208 q_4_209 q_4_210 q_1_1 q_4_211 (by decide +kernel) rfl ⟨Nat.le_of_ble_eq_true rfl, Nat.le_of_ble_eq_true rfl⟩ (st0 := [.int (xs ((l3 + (nI 2))).toNatClampNeg), .int (xs ((l3 + (nI 1))).toNatClampNeg), .ref (e_ad G l1)]) (st1 := [.int v1]) rfl rfl hl.1 (Nat.le_of_ble_eq_true rfl) dL_law_1558 ⟨e_rcc (by omega), e_rcs (by omega)⟩ (fun H locs J => ?_)
  refine lv_aload_n hx hb dL_law_1561 rfl (lv_at hl 2 rfl) ?_
  refine lv_aload_n hx hb dL_law_1562 rfl (lv_at hl 0 rfl) ?_
  refine lv_iload_n hx hb dL_law_1563 rfl (lv_at hl 3 rfl) ?_
  refine lv_iconst (v := nI 1) hx hb dL_law_1564 (by decide) ?_
  refine lv_iadd hx hb dL_law_1565 ?_
  obtain ⟨hz, hM⟩ := e_if0 hM
  refine va_sld hx hb hX hbl hbA J.2 hz dL_law_1566 ?_
  refine lv_aload_n hx hb dL_law_1567 rfl (lv_at hl 0 rfl) ?_
  refine lv_iload_n hx hb dL_law_1568 rfl (lv_at hl 3 rfl) ?_
  refine lv_iconst (v := nI 2) hx hb dL_law_1569 (by decide) ?_
  refine lv_iadd hx hb dL_law_1570 ?_
  obtain ⟨hz, hM⟩ := e_if0 hM
  refine va_sld hx hb hX hbl hbA J.2 hz dL_law_1571 ?_
  obtain ⟨v2, hv, hM⟩ := e_bs hM
  obtain ⟨fs_, hk, -⟩ := e_bs hv
  refine e_callV (ci := 9) (As := [.int (xs ((l3 + (nI 1))).toNatClampNeg), .int (xs ((l3 + (nI 2))).toNatClampNeg)]) (rest := [.int v1]) (n := 2) E J hk rfl (mX9_rest (l := l) (G := G) l2 (xs ((l3 + (nI 1))).toNatClampNeg) (xs ((l3 + (nI 2))).toNatClampNeg) h _ hv) q_6_220 q_6_221 q_6_222 q_1_9 q_6_223 (by decide +kernel) rfl ⟨Nat.le_of_ble_eq_true rfl, Nat.le_of_ble_eq_true rfl⟩ (st0 := [.int (xs ((l3 + (nI 2))).toNatClampNeg), .int (xs ((l3 + (nI 1))).toNatClampNeg), .ref (e_ad G l2), .int v1]) (st1 := [.int v2, .int v1]) rfl rfl hl.1 (Nat.le_of_ble_eq_true rfl) dL_law_1572 ⟨e_rcc (by omega), e_rcs (by omega)⟩ (fun H locs J => ?_)
  refine lv_icmp_eq (tgt := 1685) hx hb dL_law_1575 (by decide) (fun hc => ?_) (fun hc => ?_)
  · have hM := e_ip hc hM
    exact mL_law_b1685 E hX hbl hbA hbz K18 l1 l2 l3 h hM (by omega) (by omega) J (lv_sub hl [0, 1, 2, 3] rfl)
  · have hM := e_in hc hM
    refine lv_iconst (v := nI 0) hx hb dL_law_1578 (by decide) ?_
    cases hM
set_option maxRecDepth 100000 in
set_option maxHeartbeats 4000000 in
theorem mL_law_b1580 {p : Program} {l : Launch} {e : Env} {s : State} {m : MethodId} {below : List Frame} {meth : Method} {c : Code} {G : e_G} {L : Nat} {xs : Nat → Int32} {b : Nat} {k18 : Nat → Nat → Int32 → e_H → Option Bool} (E : e_M G p s #[Value.ref b] m meth c cL_law 4 ret RL) (hX : va_X b L xs s s.heap) (hbl : b < s.heap.size) (hbA : ¬ e_A G b) (hbz : G.2.2.1 = s.heap.size) {n9 : Nat} (K18 : ∀ (l1 : Nat) (l2 : Nat) (l3 : Int32) (h : e_H), k18 l1 l2 l3 h = some true → ∀ (cells slots : Nat), cells + (n9 * 2 + 2) ≤ 600000 → slots + (n9 * 99 + 99) ≤ 7302250 → ∀ (H : Heap) (locs : List Loc), e_J G s h H locs → ∀ (ls : Array Slot), lv_has ls 4 [(0, .ref b), (1, .ref (e_ad G l1)), (2, .ref (e_ad G l2)), (3, .int l3)] → W p l e room_1 s m #[Value.ref b] below meth c H locs cells slots (lw_Z below #[Value.ref b] s) (F0 m 18 ls [])) (l1 : Nat) (l2 : Nat) (l3 : Int32) (h : e_H) (hM : fL_law_b1580 L xs k18 l1 l2 l3 h = some true) {cells slots : Nat} (hb1 : cells + 0 ≤ 600000) (hb2 : slots + 0 ≤ 7302250) (hb3 : cells + 0 + (n9 * 2 + 2) ≤ 600000) (hb4 : slots + 0 + (n9 * 99 + 99) ≤ 7302250) {H : Heap} {locs : List Loc} (J : e_J G s h H locs) {ls : Array Slot} (hl : lv_has ls 4 [(0, .ref b), (1, .ref (e_ad G l1)), (2, .ref (e_ad G l2)), (3, .int l3)]) : W p l e room_1 s m #[Value.ref b] below meth c H locs cells slots (lw_Z below #[Value.ref b] s) (F0 m 1580 ls []) := by
  obtain ⟨hx, hb, hr, hml, hown, hts, hlocks, hES, hbs⟩ := id E
  unfold fL_law_b1580 at hM
  refine lv_aload_n hx hb dL_law_1580 rfl (lv_at hl 1 rfl) ?_
  refine lv_aload_n hx hb dL_law_1581 rfl (lv_at hl 0 rfl) ?_
  refine lv_iload_n hx hb dL_law_1582 rfl (lv_at hl 3 rfl) ?_
  refine lv_iconst (v := nI 1) hx hb dL_law_1583 (by decide) ?_
  refine lv_iadd hx hb dL_law_1584 ?_
  obtain ⟨hz, hM⟩ := e_if0 hM
  refine va_sld hx hb hX hbl hbA J.2 hz dL_law_1585 ?_
  obtain ⟨p1, hv, hM⟩ := e_bs hM
  obtain ⟨fs_, hk, -⟩ := e_bs hv
  refine e_callV (ci := 8) (As := [.int (xs ((l3 + (nI 1))).toNatClampNeg)]) (rest := []) (n := 1) E J hk rfl (mX8_tell (l := l) (G := G) l1 (xs ((l3 + (nI 1))).toNatClampNeg) h _ hv) q_4_212 q_4_213 q_4_214 q_1_1 q_4_215 (by decide +kernel) rfl ⟨Nat.le_of_ble_eq_true rfl, Nat.le_of_ble_eq_true rfl⟩ (st0 := [.int (xs ((l3 + (nI 1))).toNatClampNeg), .ref (e_ad G l1)]) (st1 := [.int p1.1]) rfl rfl hl.1 (Nat.le_of_ble_eq_true rfl) dL_law_1586 ⟨e_rcc (by omega), e_rcs (by omega)⟩ (fun H locs J => ?_)
  refine lv_aload_n hx hb dL_law_1589 rfl (lv_at hl 2 rfl) ?_
  refine lv_aload_n hx hb dL_law_1590 rfl (lv_at hl 0 rfl) ?_
  refine lv_iload_n hx hb dL_law_1591 rfl (lv_at hl 3 rfl) ?_
  refine lv_iconst (v := nI 1) hx hb dL_law_1592 (by decide) ?_
  refine lv_iadd hx hb dL_law_1593 ?_
  obtain ⟨hz, hM⟩ := e_if0 hM
  refine va_sld hx hb hX hbl hbA J.2 hz dL_law_1594 ?_
  obtain ⟨p2, hv, hM⟩ := e_bs hM
  obtain ⟨fs_, hk, -⟩ := e_bs hv
  refine e_callV (ci := 9) (As := [.int (xs ((l3 + (nI 1))).toNatClampNeg)]) (rest := [.int p1.1]) (n := 1) E J hk rfl (mX9_tell (l := l) (G := G) l2 (xs ((l3 + (nI 1))).toNatClampNeg) p1.2 _ hv) q_6_224 q_6_225 q_6_226 q_1_9 q_6_227 (by decide +kernel) rfl ⟨Nat.le_of_ble_eq_true rfl, Nat.le_of_ble_eq_true rfl⟩ (st0 := [.int (xs ((l3 + (nI 1))).toNatClampNeg), .ref (e_ad G l2), .int p1.1]) (st1 := [.int p2.1, .int p1.1]) rfl rfl hl.1 (Nat.le_of_ble_eq_true rfl) dL_law_1595 ⟨e_rcc (by omega), e_rcs (by omega)⟩ (fun H locs J => ?_)
  refine lv_icmp_eq (tgt := 1685) hx hb dL_law_1598 (by decide) (fun hc => ?_) (fun hc => ?_)
  · have hM := e_ip hc hM
    exact mL_law_b1685 E hX hbl hbA hbz K18 l1 l2 l3 p2.2 hM (by omega) (by omega) J (lv_sub hl [0, 1, 2, 3] rfl)
  · have hM := e_in hc hM
    refine lv_iconst (v := nI 0) hx hb dL_law_1601 (by decide) ?_
    cases hM
set_option maxRecDepth 100000 in
set_option maxHeartbeats 4000000 in
theorem mL_law_b1603 {p : Program} {l : Launch} {e : Env} {s : State} {m : MethodId} {below : List Frame} {meth : Method} {c : Code} {G : e_G} {L : Nat} {xs : Nat → Int32} {b : Nat} {k18 : Nat → Nat → Int32 → e_H → Option Bool} (E : e_M G p s #[Value.ref b] m meth c cL_law 4 ret RL) (hX : va_X b L xs s s.heap) (hbl : b < s.heap.size) (hbA : ¬ e_A G b) (hbz : G.2.2.1 = s.heap.size) {n9 : Nat} (K18 : ∀ (l1 : Nat) (l2 : Nat) (l3 : Int32) (h : e_H), k18 l1 l2 l3 h = some true → ∀ (cells slots : Nat), cells + (n9 * 2 + 2) ≤ 600000 → slots + (n9 * 99 + 99) ≤ 7302250 → ∀ (H : Heap) (locs : List Loc), e_J G s h H locs → ∀ (ls : Array Slot), lv_has ls 4 [(0, .ref b), (1, .ref (e_ad G l1)), (2, .ref (e_ad G l2)), (3, .int l3)] → W p l e room_1 s m #[Value.ref b] below meth c H locs cells slots (lw_Z below #[Value.ref b] s) (F0 m 18 ls [])) (l1 : Nat) (l2 : Nat) (l3 : Int32) (h : e_H) (hM : fL_law_b1603 L xs k18 l1 l2 l3 h = some true) {cells slots : Nat} (hb1 : cells + 0 ≤ 600000) (hb2 : slots + 0 ≤ 7302250) (hb3 : cells + 0 + (n9 * 2 + 2) ≤ 600000) (hb4 : slots + 0 + (n9 * 99 + 99) ≤ 7302250) {H : Heap} {locs : List Loc} (J : e_J G s h H locs) {ls : Array Slot} (hl : lv_has ls 4 [(0, .ref b), (1, .ref (e_ad G l1)), (2, .ref (e_ad G l2)), (3, .int l3)]) : W p l e room_1 s m #[Value.ref b] below meth c H locs cells slots (lw_Z below #[Value.ref b] s) (F0 m 1603 ls []) := by
  obtain ⟨hx, hb, hr, hml, hown, hts, hlocks, hES, hbs⟩ := id E
  unfold fL_law_b1603 at hM
  refine lv_aload_n hx hb dL_law_1603 rfl (lv_at hl 1 rfl) ?_
  refine lv_aload_n hx hb dL_law_1604 rfl (lv_at hl 0 rfl) ?_
  refine lv_iload_n hx hb dL_law_1605 rfl (lv_at hl 3 rfl) ?_
  refine lv_iconst (v := nI 1) hx hb dL_law_1606 (by decide) ?_
  refine lv_iadd hx hb dL_law_1607 ?_
  obtain ⟨hz, hM⟩ := e_if0 hM
  refine va_sld hx hb hX hbl hbA J.2 hz dL_law_1608 ?_
  refine lv_aload_n hx hb dL_law_1609 rfl (lv_at hl 0 rfl) ?_
  refine lv_iload_n hx hb dL_law_1610 rfl (lv_at hl 3 rfl) ?_
  refine lv_iconst (v := nI 2) hx hb dL_law_1611 (by decide) ?_
  refine lv_iadd hx hb dL_law_1612 ?_
  obtain ⟨hz, hM⟩ := e_if0 hM
  refine va_sld hx hb hX hbl hbA J.2 hz dL_law_1613 ?_
  obtain ⟨p1, hv, hM⟩ := e_bs hM
  obtain ⟨fs_, hk, -⟩ := e_bs hv
  refine e_callV (ci := 8) (As := [.int (xs ((l3 + (nI 1))).toNatClampNeg), .int (xs ((l3 + (nI 2))).toNatClampNeg)]) (rest := []) (n := 2) E J hk rfl (mX8_check (l := l) (G := G) l1 (xs ((l3 + (nI 1))).toNatClampNeg) (xs ((l3 + (nI 2))).toNatClampNeg) h _ hv) q_4_216 q_4_217 q_4_218 q_1_1 q_4_219 (by decide +kernel) rfl ⟨Nat.le_of_ble_eq_true rfl, Nat.le_of_ble_eq_true rfl⟩ (st0 := [.int (xs ((l3 + (nI 2))).toNatClampNeg), .int (xs ((l3 + (nI 1))).toNatClampNeg), .ref (e_ad G l1)]) (st1 := [.int p1.1]) rfl rfl hl.1 (Nat.le_of_ble_eq_true rfl) dL_law_1614 ⟨e_rcc (by omega), e_rcs (by omega)⟩ (fun H locs J => ?_)
  refine lv_aload_n hx hb dL_law_1617 rfl (lv_at hl 2 rfl) ?_
  refine lv_aload_n hx hb dL_law_1618 rfl (lv_at hl 0 rfl) ?_
  refine lv_iload_n hx hb dL_law_1619 rfl (lv_at hl 3 rfl) ?_
  refine lv_iconst (v := nI 1) hx hb dL_law_1620 (by decide) ?_
  refine lv_iadd hx hb dL_law_1621 ?_
  obtain ⟨hz, hM⟩ := e_if0 hM
  refine va_sld hx hb hX hbl hbA J.2 hz dL_law_1622 ?_
  refine lv_aload_n hx hb dL_law_1623 rfl (lv_at hl 0 rfl) ?_
  refine lv_iload_n hx hb dL_law_1624 rfl (lv_at hl 3 rfl) ?_
  refine lv_iconst (v := nI 2) hx hb dL_law_1625 (by decide) ?_
  refine lv_iadd hx hb dL_law_1626 ?_
  obtain ⟨hz, hM⟩ := e_if0 hM
  refine va_sld hx hb hX hbl hbA J.2 hz dL_law_1627 ?_
  obtain ⟨p2, hv, hM⟩ := e_bs hM
  obtain ⟨fs_, hk, -⟩ := e_bs hv
  refine e_callV (ci := 9) (As := [.int (xs ((l3 + (nI 1))).toNatClampNeg), .int (xs ((l3 + (nI 2))).toNatClampNeg)]) (rest := [.int p1.1]) (n := 2) E J hk rfl (mX9_check (l := l) (G := G) l2 (xs ((l3 + (nI 1))).toNatClampNeg) (xs ((l3 + (nI 2))).toNatClampNeg) p1.2 _ hv) q_6_228 q_6_229 q_6_230 q_1_9 q_6_231 (by decide +kernel) rfl ⟨Nat.le_of_ble_eq_true rfl, Nat.le_of_ble_eq_true rfl⟩ (st0 := [.int (xs ((l3 + (nI 2))).toNatClampNeg), .int (xs ((l3 + (nI 1))).toNatClampNeg), .ref (e_ad G l2), .int p1.1]) (st1 := [.int p2.1, .int p1.1]) rfl rfl hl.1 (Nat.le_of_ble_eq_true rfl) dL_law_1628 ⟨e_rcc (by omega), e_rcs (by omega)⟩ (fun H locs J => ?_)
  refine lv_icmp_eq (tgt := 1685) hx hb dL_law_1631 (by decide) (fun hc => ?_) (fun hc => ?_)
  · have hM := e_ip hc hM
    exact mL_law_b1685 E hX hbl hbA hbz K18 l1 l2 l3 p2.2 hM (by omega) (by omega) J (lv_sub hl [0, 1, 2, 3] rfl)
  · have hM := e_in hc hM
    refine lv_iconst (v := nI 0) hx hb dL_law_1634 (by decide) ?_
    cases hM
set_option maxRecDepth 100000 in
set_option maxHeartbeats 4000000 in
theorem mL_law_b1636 {p : Program} {l : Launch} {e : Env} {s : State} {m : MethodId} {below : List Frame} {meth : Method} {c : Code} {G : e_G} {L : Nat} {xs : Nat → Int32} {b : Nat} {k18 : Nat → Nat → Int32 → e_H → Option Bool} (E : e_M G p s #[Value.ref b] m meth c cL_law 4 ret RL) (hX : va_X b L xs s s.heap) (hbl : b < s.heap.size) (hbA : ¬ e_A G b) (hbz : G.2.2.1 = s.heap.size) {n9 : Nat} (K18 : ∀ (l1 : Nat) (l2 : Nat) (l3 : Int32) (h : e_H), k18 l1 l2 l3 h = some true → ∀ (cells slots : Nat), cells + (n9 * 2 + 2) ≤ 600000 → slots + (n9 * 99 + 99) ≤ 7302250 → ∀ (H : Heap) (locs : List Loc), e_J G s h H locs → ∀ (ls : Array Slot), lv_has ls 4 [(0, .ref b), (1, .ref (e_ad G l1)), (2, .ref (e_ad G l2)), (3, .int l3)] → W p l e room_1 s m #[Value.ref b] below meth c H locs cells slots (lw_Z below #[Value.ref b] s) (F0 m 18 ls [])) (l1 : Nat) (l2 : Nat) (l3 : Int32) (h : e_H) (hM : fL_law_b1636 L xs k18 l1 l2 l3 h = some true) {cells slots : Nat} (hb1 : cells + 0 ≤ 600000) (hb2 : slots + 0 ≤ 7302250) (hb3 : cells + 0 + (n9 * 2 + 2) ≤ 600000) (hb4 : slots + 0 + (n9 * 99 + 99) ≤ 7302250) {H : Heap} {locs : List Loc} (J : e_J G s h H locs) {ls : Array Slot} (hl : lv_has ls 4 [(0, .ref b), (1, .ref (e_ad G l1)), (2, .ref (e_ad G l2)), (3, .int l3)]) : W p l e room_1 s m #[Value.ref b] below meth c H locs cells slots (lw_Z below #[Value.ref b] s) (F0 m 1636 ls []) := by
  obtain ⟨hx, hb, hr, hml, hown, hts, hlocks, hES, hbs⟩ := id E
  unfold fL_law_b1636 at hM
  refine lv_aload_n hx hb dL_law_1636 rfl (lv_at hl 1 rfl) ?_
  obtain ⟨p1, hv, hM⟩ := e_bs hM
  obtain ⟨fs_, hk, -⟩ := e_bs hv
  refine e_callV (ci := 8) (As := []) (rest := []) (n := 0) E J hk rfl (mX8_keep (l := l) (G := G) l1 h _ hv) q_4_227 q_4_228 q_4_229 q_1_1 q_4_230 (by decide +kernel) rfl ⟨Nat.le_of_ble_eq_true rfl, Nat.le_of_ble_eq_true rfl⟩ (st0 := [.ref (e_ad G l1)]) (st1 := [.int p1.1]) rfl rfl hl.1 (Nat.le_of_ble_eq_true rfl) dL_law_1637 ⟨e_rcc (by omega), e_rcs (by omega)⟩ (fun H locs J => ?_)
  refine lv_aload_n hx hb dL_law_1640 rfl (lv_at hl 2 rfl) ?_
  obtain ⟨p2, hv, hM⟩ := e_bs hM
  obtain ⟨fs_, hk, -⟩ := e_bs hv
  refine e_callV (ci := 9) (As := []) (rest := [.int p1.1]) (n := 0) E J hk rfl (mX9_keep (l := l) (G := G) l2 p1.2 _ hv) q_6_235 q_6_236 q_6_237 q_1_9 q_6_238 (by decide +kernel) rfl ⟨Nat.le_of_ble_eq_true rfl, Nat.le_of_ble_eq_true rfl⟩ (st0 := [.ref (e_ad G l2), .int p1.1]) (st1 := [.int p2.1, .int p1.1]) rfl rfl hl.1 (Nat.le_of_ble_eq_true rfl) dL_law_1641 ⟨e_rcc (by omega), e_rcs (by omega)⟩ (fun H locs J => ?_)
  refine lv_icmp_eq (tgt := 1685) hx hb dL_law_1644 (by decide) (fun hc => ?_) (fun hc => ?_)
  · have hM := e_ip hc hM
    exact mL_law_b1685 E hX hbl hbA hbz K18 l1 l2 l3 p2.2 hM (by omega) (by omega) J (lv_sub hl [0, 1, 2, 3] rfl)
  · have hM := e_in hc hM
    refine lv_iconst (v := nI 0) hx hb dL_law_1647 (by decide) ?_
    cases hM
set_option maxRecDepth 100000 in
set_option maxHeartbeats 4000000 in
theorem mL_law_b1649 {p : Program} {l : Launch} {e : Env} {s : State} {m : MethodId} {below : List Frame} {meth : Method} {c : Code} {G : e_G} {L : Nat} {xs : Nat → Int32} {b : Nat} {k18 : Nat → Nat → Int32 → e_H → Option Bool} (E : e_M G p s #[Value.ref b] m meth c cL_law 4 ret RL) (hX : va_X b L xs s s.heap) (hbl : b < s.heap.size) (hbA : ¬ e_A G b) (hbz : G.2.2.1 = s.heap.size) {n9 : Nat} (K18 : ∀ (l1 : Nat) (l2 : Nat) (l3 : Int32) (h : e_H), k18 l1 l2 l3 h = some true → ∀ (cells slots : Nat), cells + (n9 * 2 + 2) ≤ 600000 → slots + (n9 * 99 + 99) ≤ 7302250 → ∀ (H : Heap) (locs : List Loc), e_J G s h H locs → ∀ (ls : Array Slot), lv_has ls 4 [(0, .ref b), (1, .ref (e_ad G l1)), (2, .ref (e_ad G l2)), (3, .int l3)] → W p l e room_1 s m #[Value.ref b] below meth c H locs cells slots (lw_Z below #[Value.ref b] s) (F0 m 18 ls [])) (l1 : Nat) (l2 : Nat) (l3 : Int32) (h : e_H) (hM : fL_law_b1649 L xs k18 l1 l2 l3 h = some true) {cells slots : Nat} (hb1 : cells + 0 ≤ 600000) (hb2 : slots + 0 ≤ 7302250) (hb3 : cells + 0 + (n9 * 2 + 2) ≤ 600000) (hb4 : slots + 0 + (n9 * 99 + 99) ≤ 7302250) {H : Heap} {locs : List Loc} (J : e_J G s h H locs) {ls : Array Slot} (hl : lv_has ls 4 [(0, .ref b), (1, .ref (e_ad G l1)), (2, .ref (e_ad G l2)), (3, .int l3)]) : W p l e room_1 s m #[Value.ref b] below meth c H locs cells slots (lw_Z below #[Value.ref b] s) (F0 m 1649 ls []) := by
  obtain ⟨hx, hb, hr, hml, hown, hts, hlocks, hES, hbs⟩ := id E
  unfold fL_law_b1649 at hM
  refine lv_aload_n hx hb dL_law_1649 rfl (lv_at hl 1 rfl) ?_
  obtain ⟨p1, hv, hM⟩ := e_bs hM
  obtain ⟨fs_, hk, -⟩ := e_bs hv
  refine e_callV (ci := 8) (As := []) (rest := []) (n := 0) E J hk rfl (mX8_back (l := l) (G := G) l1 h _ hv) q_4_236 q_4_237 q_4_238 q_1_1 q_4_239 (by decide +kernel) rfl ⟨Nat.le_of_ble_eq_true rfl, Nat.le_of_ble_eq_true rfl⟩ (st0 := [.ref (e_ad G l1)]) (st1 := [.int p1.1]) rfl rfl hl.1 (Nat.le_of_ble_eq_true rfl) dL_law_1650 ⟨e_rcc (by omega), e_rcs (by omega)⟩ (fun H locs J => ?_)
  refine lv_aload_n hx hb dL_law_1653 rfl (lv_at hl 2 rfl) ?_
  obtain ⟨p2, hv, hM⟩ := e_bs hM
  obtain ⟨fs_, hk, -⟩ := e_bs hv
  refine e_callV (ci := 9) (As := []) (rest := [.int p1.1]) (n := 0) E J hk rfl (mX9_back (l := l) (G := G) l2 p1.2 _ hv) q_6_239 q_7_0 q_7_1 q_1_9 q_7_2 (by decide +kernel) rfl ⟨Nat.le_of_ble_eq_true rfl, Nat.le_of_ble_eq_true rfl⟩ (st0 := [.ref (e_ad G l2), .int p1.1]) (st1 := [.int p2.1, .int p1.1]) rfl rfl hl.1 (Nat.le_of_ble_eq_true rfl) dL_law_1654 ⟨e_rcc (by omega), e_rcs (by omega)⟩ (fun H locs J => ?_)
  refine lv_icmp_eq (tgt := 1685) hx hb dL_law_1657 (by decide) (fun hc => ?_) (fun hc => ?_)
  · have hM := e_ip hc hM
    exact mL_law_b1685 E hX hbl hbA hbz K18 l1 l2 l3 p2.2 hM (by omega) (by omega) J (lv_sub hl [0, 1, 2, 3] rfl)
  · have hM := e_in hc hM
    refine lv_iconst (v := nI 0) hx hb dL_law_1660 (by decide) ?_
    cases hM
set_option maxRecDepth 100000 in
set_option maxHeartbeats 4000000 in
theorem mL_law_b1662 {p : Program} {l : Launch} {e : Env} {s : State} {m : MethodId} {below : List Frame} {meth : Method} {c : Code} {G : e_G} {L : Nat} {xs : Nat → Int32} {b : Nat} {k18 : Nat → Nat → Int32 → e_H → Option Bool} (E : e_M G p s #[Value.ref b] m meth c cL_law 4 ret RL) (hX : va_X b L xs s s.heap) (hbl : b < s.heap.size) (hbA : ¬ e_A G b) (hbz : G.2.2.1 = s.heap.size) {n9 : Nat} (K18 : ∀ (l1 : Nat) (l2 : Nat) (l3 : Int32) (h : e_H), k18 l1 l2 l3 h = some true → ∀ (cells slots : Nat), cells + (n9 * 2 + 2) ≤ 600000 → slots + (n9 * 99 + 99) ≤ 7302250 → ∀ (H : Heap) (locs : List Loc), e_J G s h H locs → ∀ (ls : Array Slot), lv_has ls 4 [(0, .ref b), (1, .ref (e_ad G l1)), (2, .ref (e_ad G l2)), (3, .int l3)] → W p l e room_1 s m #[Value.ref b] below meth c H locs cells slots (lw_Z below #[Value.ref b] s) (F0 m 18 ls [])) (l1 : Nat) (l2 : Nat) (l3 : Int32) (h : e_H) (hM : fL_law_b1662 L xs k18 l1 l2 l3 h = some true) {cells slots : Nat} (hb1 : cells + 0 ≤ 600000) (hb2 : slots + 0 ≤ 7302250) (hb3 : cells + 0 + (n9 * 2 + 2) ≤ 600000) (hb4 : slots + 0 + (n9 * 99 + 99) ≤ 7302250) {H : Heap} {locs : List Loc} (J : e_J G s h H locs) {ls : Array Slot} (hl : lv_has ls 4 [(0, .ref b), (1, .ref (e_ad G l1)), (2, .ref (e_ad G l2)), (3, .int l3)]) : W p l e room_1 s m #[Value.ref b] below meth c H locs cells slots (lw_Z below #[Value.ref b] s) (F0 m 1662 ls []) := by
  obtain ⟨hx, hb, hr, hml, hown, hts, hlocks, hES, hbs⟩ := id E
  unfold fL_law_b1662 at hM
  refine lv_aload_n hx hb dL_law_1662 rfl (lv_at hl 1 rfl) ?_
  refine lv_aload_n hx hb dL_law_1663 rfl (lv_at hl 0 rfl) ?_
  refine lv_iload_n hx hb dL_law_1664 rfl (lv_at hl 3 rfl) ?_
  refine lv_iconst (v := nI 1) hx hb dL_law_1665 (by decide) ?_
  refine lv_iadd hx hb dL_law_1666 ?_
  obtain ⟨hz, hM⟩ := e_if0 hM
  refine va_sld hx hb hX hbl hbA J.2 hz dL_law_1667 ?_
  obtain ⟨v1, hv, hM⟩ := e_bs hM
  obtain ⟨fs_, hk, -⟩ := e_bs hv
  refine e_callV (ci := 8) (As := [.int (xs ((l3 + (nI 1))).toNatClampNeg)]) (rest := []) (n := 1) E J hk rfl (mX8_count (l := l) (G := G) l1 (xs ((l3 + (nI 1))).toNatClampNeg) h _ hv) q_5_0 q_5_1 q_5_2 q_1_1 q_5_3 (by decide +kernel) rfl ⟨Nat.le_of_ble_eq_true rfl, Nat.le_of_ble_eq_true rfl⟩ (st0 := [.int (xs ((l3 + (nI 1))).toNatClampNeg), .ref (e_ad G l1)]) (st1 := [.int v1]) rfl rfl hl.1 (Nat.le_of_ble_eq_true rfl) dL_law_1668 ⟨e_rcc (by omega), e_rcs (by omega)⟩ (fun H locs J => ?_)
  refine lv_aload_n hx hb dL_law_1671 rfl (lv_at hl 2 rfl) ?_
  refine lv_aload_n hx hb dL_law_1672 rfl (lv_at hl 0 rfl) ?_
  refine lv_iload_n hx hb dL_law_1673 rfl (lv_at hl 3 rfl) ?_
  refine lv_iconst (v := nI 1) hx hb dL_law_1674 (by decide) ?_
  refine lv_iadd hx hb dL_law_1675 ?_
  obtain ⟨hz, hM⟩ := e_if0 hM
  refine va_sld hx hb hX hbl hbA J.2 hz dL_law_1676 ?_
  obtain ⟨v2, hv, hM⟩ := e_bs hM
  obtain ⟨fs_, hk, -⟩ := e_bs hv
  refine e_callV (ci := 9) (As := [.int (xs ((l3 + (nI 1))).toNatClampNeg)]) (rest := [.int v1]) (n := 1) E J hk rfl (mX9_count (l := l) (G := G) l2 (xs ((l3 + (nI 1))).toNatClampNeg) h _ hv) q_7_3 q_7_4 q_7_5 q_1_9 q_7_6 (by decide +kernel) rfl ⟨Nat.le_of_ble_eq_true rfl, Nat.le_of_ble_eq_true rfl⟩ (st0 := [.int (xs ((l3 + (nI 1))).toNatClampNeg), .ref (e_ad G l2), .int v1]) (st1 := [.int v2, .int v1]) rfl rfl hl.1 (Nat.le_of_ble_eq_true rfl) dL_law_1677 ⟨e_rcc (by omega), e_rcs (by omega)⟩ (fun H locs J => ?_)
  refine lv_icmp_eq (tgt := 1685) hx hb dL_law_1680 (by decide) (fun hc => ?_) (fun hc => ?_)
  · have hM := e_ip hc hM
    exact mL_law_b1685 E hX hbl hbA hbz K18 l1 l2 l3 h hM (by omega) (by omega) J (lv_sub hl [0, 1, 2, 3] rfl)
  · have hM := e_in hc hM
    refine lv_iconst (v := nI 0) hx hb dL_law_1683 (by decide) ?_
    cases hM
set_option maxRecDepth 100000 in
set_option maxHeartbeats 4000000 in
theorem mL_law_b18 {p : Program} {l : Launch} {e : Env} {s : State} {m : MethodId} {below : List Frame} {meth : Method} {c : Code} {G : e_G} {L : Nat} {xs : Nat → Int32} {b : Nat} {k18 : Nat → Nat → Int32 → e_H → Option Bool} (E : e_M G p s #[Value.ref b] m meth c cL_law 4 ret RL) (hX : va_X b L xs s s.heap) (hbl : b < s.heap.size) (hbA : ¬ e_A G b) (hbz : G.2.2.1 = s.heap.size) {n9 : Nat} (K18 : ∀ (l1 : Nat) (l2 : Nat) (l3 : Int32) (h : e_H), k18 l1 l2 l3 h = some true → ∀ (cells slots : Nat), cells + (n9 * 2 + 2) ≤ 600000 → slots + (n9 * 99 + 99) ≤ 7302250 → ∀ (H : Heap) (locs : List Loc), e_J G s h H locs → ∀ (ls : Array Slot), lv_has ls 4 [(0, .ref b), (1, .ref (e_ad G l1)), (2, .ref (e_ad G l2)), (3, .int l3)] → W p l e room_1 s m #[Value.ref b] below meth c H locs cells slots (lw_Z below #[Value.ref b] s) (F0 m 18 ls [])) (l1 : Nat) (l2 : Nat) (l3 : Int32) (h : e_H) (hM : fL_law_b18 L xs k18 l1 l2 l3 h = some true) {cells slots : Nat} (hb1 : cells + 2 ≤ 600000) (hb2 : slots + 99 ≤ 7302250) (hb3 : cells + 2 + (n9 * 2 + 2) ≤ 600000) (hb4 : slots + 99 + (n9 * 99 + 99) ≤ 7302250) {H : Heap} {locs : List Loc} (J : e_J G s h H locs) {ls : Array Slot} (hl : lv_has ls 4 [(0, .ref b), (1, .ref (e_ad G l1)), (2, .ref (e_ad G l2)), (3, .int l3)]) : W p l e room_1 s m #[Value.ref b] below meth c H locs cells slots (lw_Z below #[Value.ref b] s) (F0 m 18 ls []) := by
  obtain ⟨hx, hb, hr, hml, hown, hts, hlocks, hES, hbs⟩ := id E
  unfold fL_law_b18 at hM
  refine lv_iload_n hx hb dL_law_18 rfl (lv_at hl 3 rfl) ?_
  refine lv_aload_n hx hb dL_law_19 rfl (lv_at hl 0 rfl) ?_
  refine va_slen hx hb hX hbl hbA J.2 dL_law_20 ?_
  refine lv_bipush (v := nI 6) hx hb dL_law_21 (by decide) ?_
  refine lv_isub hx hb dL_law_23 ?_
  refine lv_icmp_gt (tgt := 1691) hx hb dL_law_24 (by decide) (fun hc => ?_) (fun hc => ?_)
  · have hM := e_ip hc hM
    refine lv_iconst (v := nI 1) hx hb dL_law_1691 (by decide) ?_
    exact e_lwret E J hbz dL_law_1692 (by omega) (by omega)
  · have hM := e_in hc hM
    refine lv_aload_n hx hb dL_law_27 rfl (lv_at hl 0 rfl) ?_
    refine lv_iload_n hx hb dL_law_28 rfl (lv_at hl 3 rfl) ?_
    obtain ⟨hz, hM⟩ := e_if0 hM
    refine va_sld hx hb hX hbl hbA J.2 hz dL_law_29 ?_
    refine lv_bipush (v := nI 63) hx hb dL_law_30 (by decide) ?_
    refine lv_iand hx hb dL_law_32 ?_
    by_cases hc0 : ((xs (l3).toNatClampNeg) &&& (nI 63)) = nI 0
    · have hM := e_ip hc0 hM
      refine e_tin (y := nI 0) (off := 183) (tgt := 216) hx hb dL_law_33 hc0 (by decide) (by decide) (by decide +kernel) (by decide) ?_
      exact mL_law_b216 E hX hbl hbA hbz K18 l1 l2 l3 h hM (by omega) (by omega) (by omega) (by omega) J (lv_sub hl [0, 1, 2, 3] rfl)
    have hM := e_in hc0 hM
    by_cases hc1 : ((xs (l3).toNatClampNeg) &&& (nI 63)) = nI 1
    · have hM := e_ip hc1 hM
      refine e_tin (y := nI 1) (off := 206) (tgt := 239) hx hb dL_law_33 hc1 (by decide) (by decide) (by decide +kernel) (by decide) ?_
      exact mL_law_b239 E hX hbl hbA hbz K18 l1 l2 l3 h hM (by omega) (by omega) (by omega) (by omega) J (lv_sub hl [0, 1, 2, 3] rfl)
    have hM := e_in hc1 hM
    by_cases hc2 : ((xs (l3).toNatClampNeg) &&& (nI 63)) = nI 2
    · have hM := e_ip hc2 hM
      refine e_tin (y := nI 2) (off := 249) (tgt := 282) hx hb dL_law_33 hc2 (by decide) (by decide) (by decide +kernel) (by decide) ?_
      exact mL_law_b282 E hX hbl hbA hbz K18 l1 l2 l3 h hM (by omega) (by omega) (by omega) (by omega) J (lv_sub hl [0, 1, 2, 3] rfl)
    have hM := e_in hc2 hM
    by_cases hc3 : ((xs (l3).toNatClampNeg) &&& (nI 63)) = nI 3
    · have hM := e_ip hc3 hM
      refine e_tin (y := nI 3) (off := 292) (tgt := 325) hx hb dL_law_33 hc3 (by decide) (by decide) (by decide +kernel) (by decide) ?_
      exact mL_law_b325 E hX hbl hbA hbz K18 l1 l2 l3 h hM (by omega) (by omega) (by omega) (by omega) J (lv_sub hl [0, 1, 2, 3] rfl)
    have hM := e_in hc3 hM
    by_cases hc4 : ((xs (l3).toNatClampNeg) &&& (nI 63)) = nI 4
    · have hM := e_ip hc4 hM
      refine e_tin (y := nI 4) (off := 325) (tgt := 358) hx hb dL_law_33 hc4 (by decide) (by decide) (by decide +kernel) (by decide) ?_
      exact mL_law_b358 E hX hbl hbA hbz K18 l1 l2 l3 h hM (by omega) (by omega) (by omega) (by omega) J (lv_sub hl [0, 1, 2, 3] rfl)
    have hM := e_in hc4 hM
    by_cases hc5 : ((xs (l3).toNatClampNeg) &&& (nI 63)) = nI 5
    · have hM := e_ip hc5 hM
      refine e_tin (y := nI 5) (off := 358) (tgt := 391) hx hb dL_law_33 hc5 (by decide) (by decide) (by decide +kernel) (by decide) ?_
      exact mL_law_b391 E hX hbl hbA hbz K18 l1 l2 l3 h hM (by omega) (by omega) (by omega) (by omega) J (lv_sub hl [0, 1, 2, 3] rfl)
    have hM := e_in hc5 hM
    by_cases hc6 : ((xs (l3).toNatClampNeg) &&& (nI 63)) = nI 6
    · have hM := e_ip hc6 hM
      refine e_tin (y := nI 6) (off := 391) (tgt := 424) hx hb dL_law_33 hc6 (by decide) (by decide) (by decide +kernel) (by decide) ?_
      exact mL_law_b424 E hX hbl hbA hbz K18 l1 l2 l3 h hM (by omega) (by omega) (by omega) (by omega) J (lv_sub hl [0, 1, 2, 3] rfl)
    have hM := e_in hc6 hM
    by_cases hc7 : ((xs (l3).toNatClampNeg) &&& (nI 63)) = nI 7
    · have hM := e_ip hc7 hM
      refine e_tin (y := nI 7) (off := 444) (tgt := 477) hx hb dL_law_33 hc7 (by decide) (by decide) (by decide +kernel) (by decide) ?_
      exact mL_law_b477 E hX hbl hbA hbz K18 l1 l2 l3 h hM (by omega) (by omega) (by omega) (by omega) J (lv_sub hl [0, 1, 2, 3] rfl)
    have hM := e_in hc7 hM
    by_cases hc8 : ((xs (l3).toNatClampNeg) &&& (nI 63)) = nI 8
    · have hM := e_ip hc8 hM
      refine e_tin (y := nI 8) (off := 467) (tgt := 500) hx hb dL_law_33 hc8 (by decide) (by decide) (by decide +kernel) (by decide) ?_
      exact mL_law_b500 E hX hbl hbA hbz K18 l1 l2 l3 h hM (by omega) (by omega) (by omega) (by omega) J (lv_sub hl [0, 1, 2, 3] rfl)
    have hM := e_in hc8 hM
    by_cases hc9 : ((xs (l3).toNatClampNeg) &&& (nI 63)) = nI 9
    · have hM := e_ip hc9 hM
      refine e_tin (y := nI 9) (off := 490) (tgt := 523) hx hb dL_law_33 hc9 (by decide) (by decide) (by decide +kernel) (by decide) ?_
      exact mL_law_b523 E hX hbl hbA hbz K18 l1 l2 l3 h hM (by omega) (by omega) (by omega) (by omega) J (lv_sub hl [0, 1, 2, 3] rfl)
    have hM := e_in hc9 hM
    by_cases hc10 : ((xs (l3).toNatClampNeg) &&& (nI 63)) = nI 10
    · have hM := e_ip hc10 hM
      refine e_tin (y := nI 10) (off := 534) (tgt := 567) hx hb dL_law_33 hc10 (by decide) (by decide) (by decide +kernel) (by decide) ?_
      exact mL_law_b567 E hX hbl hbA hbz K18 l1 l2 l3 h hM (by omega) (by omega) (by omega) (by omega) J (lv_sub hl [0, 1, 2, 3] rfl)
    have hM := e_in hc10 hM
    by_cases hc11 : ((xs (l3).toNatClampNeg) &&& (nI 63)) = nI 11
    · have hM := e_ip hc11 hM
      refine e_tin (y := nI 11) (off := 567) (tgt := 600) hx hb dL_law_33 hc11 (by decide) (by decide) (by decide +kernel) (by decide) ?_
      exact mL_law_b600 E hX hbl hbA hbz K18 l1 l2 l3 h hM (by omega) (by omega) (by omega) (by omega) J (lv_sub hl [0, 1, 2, 3] rfl)
    have hM := e_in hc11 hM
    by_cases hc12 : ((xs (l3).toNatClampNeg) &&& (nI 63)) = nI 12
    · have hM := e_ip hc12 hM
      refine e_tin (y := nI 12) (off := 611) (tgt := 644) hx hb dL_law_33 hc12 (by decide) (by decide) (by decide +kernel) (by decide) ?_
      exact mL_law_b644 E hX hbl hbA hbz K18 l1 l2 l3 h hM (by omega) (by omega) (by omega) (by omega) J (lv_sub hl [0, 1, 2, 3] rfl)
    have hM := e_in hc12 hM
    by_cases hc13 : ((xs (l3).toNatClampNeg) &&& (nI 63)) = nI 13
    · have hM := e_ip hc13 hM
      refine e_tin (y := nI 13) (off := 655) (tgt := 688) hx hb dL_law_33 hc13 (by decide) (by decide) (by decide +kernel) (by decide) ?_
      exact mL_law_b688 E hX hbl hbA hbz K18 l1 l2 l3 h hM (by omega) (by omega) (by omega) (by omega) J (lv_sub hl [0, 1, 2, 3] rfl)
    have hM := e_in hc13 hM
    by_cases hc14 : ((xs (l3).toNatClampNeg) &&& (nI 63)) = nI 14
    · have hM := e_ip hc14 hM
      refine e_tin (y := nI 14) (off := 688) (tgt := 721) hx hb dL_law_33 hc14 (by decide) (by decide) (by decide +kernel) (by decide) ?_
      exact mL_law_b721 E hX hbl hbA hbz K18 l1 l2 l3 h hM (by omega) (by omega) (by omega) (by omega) J (lv_sub hl [0, 1, 2, 3] rfl)
    have hM := e_in hc14 hM
    by_cases hc15 : ((xs (l3).toNatClampNeg) &&& (nI 63)) = nI 15
    · have hM := e_ip hc15 hM
      refine e_tin (y := nI 15) (off := 731) (tgt := 764) hx hb dL_law_33 hc15 (by decide) (by decide) (by decide +kernel) (by decide) ?_
      exact mL_law_b764 E hX hbl hbA hbz K18 l1 l2 l3 h hM (by omega) (by omega) (by omega) (by omega) J (lv_sub hl [0, 1, 2, 3] rfl)
    have hM := e_in hc15 hM
    by_cases hc16 : ((xs (l3).toNatClampNeg) &&& (nI 63)) = nI 16
    · have hM := e_ip hc16 hM
      refine e_tin (y := nI 16) (off := 784) (tgt := 817) hx hb dL_law_33 hc16 (by decide) (by decide) (by decide +kernel) (by decide) ?_
      exact mL_law_b817 E hX hbl hbA hbz K18 l1 l2 l3 h hM (by omega) (by omega) (by omega) (by omega) J (lv_sub hl [0, 1, 2, 3] rfl)
    have hM := e_in hc16 hM
    by_cases hc17 : ((xs (l3).toNatClampNeg) &&& (nI 63)) = nI 17
    · have hM := e_ip hc17 hM
      refine e_tin (y := nI 17) (off := 837) (tgt := 870) hx hb dL_law_33 hc17 (by decide) (by decide) (by decide +kernel) (by decide) ?_
      exact mL_law_b870 E hX hbl hbA hbz K18 l1 l2 l3 h hM (by omega) (by omega) (by omega) (by omega) J (lv_sub hl [0, 1, 2, 3] rfl)
    have hM := e_in hc17 hM
    by_cases hc18 : ((xs (l3).toNatClampNeg) &&& (nI 63)) = nI 18
    · have hM := e_ip hc18 hM
      refine e_tin (y := nI 18) (off := 880) (tgt := 913) hx hb dL_law_33 hc18 (by decide) (by decide) (by decide +kernel) (by decide) ?_
      exact mL_law_b913 E hX hbl hbA hbz K18 l1 l2 l3 h hM (by omega) (by omega) (by omega) (by omega) J (lv_sub hl [0, 1, 2, 3] rfl)
    have hM := e_in hc18 hM
    by_cases hc19 : ((xs (l3).toNatClampNeg) &&& (nI 63)) = nI 19
    · have hM := e_ip hc19 hM
      refine e_tin (y := nI 19) (off := 923) (tgt := 956) hx hb dL_law_33 hc19 (by decide) (by decide) (by decide +kernel) (by decide) ?_
      exact mL_law_b956 E hX hbl hbA hbz K18 l1 l2 l3 h hM (by omega) (by omega) (by omega) (by omega) J (lv_sub hl [0, 1, 2, 3] rfl)
    have hM := e_in hc19 hM
    by_cases hc20 : ((xs (l3).toNatClampNeg) &&& (nI 63)) = nI 20
    · have hM := e_ip hc20 hM
      refine e_tin (y := nI 20) (off := 966) (tgt := 999) hx hb dL_law_33 hc20 (by decide) (by decide) (by decide +kernel) (by decide) ?_
      exact mL_law_b999 E hX hbl hbA hbz K18 l1 l2 l3 h hM (by omega) (by omega) (by omega) (by omega) J (lv_sub hl [0, 1, 2, 3] rfl)
    have hM := e_in hc20 hM
    by_cases hc21 : ((xs (l3).toNatClampNeg) &&& (nI 63)) = nI 21
    · have hM := e_ip hc21 hM
      refine e_tin (y := nI 21) (off := 999) (tgt := 1032) hx hb dL_law_33 hc21 (by decide) (by decide) (by decide +kernel) (by decide) ?_
      exact mL_law_b1032 E hX hbl hbA hbz K18 l1 l2 l3 h hM (by omega) (by omega) (by omega) (by omega) J (lv_sub hl [0, 1, 2, 3] rfl)
    have hM := e_in hc21 hM
    by_cases hc22 : ((xs (l3).toNatClampNeg) &&& (nI 63)) = nI 22
    · have hM := e_ip hc22 hM
      refine e_tin (y := nI 22) (off := 1032) (tgt := 1065) hx hb dL_law_33 hc22 (by decide) (by decide) (by decide +kernel) (by decide) ?_
      exact mL_law_b1065 E hX hbl hbA hbz K18 l1 l2 l3 h hM (by omega) (by omega) (by omega) (by omega) J (lv_sub hl [0, 1, 2, 3] rfl)
    have hM := e_in hc22 hM
    by_cases hc23 : ((xs (l3).toNatClampNeg) &&& (nI 63)) = nI 23
    · have hM := e_ip hc23 hM
      refine e_tin (y := nI 23) (off := 1055) (tgt := 1088) hx hb dL_law_33 hc23 (by decide) (by decide) (by decide +kernel) (by decide) ?_
      exact mL_law_b1088 E hX hbl hbA hbz K18 l1 l2 l3 h hM (by omega) (by omega) (by omega) (by omega) J (lv_sub hl [0, 1, 2, 3] rfl)
    have hM := e_in hc23 hM
    by_cases hc24 : ((xs (l3).toNatClampNeg) &&& (nI 63)) = nI 24
    · have hM := e_ip hc24 hM
      refine e_tin (y := nI 24) (off := 1088) (tgt := 1121) hx hb dL_law_33 hc24 (by decide) (by decide) (by decide +kernel) (by decide) ?_
      exact mL_law_b1121 E hX hbl hbA hbz K18 l1 l2 l3 h hM (by omega) (by omega) (by omega) (by omega) J (lv_sub hl [0, 1, 2, 3] rfl)
    have hM := e_in hc24 hM
    by_cases hc25 : ((xs (l3).toNatClampNeg) &&& (nI 63)) = nI 25
    · have hM := e_ip hc25 hM
      refine e_tin (y := nI 25) (off := 1131) (tgt := 1164) hx hb dL_law_33 hc25 (by decide) (by decide) (by decide +kernel) (by decide) ?_
      exact mL_law_b1164 E hX hbl hbA hbz K18 l1 l2 l3 h hM (by omega) (by omega) (by omega) (by omega) J (lv_sub hl [0, 1, 2, 3] rfl)
    have hM := e_in hc25 hM
    by_cases hc26 : ((xs (l3).toNatClampNeg) &&& (nI 63)) = nI 26
    · have hM := e_ip hc26 hM
      refine e_tin (y := nI 26) (off := 1154) (tgt := 1187) hx hb dL_law_33 hc26 (by decide) (by decide) (by decide +kernel) (by decide) ?_
      exact mL_law_b1187 E hX hbl hbA hbz K18 l1 l2 l3 h hM (by omega) (by omega) (by omega) (by omega) J (lv_sub hl [0, 1, 2, 3] rfl)
    have hM := e_in hc26 hM
    by_cases hc27 : ((xs (l3).toNatClampNeg) &&& (nI 63)) = nI 27
    · have hM := e_ip hc27 hM
      refine e_tin (y := nI 27) (off := 1167) (tgt := 1200) hx hb dL_law_33 hc27 (by decide) (by decide) (by decide +kernel) (by decide) ?_
      exact mL_law_b1200 E hX hbl hbA hbz K18 l1 l2 l3 h hM (by omega) (by omega) (by omega) (by omega) J (lv_sub hl [0, 1, 2, 3] rfl)
    have hM := e_in hc27 hM
    by_cases hc28 : ((xs (l3).toNatClampNeg) &&& (nI 63)) = nI 28
    · have hM := e_ip hc28 hM
      refine e_tin (y := nI 28) (off := 1200) (tgt := 1233) hx hb dL_law_33 hc28 (by decide) (by decide) (by decide +kernel) (by decide) ?_
      exact mL_law_b1233 E hX hbl hbA hbz K18 l1 l2 l3 h hM (by omega) (by omega) (by omega) (by omega) J (lv_sub hl [0, 1, 2, 3] rfl)
    have hM := e_in hc28 hM
    by_cases hc29 : ((xs (l3).toNatClampNeg) &&& (nI 63)) = nI 29
    · have hM := e_ip hc29 hM
      refine e_tin (y := nI 29) (off := 1223) (tgt := 1256) hx hb dL_law_33 hc29 (by decide) (by decide) (by decide +kernel) (by decide) ?_
      exact mL_law_b1256 E hX hbl hbA hbz K18 l1 l2 l3 h hM (by omega) (by omega) (by omega) (by omega) J (lv_sub hl [0, 1, 2, 3] rfl)
    have hM := e_in hc29 hM
    by_cases hc30 : ((xs (l3).toNatClampNeg) &&& (nI 63)) = nI 30
    · have hM := e_ip hc30 hM
      refine e_tin (y := nI 30) (off := 1266) (tgt := 1299) hx hb dL_law_33 hc30 (by decide) (by decide) (by decide +kernel) (by decide) ?_
      exact mL_law_b1299 E hX hbl hbA hbz K18 l1 l2 l3 h hM (by omega) (by omega) (by omega) (by omega) J (lv_sub hl [0, 1, 2, 3] rfl)
    have hM := e_in hc30 hM
    by_cases hc31 : ((xs (l3).toNatClampNeg) &&& (nI 63)) = nI 31
    · have hM := e_ip hc31 hM
      refine e_tin (y := nI 31) (off := 1309) (tgt := 1342) hx hb dL_law_33 hc31 (by decide) (by decide) (by decide +kernel) (by decide) ?_
      exact mL_law_b1342 E hX hbl hbA hbz K18 l1 l2 l3 h hM (by omega) (by omega) (by omega) (by omega) J (lv_sub hl [0, 1, 2, 3] rfl)
    have hM := e_in hc31 hM
    by_cases hc32 : ((xs (l3).toNatClampNeg) &&& (nI 63)) = nI 32
    · have hM := e_ip hc32 hM
      refine e_tin (y := nI 32) (off := 1342) (tgt := 1375) hx hb dL_law_33 hc32 (by decide) (by decide) (by decide +kernel) (by decide) ?_
      exact mL_law_b1375 E hX hbl hbA hbz K18 l1 l2 l3 h hM (by omega) (by omega) (by omega) (by omega) J (lv_sub hl [0, 1, 2, 3] rfl)
    have hM := e_in hc32 hM
    by_cases hc33 : ((xs (l3).toNatClampNeg) &&& (nI 63)) = nI 33
    · have hM := e_ip hc33 hM
      refine e_tin (y := nI 33) (off := 1405) (tgt := 1438) hx hb dL_law_33 hc33 (by decide) (by decide) (by decide +kernel) (by decide) ?_
      exact mL_law_b1438 E hX hbl hbA hbz K18 l1 l2 l3 h hM (by omega) (by omega) (by omega) (by omega) J (lv_sub hl [0, 1, 2, 3] rfl)
    have hM := e_in hc33 hM
    by_cases hc34 : ((xs (l3).toNatClampNeg) &&& (nI 63)) = nI 34
    · have hM := e_ip hc34 hM
      refine e_tin (y := nI 34) (off := 1448) (tgt := 1481) hx hb dL_law_33 hc34 (by decide) (by decide) (by decide +kernel) (by decide) ?_
      exact mL_law_b1481 E hX hbl hbA hbz K18 l1 l2 l3 h hM (by omega) (by omega) (by omega) (by omega) J (lv_sub hl [0, 1, 2, 3] rfl)
    have hM := e_in hc34 hM
    by_cases hc35 : ((xs (l3).toNatClampNeg) &&& (nI 63)) = nI 35
    · have hM := e_ip hc35 hM
      refine e_tin (y := nI 35) (off := 1481) (tgt := 1514) hx hb dL_law_33 hc35 (by decide) (by decide) (by decide +kernel) (by decide) ?_
      exact mL_law_b1514 E hX hbl hbA hbz K18 l1 l2 l3 h hM (by omega) (by omega) (by omega) (by omega) J (lv_sub hl [0, 1, 2, 3] rfl)
    have hM := e_in hc35 hM
    by_cases hc36 : ((xs (l3).toNatClampNeg) &&& (nI 63)) = nI 36
    · have hM := e_ip hc36 hM
      refine e_tin (y := nI 36) (off := 1514) (tgt := 1547) hx hb dL_law_33 hc36 (by decide) (by decide) (by decide +kernel) (by decide) ?_
      exact mL_law_b1547 E hX hbl hbA hbz K18 l1 l2 l3 h hM (by omega) (by omega) (by omega) (by omega) J (lv_sub hl [0, 1, 2, 3] rfl)
    have hM := e_in hc36 hM
    by_cases hc37 : ((xs (l3).toNatClampNeg) &&& (nI 63)) = nI 37
    · have hM := e_ip hc37 hM
      refine e_tin (y := nI 37) (off := 1547) (tgt := 1580) hx hb dL_law_33 hc37 (by decide) (by decide) (by decide +kernel) (by decide) ?_
      exact mL_law_b1580 E hX hbl hbA hbz K18 l1 l2 l3 h hM (by omega) (by omega) (by omega) (by omega) J (lv_sub hl [0, 1, 2, 3] rfl)
    have hM := e_in hc37 hM
    by_cases hc38 : ((xs (l3).toNatClampNeg) &&& (nI 63)) = nI 38
    · have hM := e_ip hc38 hM
      refine e_tin (y := nI 38) (off := 1570) (tgt := 1603) hx hb dL_law_33 hc38 (by decide) (by decide) (by decide +kernel) (by decide) ?_
      exact mL_law_b1603 E hX hbl hbA hbz K18 l1 l2 l3 h hM (by omega) (by omega) (by omega) (by omega) J (lv_sub hl [0, 1, 2, 3] rfl)
    have hM := e_in hc38 hM
    by_cases hc39 : ((xs (l3).toNatClampNeg) &&& (nI 63)) = nI 39
    · have hM := e_ip hc39 hM
      refine e_tin (y := nI 39) (off := 1603) (tgt := 1636) hx hb dL_law_33 hc39 (by decide) (by decide) (by decide +kernel) (by decide) ?_
      exact mL_law_b1636 E hX hbl hbA hbz K18 l1 l2 l3 h hM (by omega) (by omega) (by omega) (by omega) J (lv_sub hl [0, 1, 2, 3] rfl)
    have hM := e_in hc39 hM
    by_cases hc40 : ((xs (l3).toNatClampNeg) &&& (nI 63)) = nI 40
    · have hM := e_ip hc40 hM
      refine e_tin (y := nI 40) (off := 1616) (tgt := 1649) hx hb dL_law_33 hc40 (by decide) (by decide) (by decide +kernel) (by decide) ?_
      exact mL_law_b1649 E hX hbl hbA hbz K18 l1 l2 l3 h hM (by omega) (by omega) (by omega) (by omega) J (lv_sub hl [0, 1, 2, 3] rfl)
    have hM := e_in hc40 hM
    by_cases hc41 : ((xs (l3).toNatClampNeg) &&& (nI 63)) = nI 41
    · have hM := e_ip hc41 hM
      refine e_tin (y := nI 41) (off := 1629) (tgt := 1662) hx hb dL_law_33 hc41 (by decide) (by decide) (by decide +kernel) (by decide) ?_
      exact mL_law_b1662 E hX hbl hbA hbz K18 l1 l2 l3 h hM (by omega) (by omega) (by omega) (by omega) J (lv_sub hl [0, 1, 2, 3] rfl)
    have hM := e_in hc41 hM
    refine lv_tableOut (tgt := 1685) hx hb dL_law_33 (Classical.byContradiction fun hn => by
        have h9 : ((xs (l3).toNatClampNeg) &&& (nI 63)).toInt = 0 ∨ ((xs (l3).toNatClampNeg) &&& (nI 63)).toInt = 1 ∨ ((xs (l3).toNatClampNeg) &&& (nI 63)).toInt = 2 ∨ ((xs (l3).toNatClampNeg) &&& (nI 63)).toInt = 3 ∨ ((xs (l3).toNatClampNeg) &&& (nI 63)).toInt = 4 ∨ ((xs (l3).toNatClampNeg) &&& (nI 63)).toInt = 5 ∨ ((xs (l3).toNatClampNeg) &&& (nI 63)).toInt = 6 ∨ ((xs (l3).toNatClampNeg) &&& (nI 63)).toInt = 7 ∨ ((xs (l3).toNatClampNeg) &&& (nI 63)).toInt = 8 ∨ ((xs (l3).toNatClampNeg) &&& (nI 63)).toInt = 9 ∨ ((xs (l3).toNatClampNeg) &&& (nI 63)).toInt = 10 ∨ ((xs (l3).toNatClampNeg) &&& (nI 63)).toInt = 11 ∨ ((xs (l3).toNatClampNeg) &&& (nI 63)).toInt = 12 ∨ ((xs (l3).toNatClampNeg) &&& (nI 63)).toInt = 13 ∨ ((xs (l3).toNatClampNeg) &&& (nI 63)).toInt = 14 ∨ ((xs (l3).toNatClampNeg) &&& (nI 63)).toInt = 15 ∨ ((xs (l3).toNatClampNeg) &&& (nI 63)).toInt = 16 ∨ ((xs (l3).toNatClampNeg) &&& (nI 63)).toInt = 17 ∨ ((xs (l3).toNatClampNeg) &&& (nI 63)).toInt = 18 ∨ ((xs (l3).toNatClampNeg) &&& (nI 63)).toInt = 19 ∨ ((xs (l3).toNatClampNeg) &&& (nI 63)).toInt = 20 ∨ ((xs (l3).toNatClampNeg) &&& (nI 63)).toInt = 21 ∨ ((xs (l3).toNatClampNeg) &&& (nI 63)).toInt = 22 ∨ ((xs (l3).toNatClampNeg) &&& (nI 63)).toInt = 23 ∨ ((xs (l3).toNatClampNeg) &&& (nI 63)).toInt = 24 ∨ ((xs (l3).toNatClampNeg) &&& (nI 63)).toInt = 25 ∨ ((xs (l3).toNatClampNeg) &&& (nI 63)).toInt = 26 ∨ ((xs (l3).toNatClampNeg) &&& (nI 63)).toInt = 27 ∨ ((xs (l3).toNatClampNeg) &&& (nI 63)).toInt = 28 ∨ ((xs (l3).toNatClampNeg) &&& (nI 63)).toInt = 29 ∨ ((xs (l3).toNatClampNeg) &&& (nI 63)).toInt = 30 ∨ ((xs (l3).toNatClampNeg) &&& (nI 63)).toInt = 31 ∨ ((xs (l3).toNatClampNeg) &&& (nI 63)).toInt = 32 ∨ ((xs (l3).toNatClampNeg) &&& (nI 63)).toInt = 33 ∨ ((xs (l3).toNatClampNeg) &&& (nI 63)).toInt = 34 ∨ ((xs (l3).toNatClampNeg) &&& (nI 63)).toInt = 35 ∨ ((xs (l3).toNatClampNeg) &&& (nI 63)).toInt = 36 ∨ ((xs (l3).toNatClampNeg) &&& (nI 63)).toInt = 37 ∨ ((xs (l3).toNatClampNeg) &&& (nI 63)).toInt = 38 ∨ ((xs (l3).toNatClampNeg) &&& (nI 63)).toInt = 39 ∨ ((xs (l3).toNatClampNeg) &&& (nI 63)).toInt = 40 ∨ ((xs (l3).toNatClampNeg) &&& (nI 63)).toInt = 41 := by omega
        rcases h9 with h9 | h9 | h9 | h9 | h9 | h9 | h9 | h9 | h9 | h9 | h9 | h9 | h9 | h9 | h9 | h9 | h9 | h9 | h9 | h9 | h9 | h9 | h9 | h9 | h9 | h9 | h9 | h9 | h9 | h9 | h9 | h9 | h9 | h9 | h9 | h9 | h9 | h9 | h9 | h9 | h9 | h9
        · exact hc0 (e_i32 (h9.trans (by decide)))
        · exact hc1 (e_i32 (h9.trans (by decide)))
        · exact hc2 (e_i32 (h9.trans (by decide)))
        · exact hc3 (e_i32 (h9.trans (by decide)))
        · exact hc4 (e_i32 (h9.trans (by decide)))
        · exact hc5 (e_i32 (h9.trans (by decide)))
        · exact hc6 (e_i32 (h9.trans (by decide)))
        · exact hc7 (e_i32 (h9.trans (by decide)))
        · exact hc8 (e_i32 (h9.trans (by decide)))
        · exact hc9 (e_i32 (h9.trans (by decide)))
        · exact hc10 (e_i32 (h9.trans (by decide)))
        · exact hc11 (e_i32 (h9.trans (by decide)))
        · exact hc12 (e_i32 (h9.trans (by decide)))
        · exact hc13 (e_i32 (h9.trans (by decide)))
        · exact hc14 (e_i32 (h9.trans (by decide)))
        · exact hc15 (e_i32 (h9.trans (by decide)))
        · exact hc16 (e_i32 (h9.trans (by decide)))
        · exact hc17 (e_i32 (h9.trans (by decide)))
        · exact hc18 (e_i32 (h9.trans (by decide)))
        · exact hc19 (e_i32 (h9.trans (by decide)))
        · exact hc20 (e_i32 (h9.trans (by decide)))
        · exact hc21 (e_i32 (h9.trans (by decide)))
        · exact hc22 (e_i32 (h9.trans (by decide)))
        · exact hc23 (e_i32 (h9.trans (by decide)))
        · exact hc24 (e_i32 (h9.trans (by decide)))
        · exact hc25 (e_i32 (h9.trans (by decide)))
        · exact hc26 (e_i32 (h9.trans (by decide)))
        · exact hc27 (e_i32 (h9.trans (by decide)))
        · exact hc28 (e_i32 (h9.trans (by decide)))
        · exact hc29 (e_i32 (h9.trans (by decide)))
        · exact hc30 (e_i32 (h9.trans (by decide)))
        · exact hc31 (e_i32 (h9.trans (by decide)))
        · exact hc32 (e_i32 (h9.trans (by decide)))
        · exact hc33 (e_i32 (h9.trans (by decide)))
        · exact hc34 (e_i32 (h9.trans (by decide)))
        · exact hc35 (e_i32 (h9.trans (by decide)))
        · exact hc36 (e_i32 (h9.trans (by decide)))
        · exact hc37 (e_i32 (h9.trans (by decide)))
        · exact hc38 (e_i32 (h9.trans (by decide)))
        · exact hc39 (e_i32 (h9.trans (by decide)))
        · exact hc40 (e_i32 (h9.trans (by decide)))
        · exact hc41 (e_i32 (h9.trans (by decide)))) (by decide) ?_
    exact mL_law_b1685 E hX hbl hbA hbz K18 l1 l2 l3 h hM (by omega) (by omega) J (lv_sub hl [0, 1, 2, 3] rfl)
set_option maxRecDepth 100000 in
set_option maxHeartbeats 4000000 in
theorem mL_law_L18 {p : Program} {l : Launch} {e : Env} {s : State} {m : MethodId} {below : List Frame} {meth : Method} {c : Code} {G : e_G} {L : Nat} {xs : Nat → Int32} {b : Nat} (E : e_M G p s #[Value.ref b] m meth c cL_law 4 ret RL) (hX : va_X b L xs s s.heap) (hbl : b < s.heap.size) (hbA : ¬ e_A G b) (hbz : G.2.2.1 = s.heap.size) (n : Nat) (l1 : Nat) (l2 : Nat) (l3 : Int32) (h : e_H) (hM : fL_law_L18 L xs n l1 l2 l3 h = some true) {cells slots : Nat} (hb1 : cells + (n * 2 + 2) ≤ 600000) (hb2 : slots + (n * 99 + 99) ≤ 7302250) {H : Heap} {locs : List Loc} (J : e_J G s h H locs) {ls : Array Slot} (hl : lv_has ls 4 [(0, .ref b), (1, .ref (e_ad G l1)), (2, .ref (e_ad G l2)), (3, .int l3)]) : W p l e room_1 s m #[Value.ref b] below meth c H locs cells slots (lw_Z below #[Value.ref b] s) (F0 m 18 ls []) := by
  induction n generalizing l1 l2 l3 h H locs ls cells slots with
  | zero => exact e_no hM
  | succ n ih => exact mL_law_b18 (k18 := (fL_law_L18 L xs n)) E hX hbl hbA hbz (n9 := n)   (fun l1 l2 l3 h hM cells slots hc1 hc2 H locs J ls hl => ih l1 l2 l3 h hM hc1 hc2 J hl) l1 l2 l3 h hM (by omega) (by omega) (by omega) (by omega) J hl
set_option maxRecDepth 100000 in
set_option maxHeartbeats 4000000 in
theorem mL_law {p : Program} {l : Launch} {e : Env} {s : State} {m : MethodId} {below : List Frame} {meth : Method} {c : Code} {G : e_G} {L : Nat} {xs : Nat → Int32} {b : Nat} (E : e_M G p s #[Value.ref b] m meth c cL_law 4 ret RL) (hX : va_X b L xs s s.heap) (hbl : b < s.heap.size) (hbA : ¬ e_A G b) (hbz : G.2.2.1 = s.heap.size) (hM : fL_law L xs [] = some true) (J : e_J G s [] s.heap []) {ls : Array Slot} (hl : lv_has ls 4 [(0, .ref b)]) : W p l e room_1 s m #[Value.ref b] below meth c s.heap [] 0 0 (lw_Z below #[Value.ref b] s) (F0 m 0 ls []) := by
  obtain ⟨hx, hb, hr, hml, hown, hts, hlocks, hES, hbs⟩ := id E
  unfold fL_law at hM
  obtain ⟨p1, hv, hM⟩ := e_bs hM
  refine e_new (C := RX8) (T := TX8) (N := 10) E J hv rfl inX8 tyX8 tyX8_ok q_1_19 q_1_20 q_1_1 rfl (by decide +kernel) (e_rcc (by omega)) (e_rcs (by omega)) dL_law_0 (fun H J => ?_)
  refine lv_dup hx hb dL_law_3 rfl ?_
  obtain ⟨h2, hv, hM⟩ := e_bs hM
  refine e_callI (As := []) (rest := [.ref (e_ad G p1.1)]) (n := 0) E J (mX8_init (l := l) (G := G) p1.1 p1.2 _ hv) q_1_21 q_1_22 q_1_1 q_1_23 rfl (by decide +kernel) rfl ⟨Nat.le_of_ble_eq_true rfl, Nat.le_of_ble_eq_true rfl⟩ (st0 := [.ref (e_ad G p1.1), .ref (e_ad G p1.1)]) rfl hl.1 (Nat.le_of_ble_eq_true rfl) dL_law_4 ⟨e_rcc (by omega), e_rcs (by omega)⟩ (fun H locs J => ?_)
  refine lv_astore_n (lv' := [(1, .ref (e_ad G p1.1)), (0, .ref b)]) hx hb dL_law_7 rfl hl (by decide) rfl (fun ls hl => ?_)
  obtain ⟨p3, hv, hM⟩ := e_bs hM
  refine e_new (C := RX9) (T := TX9) (N := 40) E J hv rfl inX9 tyX9 tyX9_ok q_5_4 q_5_5 q_1_9 rfl (by decide +kernel) (e_rcc (by omega)) (e_rcs (by omega)) dL_law_8 (fun H J => ?_)
  refine lv_dup hx hb dL_law_11 rfl ?_
  obtain ⟨h4, hv, hM⟩ := e_bs hM
  refine e_callI (As := []) (rest := [.ref (e_ad G p3.1)]) (n := 0) E J (mX9_init (l := l) (G := G) p3.1 p3.2 _ hv) q_5_6 q_5_7 q_1_9 q_5_8 rfl (by decide +kernel) rfl ⟨Nat.le_of_ble_eq_true rfl, Nat.le_of_ble_eq_true rfl⟩ (st0 := [.ref (e_ad G p3.1), .ref (e_ad G p3.1)]) rfl hl.1 (Nat.le_of_ble_eq_true rfl) dL_law_12 ⟨e_rcc (by omega), e_rcs (by omega)⟩ (fun H locs J => ?_)
  refine lv_astore_n (lv' := [(2, .ref (e_ad G p3.1)), (1, .ref (e_ad G p1.1)), (0, .ref b)]) hx hb dL_law_15 rfl hl (by decide) rfl (fun ls hl => ?_)
  refine lv_iconst (v := nI 0) hx hb dL_law_16 (by decide) ?_
  refine lv_istore_n (lv' := [(3, .int (nI 0)), (2, .ref (e_ad G p3.1)), (1, .ref (e_ad G p1.1)), (0, .ref b)]) hx hb dL_law_17 rfl hl (by decide) rfl (fun ls hl => ?_)
  exact mL_law_L18 E hX hbl hbA hbz 600 p1.1 p3.1 (nI 0) h4 hM (by omega) (by omega) J (lv_sub hl [3, 2, 1, 0] rfl)
