section AL
variable {p : Program} {l : Launch} {e : Env} {R : Room} {s : State} {m : MethodId} {args : Array Value} {below : List Frame} {meth : Method} {c : Code} {H : Heap} {locs : List Loc} {cells slots : Nat} {Q : State → Prop}
variable {G : e_G} {cc : ByteArray} {nL : Nat} {ret : Option FieldType} {own : String} {pc : Nat} {ls : Array Slot} {rest : List Value} {h : e_H}
theorem e_rcc {f n k w x : Nat} (hx : x ≤ k) : x ≤ (e_rc f n k w).cells := hx
theorem e_rcs {f n k w x : Nat} (hx : x ≤ w) : x ≤ (e_rc f n k w).slots := hx
theorem e_new (E : e_M G p s args m meth c cc nL ret own) (J : e_J G s h H locs) {ci : Nat} {fs : List Value} {z : Nat × e_H} (hv : some (o_newO h ci fs) = some z) {C : String} {T : u_T} {N index : Nat} (hc : vwCl[ci]? = some (C, T, N)) (hin : ∀ w ∈ u_ws C T N, w ∈ e_wl) (ty : Nat → FieldType) (hty : ∀ k, k < N → parseFieldDescriptor (T k).2.2.1 = some (ty k)) (hcl : Cond.classLink own index C ∈ e_wl) (hinst : Cond.instantiable C N ∈ e_wl) (hini : Cond.initialized C ∈ e_wl) (hmap : fs.map (e_v G) = fs) (hfs : ∀ j, j < N → defaultValue (ty j) = vp_V fs j) (hcells : cells + 1 ≤ R.cells) (hslots : slots + N ≤ R.slots) (hdg : decode cc pc = .ok (.new index, 3))
    (kk : ∀ (H1 : Heap), e_J G s z.2 H1 locs → W p l e R s m args below meth c H1 locs (cells + 1) (slots + N) Q (F0 m (pc + 3) ls (.ref (e_ad G z.1) :: rest))) : W p l e R s m args below meth c H locs cells slots Q (F0 m pc ls rest) := by
  obtain rfl := e_so hv
  obtain ⟨hx, hb, -, -, hown, hts, -, hS, -⟩ := E
  have hKn := hS.1.1 ci _ hc
  refine W.newcK hx hb hown (hts _ hcl) (hts _ hinst) (hts _ hini) rfl hdg hcells hslots hKn.2.1 rfl fun H1 kC hkC e1 z1 o1 => ?_
  have ha : H.size = e_ad G h.length := J.ad
  have hat : va_at G.1 vwCl (H.size, e_e G (.inr (ci, fs))) H1 := by
    refine ⟨_, hc, ?_⟩
    show t_OB _ _ _ _ _ (vp_V (fs.map (e_v G)))
    rw [hmap]
    exact (u_born ty hts hin hKn hkC e1 hty).to hfs
  have k := kk H1 (J.push z1 o1 hat)
  rw [show e_ad G (o_newO h ci fs).1 = H.size from ha.symm] at k
  exact k
theorem e_newA (E : e_M G p s args m meth c cc nL ret own) (J : e_J G s h H locs) {t top : Nat} {n : Int32} {z : Nat × e_H} (hv : o_newA h t n top = some z) {atype : ArrayType} {ty : FieldType} (hty : newarray.typeOf atype = ty) (ht : (e_tys G)[t]? = some (G.2.1 t, ty)) (hz : ∀ N, vp_cell (G.2.1 t) (match e_e G (o_zero t N) with | .inl a => a.2 | _ => (0, .inl fun _ => 0)) = arrV (G.2.1 t) N (fun _ => defaultValue ty)) (hzz : ∀ N, ∃ a, e_e G (o_zero t N) = .inl (G.2.1 t, a)) (hra : va_RA s (G.2.1 t) ty → s.vm.findClass ("[" ++ ty.toString) = some (G.2.1 t)) (harr : Cond.arrayClass ty ∈ e_wl) (htop : top * componentBytes ty ≤ 536870912) (hcells : cells + 1 ≤ R.cells) (hslots : slots + top ≤ R.slots) (hdg : decode cc pc = .ok (.newarray atype, 2))
    (kk : ∀ (H1 : Heap), e_J G s z.2 H1 locs → W p l e R s m args below meth c H1 locs (cells + 1) (slots + top) Q (F0 m (pc + 2) ls (.ref (e_ad G z.1) :: rest))) : W p l e R s m args below meth c H locs cells slots Q (F0 m pc ls (.int n :: rest)) := by
  subst hty
  unfold o_newA at hv
  obtain ⟨hn, hv⟩ := e_if0 hv
  obtain rfl := e_so hv
  have h0 : ¬ n < 0 := fun z => hn (Or.inl z)
  have h1 : n.toNatClampNeg ≤ top := Nat.not_lt.mp fun z => hn (Or.inr z)
  obtain ⟨hx, hb, -, -, hown, hts, -, hS, -⟩ := E
  refine va_newaK hx hb (hts _ harr) rfl hdg rfl h0 rfl (Nat.le_trans (Nat.mul_le_mul_right _ h1) htop) hcells (Nat.le_trans (Nat.add_le_add_left h1 _) hslots) rfl fun H1 cA e1 z1 o1 hAr hNm => ?_
  have hA : cA = G.2.1 t := Option.some.inj (hNm.symm.trans (hra (hS.1.2 t _ ht).2))
  subst hA
  have ha : H.size = e_ad G h.length := J.ad
  have hat : va_at G.1 vwCl (H.size, e_e G (o_zero t n.toNatClampNeg)) H1 := by
    obtain ⟨a, ea⟩ := hzz n.toNatClampNeg
    have h9 := hz n.toNatClampNeg
    rw [ea] at h9 ⊢
    show H1[H.size]? = some (vp_cell _ a)
    rw [e1]
    exact congrArg some h9.symm
  have k := kk H1 (J.push z1 o1 hat)
  rw [show e_ad G (h.length, h ++ [o_zero t n.toNatClampNeg]).1 = H.size from ha.symm] at k
  exact W.widen (Nat.le_refl _) (Nat.add_le_add_left h1 _) k
theorem e_newQ (E : e_M G p s args m meth c cc nL ret own) (J : e_J G s h H locs) {t top : Nat} {n : Int32} {z : Nat × e_H} (hv : o_newA h t n top = some z) {C : String} {index : Nat} (ht : (e_tys G)[t]? = some (G.2.1 t, .object C)) (h4 : 4 ≤ t) (hC : C ∈ e_al) (hcl : Cond.classLink own index C ∈ e_wl) (htop : top * 4 ≤ 536870912) (hcells : cells + 1 ≤ R.cells) (hslots : slots + top ≤ R.slots) (hdg : decode cc pc = .ok (.anewarray index, 3))
    (kk : ∀ (H1 : Heap), e_J G s z.2 H1 locs → W p l e R s m args below meth c H1 locs (cells + 1) (slots + top) Q (F0 m (pc + 3) ls (.ref (e_ad G z.1) :: rest))) : W p l e R s m args below meth c H locs cells slots Q (F0 m pc ls (.int n :: rest)) := by
  unfold o_newA at hv
  obtain ⟨hn, hv⟩ := e_if0 hv
  obtain rfl := e_so hv
  have h0 : ¬ n < 0 := fun z => hn (Or.inl z)
  have h1 : n.toNatClampNeg ≤ top := Nat.not_lt.mp fun z => hn (Or.inr z)
  obtain ⟨hx, hb, -, -, hown, hts, -, hS, -⟩ := E
  obtain ⟨kA, comp, r1, r2, r3, r4⟩ := (hS.1.2 t _ ht).2
  refine W.anew hx hb hown (hts _ hcl) (va_AO.use (hS.2.2.1 C hC)) rfl hdg rfl h0 (Nat.le_trans (Nat.mul_le_mul_right _ h1) htop) hcells (Nat.le_trans (Nat.add_le_add_left h1 _) hslots) fun cA kA' comp' f1 f2 f3 f4 => ?_
  have hA : cA = G.2.1 t := Option.some.inj (f1.symm.trans r4)
  subst hA
  generalize hH1 : H.push ({ cls := G.2.1 t, slots := Array.replicate n.toNatClampNeg .null, vm := .none } : Cell) = H1
  have z1 : H1.size = H.size + 1 := by rw [← hH1, Array.size_push]
  have e1 : H1[H.size]? = some (arrV (G.2.1 t) n.toNatClampNeg (fun _ => .null)) := by rw [← hH1, Array.getElem?_push_size, ← arrV_new]
  have o1 : ∀ q : Nat, q < H.size → H1[q]? = H[q]? := fun q hq => by rw [← hH1, Array.getElem?_push, if_neg (Nat.ne_of_lt hq)]
  have ha : H.size = e_ad G h.length := J.ad
  have hat : va_at G.1 vwCl (H.size, e_e G (o_zero t n.toNatClampNeg)) H1 := by
    unfold o_zero
    rw [if_neg (by omega), if_neg (by omega)]
    show H1[H.size]? = some (vp_cell _ _)
    rw [e1]
    rfl
  have k := kk H1 (J.push z1 o1 hat)
  rw [show e_ad G (h.length, h ++ [o_zero t n.toNatClampNeg]).1 = H.size from ha.symm] at k
  exact W.widen (Nat.le_refl _) (Nat.add_le_add_left h1 _) k
theorem e_oinit (E : e_M G p s args m meth c cc nL ret own) {idx a : Nat} (w1 : Cond.methodLink own idx objectInit ∈ e_wl) (w2 : Cond.instanceMethod objectInit ∈ e_wl) (w3 : Cond.code objectInit ⟨#[0xb1]⟩ 1 none ∈ e_wl) (hl : ls.size = nL) (hframes : 1 ≤ R.frames) (hlocals : (rest.map fun v => v.category).sum + 12 ≤ R.locals) (hdg : decode cc pc = .ok (.invokespecial idx, 3))
    (kk : W p l e R s m args below meth c H locs cells slots Q (F0 m (pc + 3) ls rest)) : W p l e R s m args below meth c H locs cells slots Q (F0 m pc ls (.ref a :: rest)) := by
  obtain ⟨hx, hb, -, hml, hown, hts, -, hS, -⟩ := E
  exact W.objInit hx hb hown (hts _ w1) (hts _ w2) (hts _ w3) rfl (by rw [hml]; exact hl) rfl hdg hframes (by show 2 * 0 + _ + _ ≤ _; omega) kk
theorem e_callI (E : e_M G p s args m meth c cc nL ret own) (J : e_J G s h H locs) {b : Nat} {y : MethodName} {bytes : ByteArray} {maxL index n f nl mc ms : Nat} {h1 : e_H} {As st0 : List Value}
    (hM : Met l y (e_W y bytes maxL none) (e_rc f nl mc ms) (e_Pc G h (.ref b :: As)) (e_Q G h1 none) mc ms (e_A G))
    (w1 : Cond.methodLink own index y ∈ e_wl) (w2 : Cond.instanceMethod y ∈ e_wl) (w4 : Cond.initialized y.cls ∈ e_wl) (w5 : Cond.code y bytes maxL none ∈ e_wl) (hy : y.name = "<init>")
    (hd : y.cls ≠ "java/lang/invoke/MethodHandle" ∧ y.cls ≠ "java/lang/invoke/VarHandle" ∧ (parseMethodDescriptor y.desc).map (fun d => d.parameters.length) = some n) (hn : As.length = n) (hR : f + 1 ≤ R.frames ∧ 8 + (maxL + 11) + nl ≤ R.locals)
    (hst : st0 = As.reverse ++ .ref b :: rest) (hl : ls.size = nL) (hW : (rest.map fun v => v.category).sum ≤ 8) (hdg : decode cc pc = .ok (.invokespecial index, 3)) (hcs : cells + mc ≤ R.cells ∧ slots + ms ≤ R.slots)
    (kk : ∀ (H1 : Heap) (locs1 : List Loc), e_J G s h1 H1 locs1 → W p l e R s m args below meth c H1 locs1 (cells + mc) (slots + ms) Q (F0 m (pc + 3) ls rest)) : W p l e R s m args below meth c H locs cells slots Q (F0 m pc ls st0) := by
  have E0 := E
  obtain ⟨hx, hb, -, hml, hown, hts, -, hS, -⟩ := E0
  have hG : GoodIn e_wl (e_W y bytes maxL none) := e_goodc w5 e_goods
  exact e_go (va_runI (As := As) (rest := rest) ⟨hx, hb, hml, hown, hts⟩ hM ⟨callB_of n hts hG rfl rfl rfl (hts _ w4) (hts _ w1) hd hR, hy, hts _ w2⟩ ⟨e_blind G h _, e_pre E J _⟩ rfl hn hl hst (lv_room hW) hdg hcs) J rfl kk
theorem e_callIN (E : e_M G p s args m meth c cc nL ret own) (J : e_J G s h H locs) {b : Nat} {y : MethodName} {bytes : ByteArray} {maxL index n f nl mc ms : Nat} {h1 : e_H} {As st0 : List Value} {host : String}
    (hM : Met l y (e_W y bytes maxL none) (e_rc f nl mc ms) (e_Pc G h (.ref b :: As)) (e_Q G h1 none) mc ms (e_A G))
    (w1 : (own, index, y, host) ∈ e_nl) (w2 : Cond.instanceMethod y ∈ e_wl) (w4 : Cond.initialized y.cls ∈ e_wl) (w5 : Cond.code y bytes maxL none ∈ e_wl) (hy : y.name = "<init>")
    (hd : y.cls ≠ "java/lang/invoke/MethodHandle" ∧ y.cls ≠ "java/lang/invoke/VarHandle" ∧ (parseMethodDescriptor y.desc).map (fun d => d.parameters.length) = some n) (hn : As.length = n) (hR : f + 1 ≤ R.frames ∧ 8 + (maxL + 11) + nl ≤ R.locals)
    (hst : st0 = As.reverse ++ .ref b :: rest) (hl : ls.size = nL) (hW : (rest.map fun v => v.category).sum ≤ 8) (hdg : decode cc pc = .ok (.invokespecial index, 3)) (hcs : cells + mc ≤ R.cells ∧ slots + ms ≤ R.slots)
    (kk : ∀ (H1 : Heap) (locs1 : List Loc), e_J G s h1 H1 locs1 → W p l e R s m args below meth c H1 locs1 (cells + mc) (slots + ms) Q (F0 m (pc + 3) ls rest)) : W p l e R s m args below meth c H locs cells slots Q (F0 m pc ls st0) := by
  have E0 := E
  obtain ⟨hx, hb, -, hml, hown, hts, -, hS, -⟩ := E0
  have hG : GoodIn e_wl (e_W y bytes maxL none) := e_goodc w5 e_goods
  exact e_go (va_runIN (As := As) (rest := rest) ⟨hx, hb, hml, hown, hts⟩ hM ⟨va_cnB n hts hG rfl rfl rfl (hS.2.1 _ w1) (hts _ w4) hd hR, hy, hts _ w2⟩ ⟨e_blind G h _, e_pre E J _⟩ rfl hn hl hst (lv_room hW) hdg hcs) J rfl kk
theorem e_callVc (E : e_M G p s args m meth c cc nL ret own) (J : e_J G s h H locs) {k ci : Nat} {fs : List Value} {r : vw_C} (hk : o_obj h k ci = some fs) (hc : vwCl[ci]? = some r) {y : MethodName} {bytes : ByteArray} {maxL index n f nl mc ms : Nat} {rt : Option FieldType} {v : Option Value} {h1 : e_H} {As st0 st1 : List Value}
    (hM : Met l y (e_W y bytes maxL rt) (e_rc f nl mc ms) (e_Pc G h (.ref (e_ad G k) :: As)) (e_Q G h1 v) mc ms (e_A G))
    (w1 : Cond.methodLink own index y ∈ e_wl) (w2 : Cond.instanceMethod y ∈ e_wl) (w3 : Cond.selects r.1 y y ∈ e_wl) (w4 : Cond.initialized r.1 ∈ e_wl) (w5 : Cond.code y bytes maxL rt ∈ e_wl)
    (hd : y.cls = r.1 ∧ y.cls ≠ "java/lang/invoke/MethodHandle" ∧ y.cls ≠ "java/lang/invoke/VarHandle" ∧ (parseMethodDescriptor y.desc).map (fun d => d.parameters.length) = some n) (hn : As.length = n) (hR : f + 1 ≤ R.frames ∧ 8 + (maxL + 11) + nl ≤ R.locals)
    (hst : st0 = As.reverse ++ .ref (e_ad G k) :: rest) (hs : v.toList ++ rest = st1) (hl : ls.size = nL) (hW : (rest.map fun v => v.category).sum ≤ 8) (hdg : decode cc pc = .ok (.invokevirtual index, 3)) (hcs : cells + mc ≤ R.cells ∧ slots + ms ≤ R.slots)
    (kk : ∀ (H1 : Heap) (locs1 : List Loc), e_J G s h1 H1 locs1 → W p l e R s m args below meth c H1 locs1 (cells + mc) (slots + ms) Q (F0 m (pc + 3) ls st1)) : W p l e R s m args below meth c H locs cells slots Q (F0 m pc ls st0) := by
  have E0 := E
  obtain ⟨hx, hb, -, hml, hown, hts, -, hS, -⟩ := E0
  have hG : GoodIn e_wl (wsV own index r.1 y (e_W y bytes maxL rt)) := e_goodc w1 (e_goodc w2 (e_goodc w3 (e_goodc w4 (e_goodc w5 e_goods))))
  refine e_go (va_runV (As := As) (rest := rest) (C := r.1) ⟨hx, hb, hml, hown, hts⟩ hM (cwV n hts hG rfl rfl rfl hd hR) ⟨e_blind G h _, ?_, e_pre E J _⟩ rfl hn hl hst (lv_room hW) hdg hcs) J hs kk
  obtain ⟨r', h1, cell, g1, g2, g3, -⟩ := J.1.2 k _ (o_obj_spec hk)
  exact ⟨cell, g1, by rw [g3]; rfl, by rw [g2]; exact (hS.1.1 ci r hc).2.1⟩
theorem e_callSc (E : e_M G p s args m meth c cc nL ret own) (J : e_J G s h H locs) {y : MethodName} {bytes : ByteArray} {maxL index n f nl mc ms : Nat} {rt : Option FieldType} {v : Option Value} {h1 : e_H} {As st0 st1 : List Value}
    (hM : Met l y (e_W y bytes maxL rt) (e_rc f nl mc ms) (e_Pc G h As) (e_Q G h1 v) mc ms (e_A G))
    (w1 : Cond.methodLink own index y ∈ e_wl) (w2 : Cond.static y ∈ e_wl) (w4 : Cond.initialized y.cls ∈ e_wl) (w5 : Cond.code y bytes maxL rt ∈ e_wl)
    (hd : y.cls ≠ "java/lang/invoke/MethodHandle" ∧ y.cls ≠ "java/lang/invoke/VarHandle" ∧ (parseMethodDescriptor y.desc).map (fun d => d.parameters.length) = some n) (hn : As.length = n) (hR : f + 1 ≤ R.frames ∧ 8 + (maxL + 11) + nl ≤ R.locals)
    (hst : st0 = As.reverse ++ rest) (hs : v.toList ++ rest = st1) (hl : ls.size = nL) (hW : (rest.map fun v => v.category).sum ≤ 8) (hdg : decode cc pc = .ok (.invokestatic index, 3)) (hcs : cells + mc ≤ R.cells ∧ slots + ms ≤ R.slots)
    (kk : ∀ (H1 : Heap) (locs1 : List Loc), e_J G s h1 H1 locs1 → W p l e R s m args below meth c H1 locs1 (cells + mc) (slots + ms) Q (F0 m (pc + 3) ls st1)) : W p l e R s m args below meth c H locs cells slots Q (F0 m pc ls st0) := by
  have E0 := E
  obtain ⟨hx, hb, -, hml, hown, hts, -, hS, -⟩ := E0
  have hG : GoodIn e_wl (va_wsS own index y (e_W y bytes maxL rt)) := e_goodc w1 (e_goodc w2 (e_goodc w4 (e_goodc w5 e_goods)))
  exact e_go (va_runS (As := As) (rest := rest) ⟨hx, hb, hml, hown, hts⟩ hM (va_cwS n hts hG rfl rfl rfl hd hR) ⟨e_blind G h _, e_pre E J _⟩ rfl hn hl hst (lv_room hW) hdg hcs) J hs kk
end AL
theorem e_rf {f n x : Nat} (hx : x ≤ f) : x ≤ (e_rm f n).frames := hx
theorem e_rl {f n x : Nat} (hx : x ≤ n) : x ≤ (e_rm f n).locals := hx
