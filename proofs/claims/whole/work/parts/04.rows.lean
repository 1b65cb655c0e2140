theorem e_S.warm {G : e_G} {s U : State} {H0 H : Heap} {locs : List Loc} (hW : s.WarmedH U.vm) (hS : va_S (e_A G) H0 H locs) (h : e_S G s H0) : e_S G U H := by
  obtain ⟨h1, h2, h3, h4, h5, h6, h7, h8, h9⟩ := h
  have ha := hW.alike
  exact ⟨va_K.moved ha h1, fun q hq => va_Nw.warmM hW (h2 q hq), fun C hC => va_AO.moved ha (h3 C hC), (va_Z.moved ha h4).kept hS.2.1, (va_T.moved ha h5).kept hS.2.1, (vk_S.moved ha h6).kept hS.2.1, fun i q hq => vk_R.warm hW (h7 i q hq), (va_Z.moved ha h8).kept hS.2.1, (va_Zq.moved ha h9).kept hS.2.1⟩
theorem e_blind (G : e_G) (h : e_H) (av : List Value) : FrameBlind (e_Pc G h av) := by
  intro a U g mk q
  obtain ⟨q0, qS, qP⟩ := q
  refine ⟨q0, ?_, qP⟩
  obtain ⟨h1, h2, h3, h4, h5, h6, h7, h8, h9⟩ := qS
  have ha : U.vm.Alike (U.calling g mk a).vm := Vm.Alike.refl U.vm
  exact ⟨va_K.moved ha h1, fun q hq => va_Nw.same rfl rfl (h2 q hq), fun C hC => va_AO.moved ha (h3 C hC), va_Z.moved ha h4, va_T.moved ha h5, vk_S.moved ha h6, fun i q hq => vk_R.same rfl (h7 i q hq), va_Z.moved ha h8, va_Zq.moved ha h9⟩
theorem e_goods : ∀ w ∈ e_wl, w ∈ e_wl ∧ ((w.onTables && w.keeps) = true ∨ ∃ ty, w = .arrayClass ty) := fun w h => ⟨h, good_of_word (List.mem_filter.mp h).2⟩
theorem e_goodc {w : Cond} {ws : List Cond} (h : w ∈ e_wl) (hr : GoodIn e_wl ws) : GoodIn e_wl (w :: ws) := by
  intro x hx
  rcases List.mem_cons.mp hx with rfl | hx
  · exact e_goods _ h
  · exact hr x hx
section ER
variable {p : Program} {l : Launch} {e : Env} {R : Room} {s : State} {m : MethodId} {args : Array Value} {below : List Frame} {meth : Method} {c : Code} {H : Heap} {locs : List Loc} {cells slots : Nat} {Q : State → Prop}
variable {G : e_G} {cc : ByteArray} {nL : Nat} {ret : Option FieldType} {own : String} {pc : Nat} {ls : Array Slot} {rest : List Value} {h : e_H}
theorem e_getv (E : e_M G p s args m meth c cc nL ret own) (J : e_J G s h H locs) {a ci k : Nat} {v : Value} {fs : List Value} (h1 : h[a]? = some (.inr (ci, fs))) (h2 : fs[k]? = some v) {C : String} {T : u_T} {N index : Nat} (hc : vwCl[ci]? = some (C, T, N)) (hin : ∀ w ∈ u_ws C T N, w ∈ e_wl) (hk : k < N) (hl : Cond.fieldLink own index (T k).1 (T k).2.1 (T k).2.2.1 ∈ e_wl) (hdg : decode cc pc = .ok (.getfield index, 3))
    (kk : W p l e R s m args below meth c H locs cells slots Q (F0 m (pc + 3) ls (e_v G v :: rest))) : W p l e R s m args below meth c H locs cells slots Q (F0 m pc ls (.ref (e_ad G a) :: rest)) := by
  obtain ⟨hx, hb, -, -, hown, hts, -, hS, -⟩ := E
  exact va_get (D := G.1) hx hb hts hin hown hS.1 (J.1.one h1) 0 rfl hc k hk (hts _ hl) (fun _ h => h) (by show (fs.map (e_v G))[k]? = _; rw [List.getElem?_map, h2]; rfl) hdg kk
theorem e_getI (E : e_M G p s args m meth c cc nL ret own) (J : e_J G s h H locs) {a ci k : Nat} {x : Int32} (hv : o_getI h a ci k = some x) {C : String} {T : u_T} {N index : Nat} (hc : vwCl[ci]? = some (C, T, N)) (hin : ∀ w ∈ u_ws C T N, w ∈ e_wl) (hk : k < N) (hl : Cond.fieldLink own index (T k).1 (T k).2.1 (T k).2.2.1 ∈ e_wl) (hdg : decode cc pc = .ok (.getfield index, 3))
    (kk : W p l e R s m args below meth c H locs cells slots Q (F0 m (pc + 3) ls (.int x :: rest))) : W p l e R s m args below meth c H locs cells slots Q (F0 m pc ls (.ref (e_ad G a) :: rest)) := by
  obtain ⟨fs, h1, h2⟩ := o_getI_spec hv
  exact e_getv E J h1 h2 hc hin hk hl hdg kk
theorem e_v_rf (G : e_G) (r : Option Nat) : e_v G (va_rf r) = e_r G r := by cases r <;> rfl
theorem e_getR (E : e_M G p s args m meth c cc nL ret own) (J : e_J G s h H locs) {a ci k : Nat} {x : Option Nat} (hv : o_getR h a ci k = some x) {C : String} {T : u_T} {N index : Nat} (hc : vwCl[ci]? = some (C, T, N)) (hin : ∀ w ∈ u_ws C T N, w ∈ e_wl) (hk : k < N) (hl : Cond.fieldLink own index (T k).1 (T k).2.1 (T k).2.2.1 ∈ e_wl) (hdg : decode cc pc = .ok (.getfield index, 3))
    (kk : W p l e R s m args below meth c H locs cells slots Q (F0 m (pc + 3) ls (e_r G x :: rest))) : W p l e R s m args below meth c H locs cells slots Q (F0 m pc ls (.ref (e_ad G a) :: rest)) := by
  obtain ⟨fs, h1, h2⟩ := o_getR_spec hv
  exact e_getv E J h1 h2 hc hin hk hl hdg (by rw [e_v_rf]; exact kk)
theorem e_putv (E : e_M G p s args m meth c cc nL ret own) (J : e_J G s h H locs) {a ci k : Nat} {v v' : Value} {h1 : e_H} (hv : o_put h a ci k v = some h1) (hvv : e_v G v = v') {C : String} {T : u_T} {N index : Nat} (hc : vwCl[ci]? = some (C, T, N)) (hin : ∀ w ∈ u_ws C T N, w ∈ e_wl) (ty0 : Nat → FieldType) (hty : ∀ k, k < N → parseFieldDescriptor (T k).2.2.1 = some (ty0 k)) (hnm : ∀ a, a < N → ∀ b, b < N → a ≠ b → (T a).2.1 ≠ (T b).2.1) (hk : k < N) (hl : Cond.fieldLink own index (T k).1 (T k).2.1 (T k).2.2.1 ∈ e_wl) (hfin : (T k).2.2.2 = false) {ty : FieldType} (hd : ty0 k = ty) (hn : narrow ty v' = v') (hfit : fits ty v' = true) (hdg : decode cc pc = .ok (.putfield index, 3))
    (kk : ∀ (H1 : Heap) (locs1 : List Loc), e_J G s h1 H1 locs1 → W p l e R s m args below meth c H1 locs1 cells slots Q (F0 m (pc + 3) ls rest)) : W p l e R s m args below meth c H locs cells slots Q (F0 m pc ls (v' :: .ref (e_ad G a) :: rest)) := by
  obtain ⟨fs, he, hlen, rfl⟩ := o_put_spec hv
  subst hvv
  obtain ⟨hx, hb, -, -, hown, hts, -, hS0, -⟩ := E
  have hK := hS0.1
  have hap := va_apart (own := own) hts hin ty0 hty hnm hK hc
  obtain ⟨r, h1, cell, q1, q2, q3, q4⟩ := J.1.2 a _ he
  have hr : r = (C, T, N) := Option.some.inj (h1.symm.trans hc)
  subst hr
  obtain ⟨hSl, hfc, kC, hkC, hkind⟩ := hK.1 ci _ hc
  obtain ⟨cf, kf, fi, f, hi, hsl⟩ := hSl k hk
  have hlay := hts _ (hin _ (u_in_lay hk))
  unfold u_lay at hlay
  rw [if_neg (by rw [hfin]; decide)] at hlay
  have hst := (u_facts hfc hkC (u_lays hts hin hk) hi).1
  have h6 := u_store hfc hkC hkind hlay hi ((hty k hk).trans (congrArg some hd)) hn hfit
  refine W.putK hx hb (f := f) ⟨hown, hts _ hl, ⟨_, _, _, hi⟩, hst⟩ (by rw [q2]; exact h6) q1 q3 (by rw [hsl]; exact k2_hasslot (q4 k hk)) rfl rfl hdg fun H' e1 e2 e3 => ?_
  rw [hsl] at e1 ⊢
  refine kk H' _ (J.set he e2 e3 ⟨_, hc, t_OB.to (V := updV (vp_V (fs.map (e_v G))) k (e_v G v)) ⟨_, e1, q2, q3, t_set q4 hap hk _⟩ (fun j _ => ?_)⟩)
  show _ = vp_V ((fs.set k v).map (e_v G)) j
  rw [List.map_set]
  exact vp_updV_set (by rw [List.length_map]; exact hlen) _ j
theorem e_putF (E : e_M G p s args m meth c cc nL ret own) (J : e_J G s h H locs) {a ci k : Nat} {v v' : Value} {h1 : e_H} (hv : o_put h a ci k v = some h1) (hvv : e_v G v = v') {C : String} {T : u_T} {N index : Nat} (hc : vwCl[ci]? = some (C, T, N)) (hin : ∀ w ∈ u_ws C T N, w ∈ e_wl) (ty0 : Nat → FieldType) (hty : ∀ k, k < N → parseFieldDescriptor (T k).2.2.1 = some (ty0 k)) (hnm : ∀ a, a < N → ∀ b, b < N → a ≠ b → (T a).2.1 ≠ (T b).2.1) (hk : k < N) (hl : Cond.fieldLink own index (T k).1 (T k).2.1 (T k).2.2.1 ∈ e_wl) (hfin : (T k).2.2.2 = true) (hinit : meth.name = "<init>") (hdecl : (T k).1 = own) {ty : FieldType} (hd : ty0 k = ty) (hn : narrow ty v' = v') (hfit : fits ty v' = true) (hdg : decode cc pc = .ok (.putfield index, 3))
    (kk : ∀ (H1 : Heap) (locs1 : List Loc), e_J G s h1 H1 locs1 → W p l e R s m args below meth c H1 locs1 cells slots Q (F0 m (pc + 3) ls rest)) : W p l e R s m args below meth c H locs cells slots Q (F0 m pc ls (v' :: .ref (e_ad G a) :: rest)) := by
  obtain ⟨fs, he, hlen, rfl⟩ := o_put_spec hv
  subst hvv
  obtain ⟨hx, hb, -, -, hown, hts, -, hS0, -⟩ := E
  have hK := hS0.1
  have hap := va_apart (own := own) hts hin ty0 hty hnm hK hc
  obtain ⟨r, h1, cell, q1, q2, q3, q4⟩ := J.1.2 a _ he
  have hr : r = (C, T, N) := Option.some.inj (h1.symm.trans hc)
  subst hr
  obtain ⟨hSl, hfc, kC, hkC, hkind⟩ := hK.1 ci _ hc
  obtain ⟨cf, kf, fi, f, hi, hsl⟩ := hSl k hk
  have hlay := hts _ (hin _ (u_in_lay hk))
  unfold u_lay at hlay
  rw [if_pos hfin] at hlay
  have hst := (u_facts hfc hkC (u_lays hts hin hk) hi).1
  have hcf : m.cls = cf := by
    obtain ⟨_, _, c', _, _, _, -, -, hf', -, -, -, hown2, -⟩ := Cond.laysFinal_spec hlay
    have e1 : c' = cf := by have := hi.symm.trans hf'; simp at this; exact this.1.symm
    rw [hdecl] at hown2
    rw [← e1]; exact Option.some.inj (hown.symm.trans hown2)
  have h6 := u_fits hfc hkC hkind (Or.inr hlay) hi ((hty k hk).trans (congrArg some hd)) hn hfit
  refine W.putFinK hx hb hown (hts _ hl) hi hst hcf hinit (by rw [q2]; exact h6) q1 q3 (by rw [hsl]; exact k2_hasslot (q4 k hk)) rfl rfl hdg fun H' e1 e2 e3 => ?_
  rw [hsl] at e1 ⊢
  refine kk H' _ (J.set he e2 e3 ⟨_, hc, t_OB.to (V := updV (vp_V (fs.map (e_v G))) k (e_v G v)) ⟨_, e1, q2, q3, t_set q4 hap hk _⟩ (fun j _ => ?_)⟩)
  show _ = vp_V ((fs.set k v).map (e_v G)) j
  rw [List.map_set]
  exact vp_updV_set (by rw [List.length_map]; exact hlen) _ j
end ER
