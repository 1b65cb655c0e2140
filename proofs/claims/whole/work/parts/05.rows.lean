section ER2
variable {p : Program} {l : Launch} {e : Env} {R : Room} {s : State} {m : MethodId} {args : Array Value} {below : List Frame} {meth : Method} {c : Code} {H : Heap} {locs : List Loc} {cells slots : Nat} {Q : State → Prop}
variable {G : e_G} {cc : ByteArray} {nL : Nat} {ret : Option FieldType} {own : String} {pc : Nat} {ls : Array Slot} {rest : List Value} {h : e_H}
theorem e_alen (E : e_M G p s args m meth c cc nL ret own) (J : e_J G s h H locs) {a t : Nat} {x : Int32} (hv : o_len h a t = some x) {tt : ClassId × FieldType} (ht : (e_tys G)[t]? = some tt) (ht2 : tt.1 = G.2.1 t) (hdg : decode cc pc = .ok (.arraylength, 1))
    (kk : W p l e R s m args below meth c H locs cells slots Q (F0 m (pc + 1) ls (.int x :: rest))) : W p l e R s m args below meth c H locs cells slots Q (F0 m pc ls (.ref (e_ad G a) :: rest)) := by
  obtain ⟨z, h1, h2⟩ := e_bs hv
  have h3 := o_arr_spec h1
  obtain ⟨hx, hb, -, -, hown, hts, -, hS, -⟩ := E
  refine va_alen (D := G.1) (x := e_a G z) (ty := tt.2) hx hb hS.1 (J.1.one h3) 0 t rfl (by rw [ht, ← ht2]) ?_ hdg kk
  obtain ⟨n, f | f | f | f | f⟩ := z <;> exact e_so h2
theorem e_iald (E : e_M G p s args m meth c cc nL ret own) (J : e_J G s h H locs) {a : Nat} {i x : Int32} (hv : o_ldI h a 0 i = some x) (hdg : decode cc pc = .ok (.iaload, 1))
    (kk : W p l e R s m args below meth c H locs cells slots Q (F0 m (pc + 1) ls (.int x :: rest))) : W p l e R s m args below meth c H locs cells slots Q (F0 m pc ls (.int i :: .ref (e_ad G a) :: rest)) := by
  obtain ⟨z, h1, h2⟩ := e_bs hv
  obtain ⟨hin, h3⟩ := e_if0 h2
  obtain rfl := e_so h3
  obtain ⟨hx, hb, -, -, hown, hts, -, hS, -⟩ := E
  exact va_iald (D := G.1) hx hb hS.1 (J.1.one (o_rowI_spec h1)) 0 0 rfl rfl hin hdg kk
theorem e_cald (E : e_M G p s args m meth c cc nL ret own) (J : e_J G s h H locs) {a : Nat} {i x : Int32} (hv : o_ldI h a 2 i = some x) (hdg : decode cc pc = .ok (.caload, 1))
    (kk : W p l e R s m args below meth c H locs cells slots Q (F0 m (pc + 1) ls (.int x :: rest))) : W p l e R s m args below meth c H locs cells slots Q (F0 m pc ls (.int i :: .ref (e_ad G a) :: rest)) := by
  obtain ⟨z, h1, h2⟩ := e_bs hv
  obtain ⟨hin, h3⟩ := e_if0 h2
  obtain rfl := e_so h3
  obtain ⟨hx, hb, -, -, hown, hts, -, hS, -⟩ := E
  exact va_cald (D := G.1) hx hb hS.1 (J.1.one (o_rowI_spec h1)) 0 2 rfl rfl hin hdg kk
theorem e_zald (E : e_M G p s args m meth c cc nL ret own) (J : e_J G s h H locs) {a : Nat} {i x : Int32} (hv : o_ldI h a 3 i = some x) (hdg : decode cc pc = .ok (.baload, 1))
    (kk : W p l e R s m args below meth c H locs cells slots Q (F0 m (pc + 1) ls (.int x :: rest))) : W p l e R s m args below meth c H locs cells slots Q (F0 m pc ls (.int i :: .ref (e_ad G a) :: rest)) := by
  obtain ⟨z, h1, h2⟩ := e_bs hv
  obtain ⟨hin, h3⟩ := e_if0 h2
  obtain rfl := e_so h3
  obtain ⟨hx, hb, -, -, hown, hts, -, hS, -⟩ := E
  exact va_zald (D := G.1) hx hb hS.1 (J.1.one (o_rowI_spec h1)) 0 3 rfl rfl hin hdg kk
theorem e_lald (E : e_M G p s args m meth c cc nL ret own) (J : e_J G s h H locs) {a : Nat} {i : Int32} {x : Int64} (hv : o_ldL h a 1 i = some x) (hdg : decode cc pc = .ok (.laload, 1))
    (kk : W p l e R s m args below meth c H locs cells slots Q (F0 m (pc + 1) ls (.long x :: rest))) : W p l e R s m args below meth c H locs cells slots Q (F0 m pc ls (.int i :: .ref (e_ad G a) :: rest)) := by
  obtain ⟨z, h1, h2⟩ := e_bs hv
  obtain ⟨hin, h3⟩ := e_if0 h2
  obtain rfl := e_so h3
  obtain ⟨hx, hb, -, -, hown, hts, -, hS, -⟩ := E
  exact va_lald (D := G.1) hx hb hS.1 (J.1.one (o_rowL_spec h1)) 0 1 rfl rfl hin hdg kk
theorem e_aald (E : e_M G p s args m meth c cc nL ret own) (J : e_J G s h H locs) {a t : Nat} {i : Int32} {x : Option Nat} (hv : o_ldR h a t i = some x) {tC : String} (ht : (e_tys G)[t]? = some (G.2.1 t, .object tC)) (hdg : decode cc pc = .ok (.aaload, 1))
    (kk : W p l e R s m args below meth c H locs cells slots Q (F0 m (pc + 1) ls (e_r G x :: rest))) : W p l e R s m args below meth c H locs cells slots Q (F0 m pc ls (.int i :: .ref (e_ad G a) :: rest)) := by
  obtain ⟨z, h1, h2⟩ := e_bs hv
  obtain ⟨hin, h3⟩ := e_if0 h2
  obtain rfl := e_so h3
  obtain ⟨hx, hb, -, -, hown, hts, -, hS, -⟩ := E
  exact va_aldq (D := G.1) (C := tC) (f := fun j => (z.2 j).map (e_ad G)) hx hb hS.1 (J.1.one (o_rowR_spec h1)) 0 t rfl ht hin hdg kk
theorem e_iast (E : e_M G p s args m meth c cc nL ret own) (J : e_J G s h H locs) {a : Nat} {i x : Int32} {h1 : e_H} (hv : o_stI h a 0 i x = some h1) (hdg : decode cc pc = .ok (.iastore, 1))
    (kk : ∀ (H1 : Heap) (locs1 : List Loc), e_J G s h1 H1 locs1 → W p l e R s m args below meth c H1 locs1 cells slots Q (F0 m (pc + 1) ls rest)) : W p l e R s m args below meth c H locs cells slots Q (F0 m pc ls (.int x :: .int i :: .ref (e_ad G a) :: rest)) := by
  obtain ⟨⟨n, f⟩, g1, g2⟩ := e_bs hv
  obtain ⟨hin, g3⟩ := e_if0 g2
  obtain rfl := e_so g3
  obtain ⟨hx, hb, -, -, hown, hts, -, hS, -⟩ := E
  have he := o_rowI_spec g1
  refine W.iast hx hb (J.1.2 a _ he) ((hS.1.2 0 _ rfl).1 n (fun j => .int (f j))) (fun q => by cases q) (by show ¬ (i < 0 ∨ (arrV _ _ _).slots.size ≤ _); rw [arrV_size]; exact hin) rfl rfl hdg fun H1 e1 z oq => ?_
  refine kk H1 _ (J.set he z oq ?_)
  show H1[e_ad G a]? = some (arrV (G.2.1 0) n (fun j => .int (upd f i.toNatClampNeg x j)))
  rw [e1]
  show some ((arrV (G.2.1 0) n (fun j => .int (f j))).setSlot _ _) = _
  rw [arrV_store]
  congr 2
  funext q
  by_cases hq : q = i.toNatClampNeg
  · subst hq
    simp [updV, upd]
  · simp [updV, upd, hq]
theorem e_cast (E : e_M G p s args m meth c cc nL ret own) (J : e_J G s h H locs) {a : Nat} {i x : Int32} {h1 : e_H} (hv : o_stI h a 2 i (vp_nar .char x) = some h1) (hdg : decode cc pc = .ok (.castore, 1))
    (kk : ∀ (H1 : Heap) (locs1 : List Loc), e_J G s h1 H1 locs1 → W p l e R s m args below meth c H1 locs1 cells slots Q (F0 m (pc + 1) ls rest)) : W p l e R s m args below meth c H locs cells slots Q (F0 m pc ls (.int x :: .int i :: .ref (e_ad G a) :: rest)) := by
  obtain ⟨⟨n, f⟩, g1, g2⟩ := e_bs hv
  obtain ⟨hin, g3⟩ := e_if0 g2
  obtain rfl := e_so g3
  obtain ⟨hx, hb, -, -, hown, hts, -, hS, -⟩ := E
  have he := o_rowI_spec g1
  refine W.cast hx hb (J.1.2 a _ he) ((hS.1.2 2 _ rfl).1 n (fun j => .int (f j))) (fun q => by cases q) (by show ¬ (i < 0 ∨ (arrV _ _ _).slots.size ≤ _); rw [arrV_size]; exact hin) rfl rfl hdg fun H1 e1 z oq => ?_
  refine kk H1 _ (J.set he z oq ?_)
  show H1[e_ad G a]? = some (arrV (G.2.1 2) n (fun j => .int (upd f i.toNatClampNeg (vp_nar .char x) j)))
  rw [e1]
  show some ((arrV (G.2.1 2) n (fun j => .int (f j))).setSlot _ _) = _
  rw [arrV_store]
  congr 2
  funext q
  by_cases hq : q = i.toNatClampNeg
  · subst hq
    simp [updV, upd, vp_nar]
    try rfl
  · simp [updV, upd, hq]
theorem e_zast (E : e_M G p s args m meth c cc nL ret own) (J : e_J G s h H locs) {a : Nat} {i x : Int32} {h1 : e_H} (hv : o_stI h a 3 i (vp_nar .boolean x) = some h1) (hdg : decode cc pc = .ok (.bastore, 1))
    (kk : ∀ (H1 : Heap) (locs1 : List Loc), e_J G s h1 H1 locs1 → W p l e R s m args below meth c H1 locs1 cells slots Q (F0 m (pc + 1) ls rest)) : W p l e R s m args below meth c H locs cells slots Q (F0 m pc ls (.int x :: .int i :: .ref (e_ad G a) :: rest)) := by
  obtain ⟨⟨n, f⟩, g1, g2⟩ := e_bs hv
  obtain ⟨hin, g3⟩ := e_if0 g2
  obtain rfl := e_so g3
  obtain ⟨hx, hb, -, -, hown, hts, -, hS, -⟩ := E
  have he := o_rowI_spec g1
  refine W.zast hx hb (J.1.2 a _ he) ((hS.1.2 3 _ rfl).1 n (fun j => .int (f j))) (fun q => by cases q) (by show ¬ (i < 0 ∨ (arrV _ _ _).slots.size ≤ _); rw [arrV_size]; exact hin) rfl rfl hdg fun H1 e1 z oq => ?_
  refine kk H1 _ (J.set he z oq ?_)
  show H1[e_ad G a]? = some (arrV (G.2.1 3) n (fun j => .int (upd f i.toNatClampNeg (vp_nar .boolean x) j)))
  rw [e1]
  show some ((arrV (G.2.1 3) n (fun j => .int (f j))).setSlot _ _) = _
  rw [arrV_store]
  congr 2
  funext q
  by_cases hq : q = i.toNatClampNeg
  · subst hq
    simp [updV, upd, vp_nar]
    try rfl
  · simp [updV, upd, hq]
theorem e_last (E : e_M G p s args m meth c cc nL ret own) (J : e_J G s h H locs) {a : Nat} {i : Int32} {x : Int64} {h1 : e_H} (hv : o_stL h a 1 i x = some h1) (hdg : decode cc pc = .ok (.lastore, 1))
    (kk : ∀ (H1 : Heap) (locs1 : List Loc), e_J G s h1 H1 locs1 → W p l e R s m args below meth c H1 locs1 cells slots Q (F0 m (pc + 1) ls rest)) : W p l e R s m args below meth c H locs cells slots Q (F0 m pc ls (.long x :: .int i :: .ref (e_ad G a) :: rest)) := by
  obtain ⟨⟨n, f⟩, g1, g2⟩ := e_bs hv
  obtain ⟨hin, g3⟩ := e_if0 g2
  obtain rfl := e_so g3
  obtain ⟨hx, hb, -, -, hown, hts, -, hS, -⟩ := E
  have he := o_rowL_spec g1
  refine W.last hx hb (J.1.2 a _ he) ((hS.1.2 1 _ rfl).1 n (fun j => .long (f j))) (fun q => by cases q) (by show ¬ (i < 0 ∨ (arrV _ _ _).slots.size ≤ _); rw [arrV_size]; exact hin) rfl rfl hdg fun H1 e1 z oq => ?_
  refine kk H1 _ (J.set he z oq ?_)
  show H1[e_ad G a]? = some (arrV (G.2.1 1) n (fun j => .long (vp_updL f i.toNatClampNeg x j)))
  rw [e1]
  show some ((arrV (G.2.1 1) n (fun j => .long (f j))).setSlot _ _) = _
  rw [arrV_store]
  congr 2
  funext q
  by_cases hq : q = i.toNatClampNeg
  · subst hq
    simp [updV, vp_updL]
  · simp [updV, vp_updL, hq]
theorem e_mapup (G : e_G) (f : Nat → Option Nat) (k : Nat) (r : Option Nat) : (fun j => va_rf ((va_up f k r j).map (e_ad G))) = updV (fun j => va_rf ((f j).map (e_ad G))) k (va_rf (r.map (e_ad G))) := by
  funext q
  by_cases hq : q = k
  · subst hq
    simp [updV, va_up]
  · simp [updV, va_up, hq]
theorem e_aastN (E : e_M G p s args m meth c cc nL ret own) (J : e_J G s h H locs) {a t : Nat} {i : Int32} {h1 : e_H} (hv : o_stN h a t i = some h1) {tC : String} (ht : (e_tys G)[t]? = some (G.2.1 t, .object tC)) (hdg : decode cc pc = .ok (.aastore, 1))
    (kk : ∀ (H1 : Heap) (locs1 : List Loc), e_J G s h1 H1 locs1 → W p l e R s m args below meth c H1 locs1 cells slots Q (F0 m (pc + 1) ls rest)) : W p l e R s m args below meth c H locs cells slots Q (F0 m pc ls (.null :: .int i :: .ref (e_ad G a) :: rest)) := by
  obtain ⟨⟨n, f⟩, g1, g2⟩ := e_bs hv
  obtain ⟨hin, g3⟩ := e_if0 g2
  obtain rfl := e_so g3
  obtain ⟨hx, hb, -, -, hown, hts, -, hS, -⟩ := E
  have he := o_rowR_spec g1
  refine va_WaastN (C := tC) hx hb (J.1.2 a _ he) ((hS.1.2 t _ ht).1 n (fun j => va_rf ((f j).map (e_ad G)))) (fun h => by cases h) (by show ¬ (i < 0 ∨ (arrV _ _ _).slots.size ≤ _); rw [arrV_size]; exact hin) rfl rfl hdg fun H1 e1 z oq => ?_
  refine kk H1 _ (J.set he z oq ?_)
  show H1[e_ad G a]? = some (arrV (G.2.1 t) n (fun j => va_rf ((va_up f i.toNatClampNeg none j).map (e_ad G))))
  rw [e1, e_mapup]
  show some ((arrV (G.2.1 t) n _).setSlot _ _) = _
  rw [arrV_store]
  rfl
theorem e_aastQ (E : e_M G p s args m meth c cc nL ret own) (J : e_J G s h H locs) {a t v : Nat} {i : Int32} {h1 : e_H} (hv : o_stQ h a t i v = some h1) {r : vw_C} (hc : vwCl[e_el t]? = some r) (ht : (e_tys G)[t]? = some (G.2.1 t, .object r.1)) (hdg : decode cc pc = .ok (.aastore, 1))
    (kk : ∀ (H1 : Heap) (locs1 : List Loc), e_J G s h1 H1 locs1 → W p l e R s m args below meth c H1 locs1 cells slots Q (F0 m (pc + 1) ls rest)) : W p l e R s m args below meth c H locs cells slots Q (F0 m pc ls (.ref (e_ad G v) :: .int i :: .ref (e_ad G a) :: rest)) := by
  obtain ⟨⟨n, f⟩, g1, g2⟩ := e_bs hv
  obtain ⟨hin, g3⟩ := e_if0 g2
  obtain ⟨vs, g4, g5⟩ := e_bs g3
  obtain rfl := e_so g5
  obtain ⟨hx, hb, -, -, hown, hts, -, hS, -⟩ := E
  have he := o_rowR_spec g1
  have hlt : i.toNatClampNeg < n := Nat.not_le.mp fun q => hin (Or.inr q)
  have h0 : ¬ i < 0 := fun q => hin (Or.inl q)
  obtain ⟨r', hr', cellV, k1, k2, k3, -⟩ := J.1.2 v _ (o_obj_spec g4)
  have hcls := (hS.1.1 (e_el t) r hc).2
  obtain ⟨kA, comp, u1, u2, u3, -⟩ := (hS.1.2 t _ ht).2
  have hcomp : comp = G.1.1 (e_el t) := Option.some.inj (u3.symm.trans hcls.1)
  subst hcomp
  obtain ⟨kC, hkC, -⟩ := hcls.2
  refine W.aast hx hb (J.1.2 a _ he) (fun q h => by cases h) (fun h => by cases h) u1 u2 rfl hkC ⟨h0, by show _ < (arrV _ _ _).slots.size; rw [arrV_size]; exact hlt⟩ k1 (fun q h => by rw [k3] at h; cases h) (by rw [k2]; exact hkC) (by rw [k2]; exact va_assign hcls) rfl rfl hdg fun H1 e1 z oq => ?_
  refine kk H1 _ (J.set he z oq ?_)
  show H1[e_ad G a]? = some (arrV (G.2.1 t) n (fun j => va_rf ((va_up f i.toNatClampNeg (some v) j).map (e_ad G))))
  rw [e1, e_mapup]
  show some ((arrV (G.2.1 t) n _).setSlot _ _) = _
  rw [arrV_store]
  rfl
/-! the ends of a method -/
theorem e_qend {v : Option Value} {free : Addr → Prop} (J : e_J G s h H locs) : ∀ t : State, t.heap = H → s.WarmedH t.vm → e_Q G h v args s (.returned v) t := fun t ht _ => ⟨rfl, by rw [ht]; exact J.1, J.2.F ht⟩
theorem e_iret (E : e_M G p s args m meth c cc nL (some .int) own) (J : e_J G s h H locs) {v : Int32} (hdg : decode cc pc = .ok (.ireturn, 1)) : W p l e R s m args below meth c H locs cells slots (MQ below (e_Q G h (some (.int v))) args s cells slots (e_A G)) (F0 m pc ls [.int v]) := by
  obtain ⟨hx, hb, hr, -, -, -, hlocks, -, -⟩ := E
  exact W.iret hx hb hr (e_qend (free := e_A G) J) J.2.2.2 hdg hlocks
theorem e_zret (E : e_M G p s args m meth c cc nL (some .boolean) own) (J : e_J G s h H locs) {v : Int32} (b : Bool) (hv : v = e_b b) (hdg : decode cc pc = .ok (.ireturn, 1)) : W p l e R s m args below meth c H locs cells slots (MQ below (e_Q G h (some (.int (e_b b)))) args s cells slots (e_A G)) (F0 m pc ls [.int v]) := by
  obtain ⟨hx, hb, hr, -, -, -, hlocks, -, -⟩ := E
  subst hv
  exact W.zret hx hb hr (by cases b <;> rfl) (e_qend (free := e_A G) J) J.2.2.2 hdg hlocks
theorem e_lret (E : e_M G p s args m meth c cc nL (some .long) own) (J : e_J G s h H locs) {v : Int64} (hdg : decode cc pc = .ok (.lreturn, 1)) : W p l e R s m args below meth c H locs cells slots (MQ below (e_Q G h (some (.long v))) args s cells slots (e_A G)) (F0 m pc ls [.long v]) := by
  obtain ⟨hx, hb, hr, -, -, -, hlocks, -, -⟩ := E
  exact W.lret hx hb hr (e_qend (free := e_A G) J) J.2.2.2 hdg hlocks
theorem e_vret (E : e_M G p s args m meth c cc nL none own) (J : e_J G s h H locs) (hdg : decode cc pc = .ok (.return_, 1)) : W p l e R s m args below meth c H locs cells slots (MQ below (e_Q G h none) args s cells slots (e_A G)) (F0 m pc ls []) := by
  obtain ⟨hx, hb, hr, -, -, -, hlocks, -, -⟩ := E
  exact W.vret hx hb hr (e_qend (free := e_A G) J) J.2.2.2 hdg hlocks
theorem e_aretQ {rt : FieldType} (E : e_M G p s args m meth c cc nL (some rt) own) (J : e_J G s h H locs) (hrt : (∃ n, rt = .object n) ∨ ∃ t, rt = .array t) {k : Nat} (hdg : decode cc pc = .ok (.areturn, 1)) : W p l e R s m args below meth c H locs cells slots (MQ below (e_Q G h (some (e_r G (some k)))) args s cells slots (e_A G)) (F0 m pc ls [.ref (e_ad G k)]) := by
  obtain ⟨hx, hb, hr, -, -, -, hlocks, -, -⟩ := E
  exact W.aret (v := .ref (e_ad G k)) hx hb hr hrt (Or.inr ⟨_, rfl⟩) (e_qend (free := e_A G) J) J.2.2.2 hdg hlocks
theorem e_aretN {rt : FieldType} (E : e_M G p s args m meth c cc nL (some rt) own) (J : e_J G s h H locs) (hrt : (∃ n, rt = .object n) ∨ ∃ t, rt = .array t) (hdg : decode cc pc = .ok (.areturn, 1)) : W p l e R s m args below meth c H locs cells slots (MQ below (e_Q G h (some (e_r G none))) args s cells slots (e_A G)) (F0 m pc ls [.null]) := by
  obtain ⟨hx, hb, hr, -, -, -, hlocks, -, -⟩ := E
  exact W.aret (v := .null) hx hb hr hrt (Or.inl rfl) (e_qend (free := e_A G) J) J.2.2.2 hdg hlocks
/-! calls -/
theorem e_go {v : Option Value} {h1 : e_H} {a : Array Value} {st0 st1 : List Value} {mc ms : Nat} (hr : va_Run p l e R s m args below meth c H locs cells slots mc ms (F0 m pc ls st0) rest (e_Q G h1 v a) (e_A G)) (J : e_J G s h H locs) (hs : v.toList ++ rest = st1)
    (kk : ∀ (H1 : Heap) (locs1 : List Loc), e_J G s h1 H1 locs1 → W p l e R s m args below meth c H1 locs1 (cells + mc) (slots + ms) Q (F0 m (pc + 3) ls st1)) : W p l e R s m args below meth c H locs cells slots Q (F0 m pc ls st0) := by
  intro T hT X
  obtain ⟨w, st₀, t, T', L, h0, X', hL, e1, e2, ⟨hv, hP, hz, hk⟩, st⟩ := hr T hT X
  cases hv
  rw [h0] at hz hk
  subst hs
  obtain ⟨t2, a1, b1⟩ := kk T'.heap (locs ++ L) ⟨by rw [e1]; exact hP, Nat.le_trans J.2.1 (by rw [e1]; exact hz), fun q h1 h2 => by rw [e1, hk q (Nat.lt_of_lt_of_le h1 J.2.1) h2]; exact J.2.2.1 q h1 h2, fun q hq => by
      rcases List.mem_append.mp hq with h | h
      · exact J.2.2.2 q h
      · exact hL q h⟩ T' rfl X'
  exact ⟨t2, st t2 a1, b1⟩
theorem e_pre (E : e_M G p s args m meth c cc nL ret own) (J : e_J G s h H locs) (As : List Value) : ∀ U : State, U.heap = H → s.WarmedH U.vm → e_Pc G h As As.toArray U := by
  intro U hU hW
  obtain ⟨-, -, -, -, -, -, -, hS, -⟩ := E
  exact ⟨rfl, by rw [hU]; exact e_S.warm hW J.2 hS, by rw [hU]; exact J.1⟩
theorem e_callV (E : e_M G p s args m meth c cc nL ret own) (J : e_J G s h H locs) {k ci : Nat} {fs : List Value} {r : vw_C} (hk : o_obj h k ci = some fs) (hc : vwCl[ci]? = some r) {y : MethodName} {bytes : ByteArray} {maxL index n f nl : Nat} {rt : Option FieldType} {v : Option Value} {h1 : e_H} {As st0 st1 : List Value}
    (hM : Met l y (e_W y bytes maxL rt) (e_rm f nl) (e_Pc G h (.ref (e_ad G k) :: As)) (e_Q G h1 v) 0 0 (e_A G))
    (w1 : Cond.methodLink own index y ∈ e_wl) (w2 : Cond.instanceMethod y ∈ e_wl) (w3 : Cond.selects r.1 y y ∈ e_wl) (w4 : Cond.initialized r.1 ∈ e_wl) (w5 : Cond.code y bytes maxL rt ∈ e_wl)
    (hd : y.cls = r.1 ∧ y.cls ≠ "java/lang/invoke/MethodHandle" ∧ y.cls ≠ "java/lang/invoke/VarHandle" ∧ (parseMethodDescriptor y.desc).map (fun d => d.parameters.length) = some n) (hn : As.length = n) (hR : f + 1 ≤ R.frames ∧ 8 + (maxL + 11) + nl ≤ R.locals)
    (hst : st0 = As.reverse ++ .ref (e_ad G k) :: rest) (hs : v.toList ++ rest = st1) (hl : ls.size = nL) (hW : (rest.map fun v => v.category).sum ≤ 8) (hdg : decode cc pc = .ok (.invokevirtual index, 3)) (hcs : cells ≤ R.cells ∧ slots ≤ R.slots)
    (kk : ∀ (H1 : Heap) (locs1 : List Loc), e_J G s h1 H1 locs1 → W p l e R s m args below meth c H1 locs1 cells slots Q (F0 m (pc + 3) ls st1)) : W p l e R s m args below meth c H locs cells slots Q (F0 m pc ls st0) := by
  have E0 := E
  obtain ⟨hx, hb, -, hml, hown, hts, -, hS, -⟩ := E0
  have hG : GoodIn e_wl (wsV own index r.1 y (e_W y bytes maxL rt)) := e_goodc w1 (e_goodc w2 (e_goodc w3 (e_goodc w4 (e_goodc w5 e_goods))))
  refine e_go (va_runV (As := As) (rest := rest) (C := r.1) ⟨hx, hb, hml, hown, hts⟩ hM (cwV n hts hG rfl rfl rfl hd hR) ⟨e_blind G h _, ?_, e_pre E J _⟩ rfl hn hl hst (lv_room hW) hdg hcs) J hs kk
  obtain ⟨r', h1, cell, g1, g2, g3, -⟩ := J.1.2 k _ (o_obj_spec hk)
  exact ⟨cell, g1, by rw [g3]; rfl, by rw [g2]; exact (hS.1.1 ci r hc).2.1⟩
theorem e_callS (E : e_M G p s args m meth c cc nL ret own) (J : e_J G s h H locs) {y : MethodName} {bytes : ByteArray} {maxL index n f nl : Nat} {rt : Option FieldType} {v : Option Value} {h1 : e_H} {As st0 st1 : List Value}
    (hM : Met l y (e_W y bytes maxL rt) (e_rm f nl) (e_Pc G h As) (e_Q G h1 v) 0 0 (e_A G))
    (w1 : Cond.methodLink own index y ∈ e_wl) (w2 : Cond.static y ∈ e_wl) (w4 : Cond.initialized y.cls ∈ e_wl) (w5 : Cond.code y bytes maxL rt ∈ e_wl)
    (hd : y.cls ≠ "java/lang/invoke/MethodHandle" ∧ y.cls ≠ "java/lang/invoke/VarHandle" ∧ (parseMethodDescriptor y.desc).map (fun d => d.parameters.length) = some n) (hn : As.length = n) (hR : f + 1 ≤ R.frames ∧ 8 + (maxL + 11) + nl ≤ R.locals)
    (hst : st0 = As.reverse ++ rest) (hs : v.toList ++ rest = st1) (hl : ls.size = nL) (hW : (rest.map fun v => v.category).sum ≤ 8) (hdg : decode cc pc = .ok (.invokestatic index, 3)) (hcs : cells ≤ R.cells ∧ slots ≤ R.slots)
    (kk : ∀ (H1 : Heap) (locs1 : List Loc), e_J G s h1 H1 locs1 → W p l e R s m args below meth c H1 locs1 cells slots Q (F0 m (pc + 3) ls st1)) : W p l e R s m args below meth c H locs cells slots Q (F0 m pc ls st0) := by
  have E0 := E
  obtain ⟨hx, hb, -, hml, hown, hts, -, hS, -⟩ := E0
  have hG : GoodIn e_wl (va_wsS own index y (e_W y bytes maxL rt)) := e_goodc w1 (e_goodc w2 (e_goodc w4 (e_goodc w5 e_goods)))
  exact e_go (va_runS (As := As) (rest := rest) ⟨hx, hb, hml, hown, hts⟩ hM (va_cwS n hts hG rfl rfl rfl hd hR) ⟨e_blind G h _, e_pre E J _⟩ rfl hn hl hst (lv_room hW) hdg hcs) J hs kk
theorem e_callSN (E : e_M G p s args m meth c cc nL ret own) (J : e_J G s h H locs) {y : MethodName} {bytes : ByteArray} {maxL index n f nl : Nat} {rt : Option FieldType} {v : Option Value} {h1 : e_H} {As st0 st1 : List Value} {host : String}
    (hM : Met l y (e_W y bytes maxL rt) (e_rm f nl) (e_Pc G h As) (e_Q G h1 v) 0 0 (e_A G))
    (w1 : (own, index, y, host) ∈ e_nl) (w2 : Cond.static y ∈ e_wl) (w4 : Cond.initialized y.cls ∈ e_wl) (w5 : Cond.code y bytes maxL rt ∈ e_wl)
    (hd : y.cls ≠ "java/lang/invoke/MethodHandle" ∧ y.cls ≠ "java/lang/invoke/VarHandle" ∧ (parseMethodDescriptor y.desc).map (fun d => d.parameters.length) = some n) (hn : As.length = n) (hR : f + 1 ≤ R.frames ∧ 8 + (maxL + 11) + nl ≤ R.locals)
    (hst : st0 = As.reverse ++ rest) (hs : v.toList ++ rest = st1) (hl : ls.size = nL) (hW : (rest.map fun v => v.category).sum ≤ 8) (hdg : decode cc pc = .ok (.invokestatic index, 3)) (hcs : cells ≤ R.cells ∧ slots ≤ R.slots)
    (kk : ∀ (H1 : Heap) (locs1 : List Loc), e_J G s h1 H1 locs1 → W p l e R s m args below meth c H1 locs1 cells slots Q (F0 m (pc + 3) ls st1)) : W p l e R s m args below meth c H locs cells slots Q (F0 m pc ls st0) := by
  have E0 := E
  obtain ⟨hx, hb, -, hml, hown, hts, -, hS, -⟩ := E0
  have hG : GoodIn e_wl (e_W y bytes maxL rt) := e_goodc w5 e_goods
  exact e_go (va_runSN (As := As) (rest := rest) ⟨hx, hb, hml, hown, hts⟩ hM ⟨va_cnB n hts hG rfl rfl rfl (hS.2.1 _ w1) (hts _ w4) hd hR, hts _ w2, trivial⟩ ⟨e_blind G h _, e_pre E J _⟩ rfl hn hl hst (lv_room hW) hdg hcs) J hs kk
end ER2
