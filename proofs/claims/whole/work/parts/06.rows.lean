theorem e_i32 {x y : Int32} (h : x.toInt = y.toInt) : x = y := Int32.toInt_inj.mp h
theorem e_lout : ∀ {ps : List (Int × Int)} {dflt k : Int}, (∀ q ∈ ps, q.1 ≠ k) → Op.lookupswitch.offset ps dflt k = dflt
  | [], _, _, _ => rfl
  | (a, o) :: r, dflt, k, h => by
    rw [Op.lookupswitch.offset_cons, if_neg (h (a, o) List.mem_cons_self)]
    exact e_lout fun q hq => h q (List.mem_cons_of_mem _ hq)
def o_ix (i j : Int32) : Int32 := if i < 0 then -1 else if 5 ≤ i then -1 else if j < 0 then -1 else if 4 - i < j then -1 else e_fx i.toNatClampNeg + j
def o_sn (i : Nat) : Nat := e_sn.getD i 0
def o_sb (i j : Nat) : Int32 := (e_sb.getD i []).getD j 0
section ER3
variable {p : Program} {l : Launch} {e : Env} {R : Room} {s : State} {m : MethodId} {args : Array Value} {below : List Frame} {meth : Method} {c : Code} {H : Heap} {locs : List Loc} {cells slots : Nat} {Q : State → Prop}
variable {G : e_G} {cc : ByteArray} {nL : Nat} {ret : Option FieldType} {own : String} {pc : Nat} {ls : Array Slot} {rest : List Value} {h : e_H}
theorem e_tin (hexec : p.tables.exec = Jvm.exec) (hb : c.code = cc) {dflt lo hi : Int} {offs : Array Int} {len : Nat} {x y : Int32} {off : Int} {tgt : Nat} (hdg : decode cc pc = .ok (.tableswitch dflt lo hi offs, len)) (hxy : x = y) (h1 : ¬ y.toInt < lo) (h2 : ¬ hi < y.toInt) (ho : offs[(y.toInt - lo).toNat]? = some off) (ht : (pc : Int) + off = (tgt : Int)) (k : W p l e R s m args below meth c H locs cells slots Q (F0 m tgt ls rest)) : W p l e R s m args below meth c H locs cells slots Q (F0 m pc ls (.int x :: rest)) := by
  subst hxy
  exact lv_tableIn hexec hb hdg h1 h2 ho ht k
theorem e_lin (hexec : p.tables.exec = Jvm.exec) (hb : c.code = cc) {dflt : Int} {ps : Array (Int × Int)} {len : Nat} {x y : Int32} {off : Int} {tgt : Nat} (hdg : decode cc pc = .ok (.lookupswitch dflt ps, len)) (hxy : x = y) (hp : (ps.toList.zip (ps.toList.drop 1)).all (fun (a, next) => a.1 < next.1) = true) (ho : Op.lookupswitch.offset ps.toList dflt y.toInt = off) (ht : (pc : Int) + off = (tgt : Int)) (k : W p l e R s m args below meth c H locs cells slots Q (F0 m tgt ls rest)) : W p l e R s m args below meth c H locs cells slots Q (F0 m pc ls (.int x :: rest)) := by
  subst hxy
  exact lv_lookup hexec hb hdg hp ho ht k
theorem e_enter {y : MethodName} {rm : Room} {s₁ : State} {maxL : Nat} (B : BodyLoose p l y (headSpec (e_W y cc maxL ret) rm) cc maxL ret e s m args below meth c s₁) (hml : c.maxLocals = maxL) (hown : y.cls = own) (hS : e_S G s s.heap) (hP : e_P G h s.heap) : e_M G p s args m meth c cc maxL ret own := by
  have hts := atoms_spec (ws := e_W y cc maxL ret) B.pre
  refine ⟨B.exec, B.bytes, B.returns, hml, ?_, fun w hw => hts w (List.mem_cons_of_mem _ hw), B.notSynchronized, hS, by rw [hP.1]; omega⟩
  rw [← hown]
  exact findClass_of_methodNamed B.named
theorem e_aretS {rt : FieldType} (E : e_M G p s args m meth c cc nL (some rt) own) (J : e_J G s h H locs) (hrt : (∃ n, rt = .object n) ∨ ∃ t, rt = .array t) {q : Nat} (hdg : decode cc pc = .ok (.areturn, 1)) : W p l e R s m args below meth c H locs cells slots (MQ below (e_Q G h (some (.ref q))) args s cells slots (e_A G)) (F0 m pc ls [.ref q]) := by
  obtain ⟨hx, hb, hr, -, -, -, hlocks, -, -⟩ := E
  exact W.aret (v := .ref q) hx hb hr hrt (Or.inr ⟨_, rfl⟩) (e_qend (free := e_A G) J) J.2.2.2 hdg hlocks
theorem e_copy (E : e_M G p s args m meth c cc nL ret own) (J : e_J G s h H locs) {a0 a : Nat} {sp dp n : Int32} {h1 : e_H} (hv : o_cpy h a0 sp a dp n = some h1) {index : Nat} (w1 : Cond.methodLink own index arraycopyName ∈ e_wl) (w2 : Cond.native arraycopyName ∈ e_wl) (w3 : Cond.static arraycopyName ∈ e_wl) (w4 : Cond.initialized "java/lang/System" ∈ e_wl) (hsz : ls.size = nL)
    (hframes : 1 ≤ R.frames) (hlocals : (rest.map fun v => v.category).sum + (nativeFrameWords "java/lang/System" "arraycopy" 5 + 11) ≤ R.locals) (hdg : decode cc pc = .ok (.invokestatic index, 3))
    (kk : ∀ (H1 : Heap) (locs1 : List Loc), e_J G s h1 H1 locs1 → W p l e R s m args below meth c H1 locs1 cells slots Q (F0 m (pc + 3) ls rest)) : W p l e R s m args below meth c H locs cells slots Q (F0 m pc ls (.int n :: .int dp :: .ref (e_ad G a) :: .int sp :: .ref (e_ad G a0) :: rest)) := by
  obtain ⟨⟨n0, f⟩, g1, g2⟩ := e_bs hv
  obtain ⟨⟨n1, g⟩, g3, g4⟩ := e_bs g2
  obtain ⟨hn, g5⟩ := e_if0 g4
  obtain rfl := e_so g5
  have h1 : ¬ sp < 0 := fun z => hn (Or.inl z)
  have h2 : ¬ dp < 0 := fun z => hn (Or.inr (Or.inl z))
  have h3 : ¬ n < 0 := fun z => hn (Or.inr (Or.inr (Or.inl z)))
  have h4 : sp.toNatClampNeg + n.toNatClampNeg ≤ n0 := Nat.not_lt.mp fun z => hn (Or.inr (Or.inr (Or.inr (Or.inl z))))
  have h5 : dp.toNatClampNeg + n.toNatClampNeg ≤ n1 := Nat.not_lt.mp fun z => hn (Or.inr (Or.inr (Or.inr (Or.inr z))))
  have nn : ∀ z : Int32, ¬ z < 0 → z.toInt = (z.toNatClampNeg : Int) := by
    intro z hz
    have hz0 : (0 : Int) ≤ z.toInt := by
      have := Int32.not_lt.mp hz
      simpa using Int32.le_iff_toInt_le.mp this
    show z.toInt = ((z.toInt.toNat : Nat) : Int)
    omega
  obtain ⟨hx, hb, -, hml, hown, hts, -, hS, -⟩ := E
  have he0 := o_rowI_spec g1
  have he1 := o_rowI_spec g3
  have hc0 : H[e_ad G a0]? = some (vp_cell (G.2.1 0) (n0, .inl f)) := J.1.2 a0 _ he0
  have hc1 : H[e_ad G a]? = some (vp_cell (G.2.1 0) (n1, .inl g)) := J.1.2 a _ he1
  intro T hT X
  obtain ⟨-, k0, hk0, cm0, hkk0⟩ := (hS.1.2 0 _ rfl).1 n0 (fun j => .int (f j))
  obtain ⟨-, k1, hk1, cm1, hkk1⟩ := (hS.1.2 0 _ rfl).1 n1 (fun j => .int (g j))
  obtain ⟨vm', X', step⟩ := X.arraycopy hx hown (hts _ w1) (hts _ w2) (hts _ w3) (hts _ w4) (src := e_ad G a0) (dst := e_ad G a) (cs := vp_cell (G.2.1 0) (n0, .inl f)) (cd := vp_cell (G.2.1 0) (n1, .inl g)) (srcPos := sp) (destPos := dp) (n := n) (by rw [hT]; exact hc0) (by rw [hT]; exact hc1)
    (fun _ h => by cases h) (fun _ h => by cases h) (fun h => by cases h) (fun h => by cases h) hk0 hk1 hkk0 hkk1 rfl h1 h2 h3
    (by rw [nn sp h1, nn n h3]; show ¬ _ > ((arrV (G.2.1 0) n0 (fun j => .int (f j))).slots.size : Int); rw [arrV_size]; omega)
    (by rw [nn dp h2, nn n h3]; show ¬ _ > ((arrV (G.2.1 0) n1 (fun j => .int (g j))).slots.size : Int); rw [arrV_size]; omega)
    (fun vm₁ _ i hi => by
      have e : (vp_cell (G.2.1 0) (n0, .inl f)).slots.getD (sp.toNatClampNeg + i) .null = .int (f (sp.toNatClampNeg + i)) := by
        show (arrV (G.2.1 0) n0 (fun j => .int (f j))).slots.getD _ _ = _
        rw [Array.getD_eq_getD_getElem?, arrV_read _ _ (by omega)]
        rfl
      refine ⟨?_, ?_⟩
      · rw [e]
        rfl
      · rw [e]
        exact trivial)
    (g := F0 m pc ls (.int n :: .int dp :: .ref (e_ad G a) :: .int sp :: .ref (e_ad G a0) :: rest)) rfl (by show ls.size = c.maxLocals; rw [hml]; exact hsz) (rest := rest) rfl (by rw [hb]; exact hdg) hframes (by show 2 * 0 + _ + _ ≤ _; omega)
  have e1 : copied (vp_cell (G.2.1 0) (n0, .inl f)) (vp_cell (G.2.1 0) (n1, .inl g)) sp dp n = vp_cell (G.2.1 0) (n1, .inl (va_cpy f g sp.toNatClampNeg dp.toNatClampNeg n.toNatClampNeg)) := va_copied (fun z => .int z) (G.2.1 0) (G.2.1 0) f g h4
  rw [e1] at X' step
  have hl : e_ad G a < H.size := (Array.getElem?_eq_some_iff.mp hc1).1
  have hheap : ((T.setVm vm').setCell (e_ad G a) (vp_cell (G.2.1 0) (n1, .inl (va_cpy f g sp.toNatClampNeg dp.toNatClampNeg n.toNatClampNeg)))).heap = H.setIfInBounds (e_ad G a) (vp_cell (G.2.1 0) (n1, .inl (va_cpy f g sp.toNatClampNeg dp.toNatClampNeg n.toNatClampNeg))) := by rw [← hT]; rfl
  have oq : ∀ q : Nat, q ≠ e_ad G a → (H.setIfInBounds (e_ad G a) (vp_cell (G.2.1 0) (n1, .inl (va_cpy f g sp.toNatClampNeg dp.toNatClampNeg n.toNatClampNeg))))[q]? = H[q]? := fun q hq => by simp [Array.getElem?_setIfInBounds, Ne.symm hq]
  have J0 := J.set (j := 0) he1 (e := .inl (0, n1, .inl (va_cpy f g sp.toNatClampNeg dp.toNatClampNeg n.toNatClampNeg))) (by simp) oq (show (H.setIfInBounds (e_ad G a) _)[e_ad G a]? = some _ by simp [Array.getElem?_setIfInBounds, hl]; rfl)
  obtain ⟨t, a1, b1⟩ := kk _ _ (⟨J0.1, J0.2.1, J0.2.2.1, fun q hq => by
      rcases List.mem_append.mp hq with h | h
      · exact J.2.2.2 q h
      · obtain ⟨z, -, hz⟩ := List.mem_map.mp h
        rw [← hz]
        exact e_A_ad G a⟩) _ hheap X'
  exact ⟨t, step t a1, b1⟩
end ER3
