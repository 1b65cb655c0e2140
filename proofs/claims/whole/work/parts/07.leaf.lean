section LF
variable {p : Program} {l : Launch} {e : Env} {R : Room} {s : State} {m : MethodId} {args : Array Value} {below : List Frame} {meth : Method} {c : Code} {H : Heap} {locs : List Loc} {cells slots : Nat} {Q : State → Prop}
variable {G : e_G} {cc : ByteArray} {nL : Nat} {ret : Option FieldType} {own : String} {pc : Nat} {ls : Array Slot} {rest : List Value} {h : e_H}
theorem e_tlen {ty : FieldType} {t N : Nat} {f : Nat → Value} {v : Int32} (hexec : p.tables.exec = Jvm.exec) (hb : c.code = cc) (hT : va_T ty t N f (e_A G) s s.heap) (hS : va_S (e_A G) s.heap H locs) (hv : Int32.ofNat N = v) (hdg : decode cc pc = .ok (.arraylength, 1))
    (kk : W p l e R s m args below meth c H locs cells slots Q (F0 m (pc + 1) ls (.int v :: rest))) : W p l e R s m args below meth c H locs cells slots Q (F0 m pc ls (.ref t :: rest)) := by
  obtain ⟨cell, h1, h2, h3, h4, h5, h6, h7⟩ := hT.kept hS.2.1
  exact W.alen hexec hb h1 h2 (h5.trans hv) rfl rfl hdg kk
theorem e_tiald {t N : Nat} {f : Nat → Int32} {i : Int32} (hexec : p.tables.exec = Jvm.exec) (hb : c.code = cc) (hT : va_T .int t N (fun j => .int (f j)) (e_A G) s s.heap) (hS : va_S (e_A G) s.heap H locs) (h0 : ¬ i < 0) (hj : i.toNatClampNeg < N) (hdg : decode cc pc = .ok (.iaload, 1))
    (kk : W p l e R s m args below meth c H locs cells slots Q (F0 m (pc + 1) ls (.int (f i.toNatClampNeg) :: rest))) : W p l e R s m args below meth c H locs cells slots Q (F0 m pc ls (.int i :: .ref t :: rest)) := by
  obtain ⟨cell, h1, h2, h3, h4, h5, h6, h7⟩ := hT.kept hS.2.1
  refine W.iald (v := .int (f i.toNatClampNeg)) hexec hb h1 h2 h3 (fun q => ?_) (h6 _ hj) rfl rfl hdg kk
  rcases q with q | q
  · exact h0 q
  · omega
end LF
theorem e_if1 {α : Type} {c : Prop} {inst : Decidable c} {b : Option α} {y : α} (h : (@ite (Option α) c inst b none) = some y) : c ∧ b = some y := by
  by_cases hc : c
  · rw [if_pos hc] at h; exact ⟨hc, h⟩
  · rw [if_neg hc] at h; cases h
section LF2
variable {p : Program} {l : Launch} {e : Env} {R : Room} {s : State} {m : MethodId} {args : Array Value} {below : List Frame} {meth : Method} {c : Code} {H : Heap} {locs : List Loc} {cells slots : Nat} {Q : State → Prop}
variable {G : e_G} {cc : ByteArray} {nL : Nat} {ret : Option FieldType} {own : String} {pc : Nat} {ls : Array Slot} {rest : List Value} {h : e_H}
theorem e_tbald {t N : Nat} {f : Nat → Int32} {i : Int32} (hexec : p.tables.exec = Jvm.exec) (hb : c.code = cc) (hT : va_T .byte t N (fun j => .int (f j)) (e_A G) s s.heap) (hS : va_S (e_A G) s.heap H locs) (h0 : ¬ i < 0) (hj : i.toNatClampNeg < N) (hdg : decode cc pc = .ok (.baload, 1))
    (kk : W p l e R s m args below meth c H locs cells slots Q (F0 m (pc + 1) ls (.int (f i.toNatClampNeg) :: rest))) : W p l e R s m args below meth c H locs cells slots Q (F0 m pc ls (.int i :: .ref t :: rest)) := by
  obtain ⟨cell, h1, h2, h3, h4, h5, h6, h7⟩ := hT.kept hS.2.1
  refine W.bald (v := .int (f i.toNatClampNeg)) hexec hb h1 h2 h3 (fun q => ?_) (h6 _ hj) rfl rfl hdg kk
  rcases q with q | q
  · exact h0 q
  · omega
theorem e_nret {ty : FieldType} (E : e_M G p s args m meth c cc nL (some ty) own) (J : e_J G s h H locs) {v : Int32} (hn : narrow ty (.int v) = .int v) (hdg : decode cc pc = .ok (.ireturn, 1)) : W p l e R s m args below meth c H locs cells slots (MQ below (e_Q G h (some (.int v))) args s cells slots (e_A G)) (F0 m pc ls [.int v]) := by
  obtain ⟨hx, hb, hr, -, -, -, hlocks, -, -⟩ := E
  exact W.zret hx hb hr hn (e_qend (free := e_A G) J) J.2.2.2 hdg hlocks
theorem e_callVS (E : e_M G p s args m meth c cc nL ret own) (J : e_J G s h H locs) {k : Nat} (hk : k < 13) {y : MethodName} {bytes : ByteArray} {maxL index n f nl : Nat} {rt : Option FieldType} {v : Option Value} {h1 : e_H} {As st0 st1 : List Value}
    (hM : Met l y (e_W y bytes maxL rt) (e_rm f nl) (e_Pc G h (.ref (G.2.2.2.2.1 k) :: As)) (e_Q G h1 v) 0 0 (e_A G))
    (w1 : Cond.methodLink own index y ∈ e_wl) (w2 : Cond.instanceMethod y ∈ e_wl) (w3 : Cond.selects RJ0 y y ∈ e_wl) (w4 : Cond.initialized RJ0 ∈ e_wl) (w5 : Cond.code y bytes maxL rt ∈ e_wl)
    (hd : y.cls = RJ0 ∧ y.cls ≠ "java/lang/invoke/MethodHandle" ∧ y.cls ≠ "java/lang/invoke/VarHandle" ∧ (parseMethodDescriptor y.desc).map (fun d => d.parameters.length) = some n) (hn : As.length = n) (hR : f + 1 ≤ R.frames ∧ 8 + (maxL + 11) + nl ≤ R.locals)
    (hst : st0 = As.reverse ++ .ref (G.2.2.2.2.1 k) :: rest) (hs : v.toList ++ rest = st1) (hl : ls.size = nL) (hW : (rest.map fun v => v.category).sum ≤ 8) (hdg : decode cc pc = .ok (.invokevirtual index, 3)) (hcs : cells ≤ R.cells ∧ slots ≤ R.slots)
    (kk : ∀ (H1 : Heap) (locs1 : List Loc), e_J G s h1 H1 locs1 → W p l e R s m args below meth c H1 locs1 cells slots Q (F0 m (pc + 3) ls st1)) : W p l e R s m args below meth c H locs cells slots Q (F0 m pc ls st0) := by
  have E0 := E
  obtain ⟨hx, hb, -, hml, hown, hts, -, hS, -⟩ := E0
  have hG : GoodIn e_wl (wsV own index RJ0 y (e_W y bytes maxL rt)) := e_goodc w1 (e_goodc w2 (e_goodc w3 (e_goodc w4 (e_goodc w5 e_goods))))
  exact e_go (va_runV (As := As) (rest := rest) (C := RJ0) ⟨hx, hb, hml, hown, hts⟩ hM (cwV n hts hG rfl rfl rfl hd hR) ⟨e_blind G h _, vk_recv hS.2.2.2.2.2.1 hk J.2, e_pre E J _⟩ rfl hn hl hst (lv_room hW) hdg hcs) J hs kk
end LF2
def e_F (c k : Nat) : Nat → Nat
  | 0 => c
  | n + 1 => e_F c k n + k
theorem e_Fle (c k : Nat) : ∀ n, c ≤ e_F c k n
  | 0 => Nat.le_refl _
  | n + 1 => Nat.le_trans (e_Fle c k n) (Nat.le_add_right _ _)
