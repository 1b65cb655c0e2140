/-! the abstract heap: a row of cells; a reference is told by its place in the row -/
abbrev e_H : Type := List va_E
abbrev e_G : Type := va_G × (Nat → ClassId) × Nat × Nat × (Nat → Nat) × (Nat → Nat)
def e_ad (G : e_G) (k : Nat) : Nat := G.2.2.1 + k
def e_v (G : e_G) (v : Value) : Value := match v with
  | .ref k => .ref (e_ad G k)
  | w => w
def e_r (G : e_G) (r : Option Nat) : Value := va_rf (r.map (e_ad G))
def e_a (G : e_G) (a : vp_A) : vp_A := match a with
  | (n, .inl f) => (n, .inl f)
  | (n, .inr (.inl f)) => (n, .inr (.inl f))
  | (n, .inr (.inr (.inl f))) => (n, .inr (.inr (.inl f)))
  | (n, .inr (.inr (.inr (.inl f)))) => (n, .inr (.inr (.inr (.inl f))))
  | (n, .inr (.inr (.inr (.inr f)))) => (n, .inr (.inr (.inr (.inr (fun j => (f j).map (e_ad G))))))
def e_e (G : e_G) (e : va_E) : va_E := match e with
  | .inl a => .inl (G.2.1 a.1, e_a G a.2)
  | .inr o => .inr (o.1, o.2.map (e_v G))
def e_P (G : e_G) (h : e_H) (H : Heap) : Prop := H.size = G.2.2.1 + h.length ∧ ∀ (k : Nat) (e : va_E), h[k]? = some e → va_at G.1 vwCl (e_ad G k, e_e G e) H
def e_A (G : e_G) : Nat → Prop := fun q => G.2.2.1 ≤ q
def e_J (G : e_G) (s : State) (h : e_H) (H : Heap) (locs : List Loc) : Prop := e_P G h H ∧ va_S (e_A G) s.heap H locs
def e_tys (G : e_G) : List (ClassId × FieldType) := [(G.2.1 0, .int), (G.2.1 1, .long), (G.2.1 2, .char), (G.2.1 3, .boolean), (G.2.1 4, .object RX0), (G.2.1 5, .object RX1), (G.2.1 6, .object RX2), (G.2.1 7, .object RX4), (G.2.1 8, .object RX3)]
def e_el (t : Nat) : Nat := if t = 4 then 0 else if t = 5 then 1 else if t = 6 then 2 else if t = 7 then 4 else 3
def e_fx (j : Nat) : Int32 := if j = 0 then 0 else if j = 1 then 5 else if j = 2 then 9 else if j = 3 then 12 else 14
-- links into a nest mate: own name, place, method, host
def e_nl : List (String × Nat × MethodName × String) := [(RX7, 37, yX0_init, RX8), (RX8, 33, yX5_init, RX8), (RX8, 62, yX2_init, RX8), (RX8, 63, yX4_init, RX8), (RX0, 19, yX8_indexOf, RX8), (RX4, 20, yX0_init, RX8), (RX4, 27, yX2_init, RX8), (RX6, 144, yX8_held, RX8), (RX6, 45, yX3_init, RX8), (RX6, 46, yX8_indexOf, RX8), (RX7, 82, yX8_held, RX8)]
def e_al : List String := [RX0, RX1, RX2, RX4, RX3]
-- the String constants: place in the pool, text, bytes
def e_sl : List (Nat × String) := [(70, "term"), (72, "slope"), (74, "mark"), (120, "!"), (134, "ijc"), (136, "tm"), (138, "xym"), (132, ")"), (94, "|"), (96, "&"), (98, "<=>"), (100, "+-"), (102, "*/")]
def e_sn : List Nat := [4, 5, 4, 1, 3, 2, 3, 1, 1, 1, 3, 2, 2]
def e_sb : List (List Int32) := [[116, 101, 114, 109], [115, 108, 111, 112, 101], [109, 97, 114, 107], [33], [105, 106, 99], [116, 109], [120, 121, 109], [41], [124], [38], [60, 61, 62], [43, 45], [42, 47]]
def e_S (G : e_G) (U : State) (H : Heap) : Prop :=
  va_K G.1 vwCl (e_tys G) U ∧ (∀ q ∈ e_nl, va_Nw (.methodLinkNest q.1 q.2.1 q.2.2.1 q.2.2.2) U) ∧ (∀ C ∈ e_al, va_AO C U) ∧
  va_Z RX8 "FIRST_OF_X" "[I" (.ref G.2.2.2.1) (e_A G) U H ∧ va_T .int G.2.2.2.1 5 (fun j => .int (e_fx j)) (e_A G) U H ∧
  vk_S 13 e_sn e_sb G.2.2.2.2.1 G.2.2.2.2.2 (e_A G) U H ∧ (∀ (i : Nat) (q : Nat × String), e_sl[i]? = some q → vk_R RX5 q.1 q.2 (G.2.2.2.2.1 i) U) ∧
  va_Z "java/lang/String" "COMPACT_STRINGS" "Z" (.int 1) (e_A G) U H ∧ va_Zq "jdk/internal/util/Preconditions" "SIOOBE_FORMATTER" "Ljava/util/function/BiFunction;" (e_A G) U H
def e_M (G : e_G) (p : Program) (s : State) (args : Array Value) (m : MethodId) (meth : Method) (c : Code) (cc : ByteArray) (nL : Nat) (ret : Option FieldType) (own : String) : Prop :=
  p.tables.exec = Jvm.exec ∧ c.code = cc ∧ meth.sig.returnType = ret ∧ c.maxLocals = nL ∧ s.vm.findClass own = some m.cls ∧ (∀ w ∈ e_wl, w.before args s = true) ∧ meth.locks = false ∧ e_S G s s.heap ∧ G.2.2.1 ≤ s.heap.size
def e_W (y : MethodName) (cc : ByteArray) (nL : Nat) (ret : Option FieldType) : List Cond := .code y cc nL ret :: e_wl
def e_rm (f n : Nat) : Room := { frames := f, cells := 0, slots := 0, locals := n }
def e_rc (f n k w : Nat) : Room := { frames := f, cells := k, slots := w, locals := n }
def e_Pc (G : e_G) (h : e_H) (av : List Value) : Array Value → State → Prop := va_Pc av (fun U => e_S G U U.heap ∧ e_P G h U.heap)
def e_Q (G : e_G) (h : e_H) (v : Option Value) : Array Value → State → Outcome → State → Prop := fun _ st oc t => oc = .returned v ∧ e_P G h t.heap ∧ va_F (e_A G) st t
/-! what the shallow programs do with the row -/
def o_obj (h : e_H) (a ci : Nat) : Option (List Value) := match h[a]? with
  | some (.inr o) => if o.1 = ci then some o.2 else none
  | _ => none
def o_get (h : e_H) (a ci k : Nat) : Option Value := (o_obj h a ci).bind fun fs => fs[k]?
def o_asI (v : Value) : Option Int32 := match v with
  | .int x => some x
  | _ => none
def o_asR (v : Value) : Option (Option Nat) := match v with
  | .ref x => some (some x)
  | .null => some none
  | _ => none
def o_getI (h : e_H) (a ci k : Nat) : Option Int32 := (o_get h a ci k).bind o_asI
def o_getR (h : e_H) (a ci k : Nat) : Option (Option Nat) := (o_get h a ci k).bind o_asR
def o_put (h : e_H) (a ci k : Nat) (v : Value) : Option e_H := (o_obj h a ci).bind fun fs => if k < fs.length then some (h.set a (.inr (ci, fs.set k v))) else none
def o_arr (h : e_H) (a t : Nat) : Option vp_A := match h[a]? with
  | some (.inl x) => if x.1 = t then some x.2 else none
  | _ => none
def o_len (h : e_H) (a t : Nat) : Option Int32 := (o_arr h a t).bind fun x => some (Int32.ofNat x.1)
def o_rowI (h : e_H) (a t : Nat) : Option (Nat × (Nat → Int32)) := (o_arr h a t).bind fun x => match x with
  | (n, .inl f) => some (n, f)
  | _ => none
def o_rowL (h : e_H) (a t : Nat) : Option (Nat × (Nat → Int64)) := (o_arr h a t).bind fun x => match x with
  | (n, .inr (.inl f)) => some (n, f)
  | _ => none
def o_rowR (h : e_H) (a t : Nat) : Option (Nat × (Nat → Option Nat)) := (o_arr h a t).bind fun x => match x with
  | (n, .inr (.inr (.inr (.inr f)))) => some (n, f)
  | _ => none
def o_ldI (h : e_H) (a t : Nat) (i : Int32) : Option Int32 := (o_rowI h a t).bind fun x => if i < 0 ∨ x.1 ≤ i.toNatClampNeg then none else some (x.2 i.toNatClampNeg)
def o_ldL (h : e_H) (a t : Nat) (i : Int32) : Option Int64 := (o_rowL h a t).bind fun x => if i < 0 ∨ x.1 ≤ i.toNatClampNeg then none else some (x.2 i.toNatClampNeg)
def o_ldR (h : e_H) (a t : Nat) (i : Int32) : Option (Option Nat) := (o_rowR h a t).bind fun x => if i < 0 ∨ x.1 ≤ i.toNatClampNeg then none else some (x.2 i.toNatClampNeg)
def o_stI (h : e_H) (a t : Nat) (i x : Int32) : Option e_H := (o_rowI h a t).bind fun z => if i < 0 ∨ z.1 ≤ i.toNatClampNeg then none else some (h.set a (.inl (t, z.1, .inl (upd z.2 i.toNatClampNeg x))))
def o_stL (h : e_H) (a t : Nat) (i : Int32) (x : Int64) : Option e_H := (o_rowL h a t).bind fun z => if i < 0 ∨ z.1 ≤ i.toNatClampNeg then none else some (h.set a (.inl (t, z.1, .inr (.inl (vp_updL z.2 i.toNatClampNeg x)))))
def o_stQ (h : e_H) (a t : Nat) (i : Int32) (v : Nat) : Option e_H := (o_rowR h a t).bind fun z => if i < 0 ∨ z.1 ≤ i.toNatClampNeg then none else (o_obj h v (e_el t)).bind fun _ => some (h.set a (.inl (t, z.1, .inr (.inr (.inr (.inr (va_up z.2 i.toNatClampNeg (some v))))))))
def o_stN (h : e_H) (a t : Nat) (i : Int32) : Option e_H := (o_rowR h a t).bind fun z => if i < 0 ∨ z.1 ≤ i.toNatClampNeg then none else some (h.set a (.inl (t, z.1, .inr (.inr (.inr (.inr (va_up z.2 i.toNatClampNeg none)))))))
def o_cpy (h : e_H) (a : Nat) (sp : Int32) (b : Nat) (dp n : Int32) : Option e_H := (o_rowI h a 0).bind fun x => (o_rowI h b 0).bind fun y => if sp < 0 ∨ dp < 0 ∨ n < 0 ∨ x.1 < sp.toNatClampNeg + n.toNatClampNeg ∨ y.1 < dp.toNatClampNeg + n.toNatClampNeg then none else some (h.set b (.inl (0, y.1, .inl (va_cpy x.2 y.2 sp.toNatClampNeg dp.toNatClampNeg n.toNatClampNeg))))
def o_zero (t N : Nat) : va_E := if t = 1 then .inl (t, N, .inr (.inl fun _ => 0)) else if t < 4 then .inl (t, N, .inl fun _ => 0) else .inl (t, N, .inr (.inr (.inr (.inr fun _ => none))))
def o_newA (h : e_H) (t : Nat) (n : Int32) (top : Nat) : Option (Nat × e_H) := if n < 0 ∨ top < n.toNatClampNeg then none else some (h.length, h ++ [o_zero t n.toNatClampNeg])
def o_newO (h : e_H) (ci : Nat) (fs : List Value) : Nat × e_H := (h.length, h ++ [.inr (ci, fs)])
def e_b (b : Bool) : Int32 := if b then 1 else 0
def e_on {α : Type} (r : Option Nat) (a : α) (f : Nat → α) : α := match r with
  | none => a
  | some k => f k
theorem e_bs {α β : Type} {x : Option α} {f : α → Option β} {y : β} (h : x.bind f = some y) : ∃ a, x = some a ∧ f a = some y := Option.bind_eq_some_iff.mp h
theorem e_ip {α : Type} {c : Prop} {inst : Decidable c} {a b : α} {y : α} (hc : c) (h : (@ite α c inst a b) = y) : a = y := by rw [if_pos hc] at h; exact h
theorem e_in {α : Type} {c : Prop} {inst : Decidable c} {a b : α} {y : α} (hc : ¬ c) (h : (@ite α c inst a b) = y) : b = y := by rw [if_neg hc] at h; exact h
theorem e_on0 {α : Type} {a : α} {f : Nat → α} {y : α} (h : e_on none a f = y) : a = y := h
theorem e_on1 {α : Type} {k : Nat} {a : α} {f : Nat → α} {y : α} (h : e_on (some k) a f = y) : f k = y := h
theorem e_no {α : Type} {P : Prop} {y : α} (h : (none : Option α) = some y) : P := by cases h
theorem e_so {α : Type} {x y : α} (h : some x = some y) : x = y := Option.some.inj h
theorem o_obj_spec {h : e_H} {a ci : Nat} {fs : List Value} (hv : o_obj h a ci = some fs) : h[a]? = some (.inr (ci, fs)) := by
  unfold o_obj at hv
  split at hv
  · next o ho =>
    split at hv
    · next hc => cases hv; subst hc; exact ho
    · cases hv
  · cases hv
theorem o_arr_spec {h : e_H} {a t : Nat} {x : vp_A} (hv : o_arr h a t = some x) : h[a]? = some (.inl (t, x)) := by
  unfold o_arr at hv
  split at hv
  · next o ho =>
    split at hv
    · next hc => cases hv; subst hc; exact ho
    · cases hv
  · cases hv
theorem o_get_spec {h : e_H} {a ci k : Nat} {v : Value} (hv : o_get h a ci k = some v) : ∃ fs, h[a]? = some (.inr (ci, fs)) ∧ fs[k]? = some v := by
  obtain ⟨fs, h1, h2⟩ := e_bs hv
  exact ⟨fs, o_obj_spec h1, h2⟩
theorem o_getI_spec {h : e_H} {a ci k : Nat} {x : Int32} (hv : o_getI h a ci k = some x) : ∃ fs, h[a]? = some (.inr (ci, fs)) ∧ fs[k]? = some (.int x) := by
  obtain ⟨v, h1, h2⟩ := e_bs hv
  obtain ⟨fs, h3, h4⟩ := o_get_spec h1
  cases v <;> simp [o_asI] at h2
  subst h2
  exact ⟨fs, h3, h4⟩
theorem o_getR_spec {h : e_H} {a ci k : Nat} {x : Option Nat} (hv : o_getR h a ci k = some x) : ∃ fs, h[a]? = some (.inr (ci, fs)) ∧ fs[k]? = some (va_rf x) := by
  obtain ⟨v, h1, h2⟩ := e_bs hv
  obtain ⟨fs, h3, h4⟩ := o_get_spec h1
  cases v <;> simp [o_asR] at h2 <;> subst h2 <;> exact ⟨fs, h3, h4⟩
theorem o_put_spec {h h1 : e_H} {a ci k : Nat} {v : Value} (hv : o_put h a ci k v = some h1) : ∃ fs, h[a]? = some (.inr (ci, fs)) ∧ k < fs.length ∧ h1 = h.set a (.inr (ci, fs.set k v)) := by
  obtain ⟨fs, h2, h3⟩ := e_bs hv
  split at h3
  · next hk => exact ⟨fs, o_obj_spec h2, hk, (e_so h3).symm⟩
  · cases h3
theorem o_rowI_spec {h : e_H} {a t : Nat} {x : Nat × (Nat → Int32)} (hv : o_rowI h a t = some x) : h[a]? = some (.inl (t, x.1, .inl x.2)) := by
  obtain ⟨z, h1, h2⟩ := e_bs hv
  have h3 := o_arr_spec h1
  obtain ⟨n, f | f | f | f | f⟩ := z <;> simp at h2
  subst h2
  exact h3
theorem o_rowL_spec {h : e_H} {a t : Nat} {x : Nat × (Nat → Int64)} (hv : o_rowL h a t = some x) : h[a]? = some (.inl (t, x.1, .inr (.inl x.2))) := by
  obtain ⟨z, h1, h2⟩ := e_bs hv
  have h3 := o_arr_spec h1
  obtain ⟨n, f | f | f | f | f⟩ := z <;> simp at h2
  subst h2
  exact h3
theorem o_rowR_spec {h : e_H} {a t : Nat} {x : Nat × (Nat → Option Nat)} (hv : o_rowR h a t = some x) : h[a]? = some (.inl (t, x.1, .inr (.inr (.inr (.inr x.2))))) := by
  obtain ⟨z, h1, h2⟩ := e_bs hv
  have h3 := o_arr_spec h1
  obtain ⟨n, f | f | f | f | f⟩ := z <;> simp at h2
  subst h2
  exact h3
theorem e_if0 {α : Type} {c : Prop} {inst : Decidable c} {b : Option α} {y : α} (h : (@ite (Option α) c inst none b) = some y) : ¬ c ∧ b = some y := by
  by_cases hc : c
  · rw [if_pos hc] at h; cases h
  · rw [if_neg hc] at h; exact ⟨hc, h⟩
theorem e_P.one {G : e_G} {h : e_H} {H : Heap} (hP : e_P G h H) {k : Nat} {e : va_E} (he : h[k]? = some e) : va_P G.1 vwCl [(e_ad G k, e_e G e)] H := by
  intro j q hq
  cases j with
  | zero => cases hq; exact hP.2 k e he
  | succ j => simp at hq
theorem e_ad_inj {G : e_G} {a b : Nat} (h : e_ad G a = e_ad G b) : a = b := by unfold e_ad at h; omega
theorem e_A_ad (G : e_G) (k : Nat) : e_A G (e_ad G k) := by unfold e_A e_ad; omega
theorem e_J.set {G : e_G} {s : State} {h : e_H} {H H1 : Heap} {locs : List Loc} {k j : Nat} {e0 e : va_E} (J : e_J G s h H locs) (he : h[k]? = some e0) (hz : H1.size = H.size) (oq : ∀ q : Nat, q ≠ e_ad G k → H1[q]? = H[q]?) (hat : va_at G.1 vwCl (e_ad G k, e_e G e) H1) : e_J G s (h.set k e) H1 (locs ++ [⟨e_ad G k, j⟩]) := by
  have hl := (List.getElem?_eq_some_iff.mp he).1
  refine ⟨⟨by rw [hz, J.1.1, List.length_set], fun i x hx => ?_⟩, J.2.put hz oq (e_A_ad G k)⟩
  by_cases hk : i = k
  · subst hk
    rw [List.getElem?_set_self hl] at hx
    cases hx
    exact hat
  · rw [List.getElem?_set_ne (Ne.symm hk)] at hx
    exact (J.1.2 i x hx).kept (oq _ fun z => hk (e_ad_inj z))
theorem e_J.push {G : e_G} {s : State} {h : e_H} {H H1 : Heap} {locs : List Loc} {e : va_E} (J : e_J G s h H locs) (hz : H1.size = H.size + 1) (oq : ∀ q : Nat, q < H.size → H1[q]? = H[q]?) (hat : va_at G.1 vwCl (H.size, e_e G e) H1) : e_J G s (h ++ [e]) H1 locs := by
  refine ⟨⟨by rw [hz, J.1.1, List.length_append]; simp; omega, fun i x hx => ?_⟩, Nat.le_trans J.2.1 (by omega), fun q h1 h2 => (oq q (Nat.lt_of_lt_of_le h1 J.2.1)).trans (J.2.2.1 q h1 h2), J.2.2.2⟩
  by_cases hk : i < h.length
  · rw [List.getElem?_append_left hk] at hx
    exact (J.1.2 i x hx).kept (oq _ (J.1.2 i x hx).lt)
  · rw [List.getElem?_append_right (by omega)] at hx
    have hz : i - h.length < 1 := (List.getElem?_eq_some_iff.mp hx).1
    rw [show i - h.length = 0 by omega] at hx
    cases hx
    have e1 : e_ad G i = H.size := by unfold e_ad; rw [J.1.1]; omega
    rw [e1]
    exact hat
theorem e_J.ad {G : e_G} {s : State} {h : e_H} {H : Heap} {locs : List Loc} (J : e_J G s h H locs) : H.size = e_ad G h.length := J.1.1
