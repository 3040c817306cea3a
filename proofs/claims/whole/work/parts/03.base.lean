/-! ===== the base: one list of words for all methods, one contract form, rows of calls ===== -/
def gdt : List Cond := lw_tbl.filter goodWord
theorem gdt_of {w : Cond} (i : Nat) (h : lw_tbl[i]? = some w) (hg : goodWord w = true) : w ∈ gdt := List.mem_filter.mpr ⟨List.mem_of_getElem? h, hg⟩
theorem gdt_good {w : Cond} (h : w ∈ gdt) : w ∈ gdt ∧ ((w.onTables && w.keeps) = true ∨ ∃ ty, w = .arrayClass ty) := ⟨h, good_of_word (List.mem_filter.mp h).2⟩
theorem ob {α β : Type} {o : Option α} {f : α → Option β} {b : β} (h : o.bind f = some b) : ∃ a, o = some a ∧ f a = some b := by
  cases o with
  | none => cases h
  | some a => exact ⟨a, rfl, h⟩
theorem oi_t {α : Type} {c : Prop} [Decidable c] {x y : Option α} {b : α} (hc : c) (h : (if c then x else y) = some b) : x = some b := by rw [if_pos hc] at h; exact h
theorem oi_f {α : Type} {c : Prop} [Decidable c] {x y : Option α} {b : α} (hc : ¬ c) (h : (if c then x else y) = some b) : y = some b := by rw [if_neg hc] at h; exact h
def gA {α : Type} (i : Int32) (n : Nat) (x : Option α) : Option α := if i < 0 ∨ n ≤ i.toNatClampNeg then none else x
theorem gA_s {α : Type} {i : Int32} {n : Nat} {x : Option α} {b : α} (h : gA i n x = some b) : vp_in i n ∧ x = some b := by
  unfold gA at h
  by_cases hc : i < 0 ∨ n ≤ i.toNatClampNeg
  · rw [if_pos hc] at h; cases h
  · rw [if_neg hc] at h; exact ⟨hc, h⟩
def gZ {α : Type} (y : Int32) (x : Option α) : Option α := if y = 0 then none else x
theorem gZ_s {α : Type} {y : Int32} {x : Option α} {b : α} (h : gZ y x = some b) : ¬ y = 0 ∧ x = some b := by
  unfold gZ at h
  by_cases hc : y = 0
  · rw [if_pos hc] at h; cases h
  · rw [if_neg hc] at h; exact ⟨hc, h⟩
def gL {α : Type} (y : Int64) (x : Option α) : Option α := if y = 0 then none else x
theorem gL_s {α : Type} {y : Int64} {x : Option α} {b : α} (h : gL y x = some b) : ¬ y = 0 ∧ x = some b := by
  unfold gL at h
  by_cases hc : y = 0
  · rw [if_pos hc] at h; cases h
  · rw [if_neg hc] at h; exact ⟨hc, h⟩
def gB {α : Type} (y : Int32) (x : Option α) : Option α := if y = 0 ∨ y = 1 then x else none
theorem gB_s {α : Type} {y : Int32} {x : Option α} {b : α} (h : gB y x = some b) : narrow .boolean (.int y) = .int y ∧ x = some b := by
  unfold gB at h
  by_cases hc : y = 0 ∨ y = 1
  · rw [if_pos hc] at h
    refine ⟨?_, h⟩
    rcases hc with rfl | rfl <;> rfl
  · rw [if_neg hc] at h; cases h
def jn {α β : Type} (k : α) (b : α → β) : β := b k
theorem jn_s {α β : Type} {k : α} {b : α → Option β} {z : β} (h : jn k b = some z) : ∃ j : α, j = k ∧ b j = some z := ⟨k, rfl, h⟩
theorem ti_ne {x : Int32} {k : Int32} {n : Int} (hk : k.toInt = n) (h : ¬ x = k) : ¬ x.toInt = n := fun e => h (Int32.toInt_inj.mp (e.trans hk.symm))
-- the world
abbrev tysC (C : Nat → ClassId) : List (ClassId × FieldType) := [(C 0, .int), (C 1, .long), (C 2, .boolean), (C 3, .byte), (C 4, .object "DebtRings$Tape")]
def NW (U : State) : Prop := va_Nw (.methodLinkNest RX1 15 yX8_isCell RX8) U ∧ va_Nw (.methodLinkNest RX2 22 yX8_isCell RX8) U ∧ va_Nw (.methodLinkNest RX4 64 yX8_isCell RX8) U ∧ va_AO RX6 U
theorem NW.warm {s U : State} (hW : s.WarmedH U.vm) (h : NW s) : NW U := ⟨va_Nw.warmM hW h.1, va_Nw.warmM hW h.2.1, va_Nw.warmM hW h.2.2.1, va_AO.moved hW.alike h.2.2.2⟩
theorem NW.same {s U : State} (hW : s.vm = U.vm) (h : NW s) : NW U := ⟨va_Nw.same rfl hW h.1, va_Nw.same rfl hW h.2.1, va_Nw.same rfl hW h.2.2.1, va_AO.moved (hW ▸ Vm.Alike.refl s.vm) h.2.2.2⟩
def KN (D : va_G) (C : Nat → ClassId) (U : State) : Prop := va_K D vwCl (tysC C) U ∧ NW U
def wsA (y : MethodName) (cc : ByteArray) (n : Nat) (ret : Option FieldType) : List Cond := Cond.code y cc n ret :: gdt
def rmL (d : Nat) : Room := { frames := d, cells := 0, slots := 0, locals := 40 * d }
def Pre (D : va_G) (C : Nat → ClassId) (sz : Nat) (ws : va_W) : State → Prop := fun U => U.heap.size = sz ∧ va_P D vwCl ws U.heap ∧ KN D C U ∧ va_D (fun _ => True) ws
def Qt (D : va_G) (A : Nat → Prop) (ws : va_W) (ov : Option Value) : Array Value → State → Outcome → State → Prop := fun _ st oc t => oc = .returned ov ∧ va_P D vwCl ws t.heap ∧ va_D A ws ∧ va_F A st t
/-- a method's contract: from the world ws it returns ov, the world is ws' then; no cell comes -/
def Ct (l : Launch) (y : MethodName) (cc : ByteArray) (nL : Nat) (ret : Option FieldType) (d : Nat) (D : va_G) (C : Nat → ClassId) (av : List Value) (ws ws' : va_W) (ov : Option Value) : Prop :=
  ∀ sz : Nat, Met l y (wsA y cc nL ret) (rmL d) (va_Pc av (Pre D C sz ws)) (Qt D (va_A ws sz) ws' ov) 0 0 (va_A ws sz)
def HW (D : va_G) (A : Nat → Prop) (H0 H : Heap) (locs : List Loc) (ws : va_W) : Prop := va_P D vwCl ws H ∧ va_D A ws ∧ va_S A H0 H locs
def CX (p : Program) (m : MethodId) (c : Code) (s : State) (args : Array Value) (own : String) (cc : ByteArray) (nL : Nat) (D : va_G) (C : Nat → ClassId) (A : Nat → Prop) (R : Room) (d : Nat) : Prop :=
  p.tables.exec = Jvm.exec ∧ c.code = cc ∧ c.maxLocals = nL ∧ s.vm.findClass own = some m.cls ∧ (∀ w ∈ gdt, w.before args s = true) ∧ KN D C s ∧ (∀ q, s.heap.size ≤ q → A q) ∧ d ≤ R.frames ∧ 40 * d ≤ R.locals
section BaseW
variable {p : Program} {l : Launch} {e : Env} {R : Room} {s : State} {m : MethodId} {args : Array Value} {below : List Frame} {meth : Method} {c : Code} {H : Heap} {locs : List Loc} {Q : State → Prop} {D : va_G} {C : Nat → ClassId} {A : Nat → Prop} {own : String} {cc : ByteArray} {nL d pc : Nat} {ls : Array Slot} {rest : List Value} {ws : va_W}
def RT (p : Program) (l : Launch) (e : Env) (R : Room) (s : State) (m : MethodId) (args : Array Value) (below : List Frame) (meth : Method) (c : Code) (Q : State → Prop) (D : va_G) (A : Nat → Prop) (cc : ByteArray) (ret : Option FieldType) (ws : va_W) (ov : Option Value) : Prop :=
  ∀ (H : Heap) (locs : List Loc) (pc : Nat) (ls : Array Slot), HW D A s.heap H locs ws →
    (∀ (v : Int32) (ty : FieldType), ov = some (.int v) → ret = some ty → narrow ty (.int v) = .int v → decode cc pc = .ok (.ireturn, 1) → W p l e R s m args below meth c H locs 0 0 Q (F0 m pc ls [.int v])) ∧
    (∀ v : Int64, ov = some (.long v) → ret = some .long → decode cc pc = .ok (.lreturn, 1) → W p l e R s m args below meth c H locs 0 0 Q (F0 m pc ls [.long v])) ∧
    (ov = none → ret = none → decode cc pc = .ok (.return_, 1) → W p l e R s m args below meth c H locs 0 0 Q (F0 m pc ls []))
theorem rt_i {ret : Option FieldType} {v : Int32} {w2 : va_W} (h : RT p l e R s m args below meth c Q D A cc ret w2 (some (.int v))) (hw : HW D A s.heap H locs w2) (hr : ret = some .int) (hd : decode cc pc = .ok (.ireturn, 1)) : W p l e R s m args below meth c H locs 0 0 Q (F0 m pc ls [.int v]) := (h H locs pc ls hw).1 v .int rfl hr rfl hd
theorem rt_z {ret : Option FieldType} {v : Int32} {w2 : va_W} (h : RT p l e R s m args below meth c Q D A cc ret w2 (some (.int v))) (hw : HW D A s.heap H locs w2) (hr : ret = some .boolean) (hn : narrow .boolean (.int v) = .int v) (hd : decode cc pc = .ok (.ireturn, 1)) : W p l e R s m args below meth c H locs 0 0 Q (F0 m pc ls [.int v]) := (h H locs pc ls hw).1 v .boolean rfl hr hn hd
theorem rt_l {ret : Option FieldType} {v : Int64} {w2 : va_W} (h : RT p l e R s m args below meth c Q D A cc ret w2 (some (.long v))) (hw : HW D A s.heap H locs w2) (hr : ret = some .long) (hd : decode cc pc = .ok (.lreturn, 1)) : W p l e R s m args below meth c H locs 0 0 Q (F0 m pc ls [.long v]) := (h H locs pc ls hw).2.1 v rfl hr hd
theorem rt_v {ret : Option FieldType} {w2 : va_W} (h : RT p l e R s m args below meth c Q D A cc ret w2 none) (hw : HW D A s.heap H locs w2) (hr : ret = none) (hd : decode cc pc = .ok (.return_, 1)) : W p l e R s m args below meth c H locs 0 0 Q (F0 m pc ls []) := (h H locs pc ls hw).2.2 rfl hr hd
/-- a contract out of one walk of the body -/
theorem Ct_of {y : MethodName} {ret : Option FieldType} {av : List Value} {ws' : va_W} {ov : Option Value} (hy : plainName y.cls = true) (hn : (lg_sl av).length ≤ nL)
    (body : ∀ (p : Program) (e : Env) (R : Room) (s : State) (m : MethodId) (args : Array Value) (below : List Frame) (meth : Method) (c : Code) (A : Nat → Prop) (Q : State → Prop) (H : Heap) (locs : List Loc) (ls : Array Slot), CX p m c s args y.cls cc nL D C A R d → HW D A s.heap H locs ws → lv_has ls nL (lv_args 0 av) → RT p l e R s m args below meth c Q D A cc ret ws' ov → W p l e R s m args below meth c H locs 0 0 Q (F0 m 0 ls [])) : Ct l y cc nL ret d D C av ws ws' ov := by
  intro sz
  refine Met.ofW (cc := cc) (maxL := nL) (ret := ret) hy rfl ?_
  intro p e s m args below meth c s₁ B hml hv
  obtain ⟨rfl, hsz, hP, hK, hD0⟩ := hv
  have hts := atoms_spec (ws := wsA y cc nL ret) B.pre
  have hown : s.vm.findClass y.cls = some m.cls := findClass_of_methodNamed B.named
  have hlocks := B.notSynchronized
  subst hsz
  have hD := hD0.self (sz := s.heap.size)
  have hl := lv_entry av (n := nL) hn
  rw [lg_entry_eq]
  generalize (lg_sl av ++ List.replicate (nL - (lg_sl av).length) Slot.unset).toArray = ls at hl ⊢
  refine body p e _ s m av.toArray below meth c (va_A ws s.heap.size) _ s.heap [] ls ⟨B.exec, B.bytes, hml, hown, fun w h => hts w (List.mem_cons_of_mem _ h), hK, fun q h => Or.inr h, Nat.le_refl _, Nat.le_refl _⟩ ⟨hP, hD, va_S.rf⟩ hl ?_
  intro H locs pc ls hw
  have hq : ∀ t : State, t.heap = H → Qt D (va_A ws s.heap.size) ws' ov av.toArray s (.returned ov) t := fun t ht => ⟨rfl, by rw [ht]; exact hw.1, hw.2.1, hw.2.2.F ht⟩
  refine ⟨?_, ?_, ?_⟩
  · intro v ty hov hr hna hd
    subst hov
    exact W.zret B.exec B.bytes (B.returns.trans hr) hna (fun t ht _ => hq t ht) hw.2.2.2.2 hd
  · intro v hov hr hd
    subst hov
    exact W.lret B.exec B.bytes (B.returns.trans hr) (fun t ht _ => hq t ht) hw.2.2.2.2 hd
  · intro hov hr hd
    subst hov
    exact W.vret B.exec B.bytes (B.returns.trans hr) (fun t ht _ => hq t ht) hw.2.2.2.2 hd
/-- behind a call -/
theorem cgo {wc w1 wr w2 : va_W} {st0 st2 : List Value} {a : Array Value} {ov : Option Value} (cx : CX p m c s args own cc nL D C A R d)
    (hr : va_Run p l e R s m args below meth c H locs 0 0 0 0 (F0 m pc ls st0) rest (Qt D (va_A wc H.size) w1 ov a) (va_A wc H.size)) (hw : HW D A s.heap H locs ws)
    (isC isR pm : List Nat) (hC : isC.map (fun i => ws[i]?) = wc.map some) (hR : isR.map (fun i => ws[i]?) = wr.map some) (hn : va_nd isR = true) (hdis : ∀ i ∈ isR, i ∉ isC) (hpm : pm.map (fun i => (wr ++ w1)[i]?) = w2.map some) (hpn : va_nd pm = true)
    (hs2 : ov.toList ++ rest = st2) (kk : ∀ (H1 : Heap) (locs1 : List Loc), HW D A s.heap H1 locs1 w2 → W p l e R s m args below meth c H1 locs1 0 0 Q (F0 m (pc + 3) ls st2)) : W p l e R s m args below meth c H locs 0 0 Q (F0 m pc ls st0) := by
  intro T hT X
  obtain ⟨v, st₀, t, T', L, h0, X', hL, e1, e2, ⟨hov, hP1, hD1, hz, hk⟩, st⟩ := hr T hT X
  cases hov
  rw [h0] at hz hk
  subst hs2
  obtain ⟨hP, hD, hS⟩ := hw
  have hFc := va_free (wc := wc) hD hS cx.2.2.2.2.2.2.1 isC hC
  have hk' : ∀ q : Nat, q < H.size → ¬ va_A wc H.size q → T'.heap[q]? = H[q]? := fun q h1 h2 => by rw [e1]; exact hk q h1 h2
  rw [← e1] at hP1
  obtain ⟨hP2, hD2⟩ := va_join hP hD isC isR hC hR hn hdis hk' hFc hP1 hD1
  have hS2 : va_S A s.heap T'.heap (locs ++ L) := ⟨Nat.le_trans hS.1 (by rw [e1]; exact hz), fun q h1 h2 => by rw [e1, hk q (Nat.lt_of_lt_of_le h1 hS.1) (fun z => h2 (hFc q z))]; exact hS.2.1 q h1 h2, fun q hq => by
      rcases List.mem_append.mp hq with h | h
      · exact hS.2.2 q h
      · exact hFc _ (hL q h)⟩
  have hP3 : va_P D vwCl w2 T'.heap := by
    intro k q hkq
    have h1 : (pm.map (fun i => (wr ++ w1)[i]?))[k]? = some (some q) := by rw [hpm, List.getElem?_map, hkq]; rfl
    rw [List.getElem?_map] at h1
    cases hi : pm[k]? with
    | none => rw [hi] at h1; cases h1
    | some i => rw [hi] at h1; exact hP2 i q (Option.some.inj h1)
  obtain ⟨t2, a1, b1⟩ := kk T'.heap (locs ++ L) ⟨hP3, hD2.sub pm hpn hpm, hS2⟩ T' rfl X'
  exact ⟨t2, st t2 a1, b1⟩
/-- the callee's start, at the call -/
theorem pre_at {wc : va_W} {av : List Value} (hK : KN D C s) (hw : HW D A s.heap H locs ws) (isC : List Nat) (hC : isC.map (fun i => ws[i]?) = wc.map some) (hn : va_nd isC = true) :
    FrameBlind (va_Pc av (Pre D C H.size wc)) ∧ ∀ U : State, U.heap = H → s.WarmedH U.vm → va_Pc av (Pre D C H.size wc) av.toArray U := by
  have hD := hw.2.1.sub isC hn hC
  have hP : va_P D vwCl wc H := by
    intro k q hkq
    have h1 : (isC.map (fun i => ws[i]?))[k]? = some (some q) := by rw [hC, List.getElem?_map, hkq]; rfl
    rw [List.getElem?_map] at h1
    cases hi : isC[k]? with
    | none => rw [hi] at h1; cases h1
    | some i => rw [hi] at h1; exact hw.1 i q (Option.some.inj h1)
  refine ⟨fun a U g mk q => ?_, fun U hU hW => ?_⟩
  · obtain ⟨q0, q1, qP, qK, qD⟩ := q
    exact ⟨q0, q1, qP, ⟨va_K.moved (u := U) (U := U.calling g mk a) (Vm.Alike.refl U.vm) qK.1, NW.same rfl qK.2⟩, qD⟩
  · exact ⟨rfl, by rw [hU], by rw [hU]; exact hP, ⟨va_K.moved hW.alike hK.1, NW.warm hW hK.2⟩, hD.weaken (fun _ _ _ _ => trivial)⟩
theorem good_A {y : MethodName} {bytes : ByteArray} {n : Nat} {ret : Option FieldType} (h5 : Cond.code y bytes n ret ∈ gdt) : GoodIn gdt (wsA y bytes n ret) := by
  intro w hw
  rcases List.mem_cons.mp hw with rfl | h
  · exact gdt_good h5
  · exact gdt_good h
theorem cV {y : MethodName} {bytes : ByteArray} {nL' d' index ci : Nat} {ret : Option FieldType} {b : Addr} {As st0 st2 : List Value} {wc w1 wr w2 : va_W} {ov : Option Value} {T : u_T} {N : Nat} {fs : List Value} (cx : CX p m c s args own cc nL D C A R d) (hc : Ct l y bytes nL' ret d' D C (.ref b :: As) wc w1 ov)
    (hlk : Cond.methodLink own index y ∈ gdt) (hy : (y.cls ≠ "java/lang/invoke/MethodHandle" ∧ y.cls ≠ "java/lang/invoke/VarHandle") ∧ Cond.instanceMethod y ∈ gdt ∧ Cond.selects y.cls y y ∈ gdt ∧ Cond.initialized y.cls ∈ gdt ∧ Cond.code y bytes nL' ret ∈ gdt) (hlen : (parseMethodDescriptor y.desc).map (fun d => d.parameters.length) = some As.length)
    (hd : d' + 1 ≤ d ∧ nL' ≤ 21) (hw : HW D A s.heap H locs ws) (isC isR pm : List Nat) (hC : isC.map (fun i => ws[i]?) = wc.map some) (hR : isR.map (fun i => ws[i]?) = wr.map some) (hq : (va_nd isC && va_nd isR && va_nd pm && isR.all (fun i => !(isC.contains i))) = true) (hpm : pm.map (fun i => (wr ++ w1)[i]?) = w2.map some)
    (hb : wc[0]? = some (b, .inr (ci, fs))) (hci : vwCl[ci]? = some (y.cls, T, N)) (hst : st0 = As.reverse ++ .ref b :: rest) (hcat : (rest.map fun v => v.category).sum ≤ 8) (hdg : decode cc pc = .ok (.invokevirtual index, 3))
    (hs2 : ov.toList ++ rest = st2) (kk : ∀ (H1 : Heap) (locs1 : List Loc), HW D A s.heap H1 locs1 w2 → W p l e R s m args below meth c H1 locs1 0 0 Q (F0 m (pc + 3) ls st2)) (hls : ls.size = nL) : W p l e R s m args below meth c H locs 0 0 Q (F0 m pc ls st0) := by
  simp only [Bool.and_eq_true, List.all_eq_true, Bool.not_eq_true', List.contains_eq_mem, decide_eq_false_iff_not] at hq
  obtain ⟨⟨⟨q1, q2⟩, q3⟩, q4⟩ := hq
  obtain ⟨hx, hb1, hml, hown, hts, hK, hA, hr1, hr2⟩ := id cx
  obtain ⟨n1, n2⟩ := hd
  have hP := pre_at (av := .ref b :: As) hK hw isC hC q1
  have hPc : va_P D vwCl wc H := by
    intro k q hkq
    have h1 : (isC.map (fun i => ws[i]?))[k]? = some (some q) := by rw [hC, List.getElem?_map, hkq]; rfl
    rw [List.getElem?_map] at h1
    cases hi : isC[k]? with
    | none => rw [hi] at h1; cases h1
    | some i => rw [hi] at h1; exact hw.1 i q (Option.some.inj h1)
  refine cgo cx (va_runV (As := As) (b := b) (rest := rest) (C := y.cls) (nL := nL) (Ts := gdt) ⟨hx, hb1, hml, hown, hts⟩ (hc H.size)
    ⟨callB_of As.length hts (good_A hy.2.2.2.2) rfl rfl rfl (hts _ hy.2.2.2.1) (hts _ hlk) ⟨hy.1.1, hy.1.2, hlen⟩ ⟨show d' + 1 ≤ R.frames by omega, show 8 + (nL' + 11) + 40 * d' ≤ R.locals by omega⟩, hts _ hy.2.1, hts _ hy.2.2.1⟩
    ⟨hP.1, va_recv hK.1 hPc hci hb, hP.2⟩ rfl rfl hls hst (lv_room hcat) hdg ⟨Nat.zero_le _, Nat.zero_le _⟩) hw isC isR pm hC hR q2 q4 hpm q3 hs2 kk
theorem cS {y : MethodName} {bytes : ByteArray} {nL' d' index : Nat} {ret : Option FieldType} {As st0 st2 : List Value} {wc w1 wr w2 : va_W} {ov : Option Value} (cx : CX p m c s args own cc nL D C A R d) (hc : Ct l y bytes nL' ret d' D C As wc w1 ov)
    (hlk : Cond.methodLink own index y ∈ gdt) (hy : (y.cls ≠ "java/lang/invoke/MethodHandle" ∧ y.cls ≠ "java/lang/invoke/VarHandle") ∧ Cond.static y ∈ gdt ∧ Cond.initialized y.cls ∈ gdt ∧ Cond.code y bytes nL' ret ∈ gdt) (hlen : (parseMethodDescriptor y.desc).map (fun d => d.parameters.length) = some As.length)
    (hd : d' + 1 ≤ d ∧ nL' ≤ 21) (hw : HW D A s.heap H locs ws) (isC isR pm : List Nat) (hC : isC.map (fun i => ws[i]?) = wc.map some) (hR : isR.map (fun i => ws[i]?) = wr.map some) (hq : (va_nd isC && va_nd isR && va_nd pm && isR.all (fun i => !(isC.contains i))) = true) (hpm : pm.map (fun i => (wr ++ w1)[i]?) = w2.map some)
    (hst : st0 = As.reverse ++ rest) (hcat : (rest.map fun v => v.category).sum ≤ 8) (hdg : decode cc pc = .ok (.invokestatic index, 3))
    (hs2 : ov.toList ++ rest = st2) (kk : ∀ (H1 : Heap) (locs1 : List Loc), HW D A s.heap H1 locs1 w2 → W p l e R s m args below meth c H1 locs1 0 0 Q (F0 m (pc + 3) ls st2)) (hls : ls.size = nL) : W p l e R s m args below meth c H locs 0 0 Q (F0 m pc ls st0) := by
  simp only [Bool.and_eq_true, List.all_eq_true, Bool.not_eq_true', List.contains_eq_mem, decide_eq_false_iff_not] at hq
  obtain ⟨⟨⟨q1, q2⟩, q3⟩, q4⟩ := hq
  obtain ⟨hx, hb1, hml, hown, hts, hK, hA, hr1, hr2⟩ := id cx
  obtain ⟨n1, n2⟩ := hd
  have hP := pre_at (av := As) hK hw isC hC q1
  refine cgo cx (va_runS (As := As) (rest := rest) (nL := nL) (Ts := gdt) ⟨hx, hb1, hml, hown, hts⟩ (hc H.size)
    ⟨callB_of As.length hts (good_A hy.2.2.2) rfl rfl rfl (hts _ hy.2.2.1) (hts _ hlk) ⟨hy.1.1, hy.1.2, hlen⟩ ⟨show d' + 1 ≤ R.frames by omega, show 8 + (nL' + 11) + 40 * d' ≤ R.locals by omega⟩, hts _ hy.2.1⟩
    hP rfl rfl hls hst (lv_room hcat) hdg ⟨Nat.zero_le _, Nat.zero_le _⟩) hw isC isR pm hC hR q2 q4 hpm q3 hs2 kk
/-- the static method of the nest's host -/
theorem cN {y : MethodName} {bytes : ByteArray} {nL' d' index : Nat} {host : String} {ret : Option FieldType} {As st0 st2 : List Value} {wc w1 wr w2 : va_W} {ov : Option Value} (cx : CX p m c s args own cc nL D C A R d) (hc : Ct l y bytes nL' ret d' D C As wc w1 ov)
    (hlk : va_Nw (.methodLinkNest own index y host) s) (hy : (y.cls ≠ "java/lang/invoke/MethodHandle" ∧ y.cls ≠ "java/lang/invoke/VarHandle") ∧ Cond.static y ∈ gdt ∧ Cond.initialized y.cls ∈ gdt ∧ Cond.code y bytes nL' ret ∈ gdt) (hlen : (parseMethodDescriptor y.desc).map (fun d => d.parameters.length) = some As.length)
    (hd : d' + 1 ≤ d ∧ nL' ≤ 21) (hw : HW D A s.heap H locs ws) (isC isR pm : List Nat) (hC : isC.map (fun i => ws[i]?) = wc.map some) (hR : isR.map (fun i => ws[i]?) = wr.map some) (hq : (va_nd isC && va_nd isR && va_nd pm && isR.all (fun i => !(isC.contains i))) = true) (hpm : pm.map (fun i => (wr ++ w1)[i]?) = w2.map some)
    (hst : st0 = As.reverse ++ rest) (hcat : (rest.map fun v => v.category).sum ≤ 8) (hdg : decode cc pc = .ok (.invokestatic index, 3))
    (hs2 : ov.toList ++ rest = st2) (kk : ∀ (H1 : Heap) (locs1 : List Loc), HW D A s.heap H1 locs1 w2 → W p l e R s m args below meth c H1 locs1 0 0 Q (F0 m (pc + 3) ls st2)) (hls : ls.size = nL) : W p l e R s m args below meth c H locs 0 0 Q (F0 m pc ls st0) := by
  simp only [Bool.and_eq_true, List.all_eq_true, Bool.not_eq_true', List.contains_eq_mem, decide_eq_false_iff_not] at hq
  obtain ⟨⟨⟨q1, q2⟩, q3⟩, q4⟩ := hq
  obtain ⟨hx, hb1, hml, hown, hts, hK, hA, hr1, hr2⟩ := id cx
  obtain ⟨n1, n2⟩ := hd
  have hP := pre_at (av := As) hK hw isC hC q1
  refine cgo cx (va_runSN (As := As) (rest := rest) (nL := nL) (Ts := gdt) ⟨hx, hb1, hml, hown, hts⟩ (hc H.size)
    ⟨va_cnB As.length hts (good_A hy.2.2.2) rfl rfl rfl hlk (hts _ hy.2.2.1) ⟨hy.1.1, hy.1.2, hlen⟩ ⟨show d' + 1 ≤ R.frames by omega, show 8 + (nL' + 11) + 40 * d' ≤ R.locals by omega⟩, hts _ hy.2.1, trivial⟩
    hP rfl rfl hls hst (lv_room hcat) hdg ⟨Nat.zero_le _, Nat.zero_le _⟩) hw isC isR pm hC hR q2 q4 hpm q3 hs2 kk
theorem r_get {ci N index : Nat} {Cn : String} {T : u_T} {fs : List Value} {a : Nat} {v : Value} (cx : CX p m c s args own cc nL D C A R d) (hw : HW D A s.heap H locs ws) (hu : ∀ w ∈ u_ws Cn T N, w ∈ gdt) (q0 k : Nat) (he : ws[q0]? = some (a, .inr (ci, fs))) (hci : vwCl[ci]? = some (Cn, T, N)) (hk : k < N) (hl : Cond.fieldLink own index (T k).1 (T k).2.1 (T k).2.2.1 ∈ gdt) (hv : fs[k]? = some v) (hdg : decode cc pc = .ok (.getfield index, 3))
    (kk : W p l e R s m args below meth c H locs 0 0 Q (F0 m (pc + 3) ls (v :: rest))) : W p l e R s m args below meth c H locs 0 0 Q (F0 m pc ls (.ref a :: rest)) :=
  va_get cx.1 cx.2.1 cx.2.2.2.2.1 hu cx.2.2.2.1 cx.2.2.2.2.2.1.1 hw.1 q0 he hci k hk (cx.2.2.2.2.1 _ hl) (fun _ h => h) hv hdg kk
theorem r_put {ci N index : Nat} {Cn : String} {T : u_T} {fs : List Value} {a : Nat} {v : Value} {ty : FieldType} {ty0 : Nat → FieldType} {w2 : va_W} (cx : CX p m c s args own cc nL D C A R d) (hw : HW D A s.heap H locs ws) (hu : ∀ w ∈ u_ws Cn T N, w ∈ gdt) (hty : ∀ k, k < N → parseFieldDescriptor (T k).2.2.1 = some (ty0 k)) (hnm : ∀ a, a < N → ∀ b, b < N → a ≠ b → (T a).2.1 ≠ (T b).2.1) (q0 k : Nat) (he : ws[q0]? = some (a, .inr (ci, fs))) (hci : vwCl[ci]? = some (Cn, T, N)) (hk : k < N) (hl : Cond.fieldLink own index (T k).1 (T k).2.1 (T k).2.2.1 ∈ gdt) (hf : (T k).2.2.2 = false) (ht : ty0 k = ty) (hn : narrow ty v = v) (hfit : fits ty v = true) (hlen : k < fs.length) (hdg : decode cc pc = .ok (.putfield index, 3)) (h2 : ws.set q0 (a, .inr (ci, fs.set k v)) = w2)
    (kk : ∀ (H1 : Heap) (locs1 : List Loc), HW D A s.heap H1 locs1 w2 → W p l e R s m args below meth c H1 locs1 0 0 Q (F0 m (pc + 3) ls rest)) : W p l e R s m args below meth c H locs 0 0 Q (F0 m pc ls (v :: .ref a :: rest)) := by
  subst h2
  exact va_put cx.1 cx.2.1 cx.2.2.2.2.1 hu ty0 hty hnm cx.2.2.2.1 cx.2.2.2.2.2.1.1 hw.1 hw.2.1 hw.2.2 q0 he hci k hk (cx.2.2.2.2.1 _ hl) (fun _ h => h) hf ((hty k hk).trans (congrArg some ht)) hn hfit hlen hdg (fun H1 locs1 h1 h2 h3 => kk H1 locs1 ⟨h1, h2, h3⟩)
theorem r_iald {a n : Nat} {f : Nat → Int32} {i : Int32} (cx : CX p m c s args own cc nL D C A R d) (hw : HW D A s.heap H locs ws) (q0 : Nat) (ha : ws[q0]? = some (a, .inl (C 0, n, .inl f))) (hin : vp_in i n) (hdg : decode cc pc = .ok (.iaload, 1)) (kk : W p l e R s m args below meth c H locs 0 0 Q (F0 m (pc + 1) ls (.int (f i.toNatClampNeg) :: rest))) : W p l e R s m args below meth c H locs 0 0 Q (F0 m pc ls (.int i :: .ref a :: rest)) :=
  va_iald cx.1 cx.2.1 cx.2.2.2.2.2.1.1 hw.1 q0 0 ha rfl hin hdg kk
theorem r_iast {a n : Nat} {f : Nat → Int32} {i x : Int32} {w2 : va_W} (cx : CX p m c s args own cc nL D C A R d) (hw : HW D A s.heap H locs ws) (q0 : Nat) (ha : ws[q0]? = some (a, .inl (C 0, n, .inl f))) (hin : vp_in i n) (hdg : decode cc pc = .ok (.iastore, 1)) (h2 : ws.set q0 (a, .inl (C 0, n, .inl (upd f i.toNatClampNeg x))) = w2) (kk : ∀ (H1 : Heap) (locs1 : List Loc), HW D A s.heap H1 locs1 w2 → W p l e R s m args below meth c H1 locs1 0 0 Q (F0 m (pc + 1) ls rest)) : W p l e R s m args below meth c H locs 0 0 Q (F0 m pc ls (.int x :: .int i :: .ref a :: rest)) := by
  subst h2
  exact va_iast cx.1 cx.2.1 cx.2.2.2.2.2.1.1 hw.1 hw.2.1 hw.2.2 q0 0 ha rfl hin hdg (fun H1 locs1 h1 h2 h3 => kk H1 locs1 ⟨h1, h2, h3⟩)
theorem r_lald {a n : Nat} {f : Nat → Int64} {i : Int32} (cx : CX p m c s args own cc nL D C A R d) (hw : HW D A s.heap H locs ws) (q0 : Nat) (ha : ws[q0]? = some (a, .inl (C 1, n, .inr (.inl f)))) (hin : vp_in i n) (hdg : decode cc pc = .ok (.laload, 1)) (kk : W p l e R s m args below meth c H locs 0 0 Q (F0 m (pc + 1) ls (.long (f i.toNatClampNeg) :: rest))) : W p l e R s m args below meth c H locs 0 0 Q (F0 m pc ls (.int i :: .ref a :: rest)) :=
  va_lald cx.1 cx.2.1 cx.2.2.2.2.2.1.1 hw.1 q0 1 ha rfl hin hdg kk
theorem r_last {a n : Nat} {f : Nat → Int64} {i : Int32} {x : Int64} {w2 : va_W} (cx : CX p m c s args own cc nL D C A R d) (hw : HW D A s.heap H locs ws) (q0 : Nat) (ha : ws[q0]? = some (a, .inl (C 1, n, .inr (.inl f)))) (hin : vp_in i n) (hdg : decode cc pc = .ok (.lastore, 1)) (h2 : ws.set q0 (a, .inl (C 1, n, .inr (.inl (vp_updL f i.toNatClampNeg x)))) = w2) (kk : ∀ (H1 : Heap) (locs1 : List Loc), HW D A s.heap H1 locs1 w2 → W p l e R s m args below meth c H1 locs1 0 0 Q (F0 m (pc + 1) ls rest)) : W p l e R s m args below meth c H locs 0 0 Q (F0 m pc ls (.long x :: .int i :: .ref a :: rest)) := by
  subst h2
  exact va_last cx.1 cx.2.1 cx.2.2.2.2.2.1.1 hw.1 hw.2.1 hw.2.2 q0 1 ha rfl hin hdg (fun H1 locs1 h1 h2 h3 => kk H1 locs1 ⟨h1, h2, h3⟩)
theorem r_zald {a n : Nat} {f : Nat → Int32} {i : Int32} (cx : CX p m c s args own cc nL D C A R d) (hw : HW D A s.heap H locs ws) (q0 : Nat) (ha : ws[q0]? = some (a, .inl (C 2, n, .inl f))) (hin : vp_in i n) (hdg : decode cc pc = .ok (.baload, 1)) (kk : W p l e R s m args below meth c H locs 0 0 Q (F0 m (pc + 1) ls (.int (f i.toNatClampNeg) :: rest))) : W p l e R s m args below meth c H locs 0 0 Q (F0 m pc ls (.int i :: .ref a :: rest)) :=
  va_zald cx.1 cx.2.1 cx.2.2.2.2.2.1.1 hw.1 q0 2 ha rfl hin hdg kk
theorem r_zast {a n : Nat} {f : Nat → Int32} {i x : Int32} {w2 : va_W} (cx : CX p m c s args own cc nL D C A R d) (hw : HW D A s.heap H locs ws) (q0 : Nat) (ha : ws[q0]? = some (a, .inl (C 2, n, .inl f))) (hin : vp_in i n) (hdg : decode cc pc = .ok (.bastore, 1)) (h2 : ws.set q0 (a, .inl (C 2, n, .inl (upd f i.toNatClampNeg (vp_nar .boolean x)))) = w2) (kk : ∀ (H1 : Heap) (locs1 : List Loc), HW D A s.heap H1 locs1 w2 → W p l e R s m args below meth c H1 locs1 0 0 Q (F0 m (pc + 1) ls rest)) : W p l e R s m args below meth c H locs 0 0 Q (F0 m pc ls (.int x :: .int i :: .ref a :: rest)) := by
  subst h2
  exact va_zast cx.1 cx.2.1 cx.2.2.2.2.2.1.1 hw.1 hw.2.1 hw.2.2 q0 2 ha rfl hin hdg (fun H1 locs1 h1 h2 h3 => kk H1 locs1 ⟨h1, h2, h3⟩)
theorem r_bald {a n : Nat} {f : Nat → Int32} {i : Int32} (cx : CX p m c s args own cc nL D C A R d) (hw : HW D A s.heap H locs ws) (q0 : Nat) (ha : ws[q0]? = some (a, .inl (C 3, n, .inl f))) (hin : vp_in i n) (hdg : decode cc pc = .ok (.baload, 1)) (kk : W p l e R s m args below meth c H locs 0 0 Q (F0 m (pc + 1) ls (.int (f i.toNatClampNeg) :: rest))) : W p l e R s m args below meth c H locs 0 0 Q (F0 m pc ls (.int i :: .ref a :: rest)) :=
  va_bald cx.1 cx.2.1 cx.2.2.2.2.2.1.1 hw.1 q0 3 ha rfl hin hdg kk
theorem r_bast {a n : Nat} {f : Nat → Int32} {i x : Int32} {w2 : va_W} (cx : CX p m c s args own cc nL D C A R d) (hw : HW D A s.heap H locs ws) (q0 : Nat) (ha : ws[q0]? = some (a, .inl (C 3, n, .inl f))) (hin : vp_in i n) (hdg : decode cc pc = .ok (.bastore, 1)) (h2 : ws.set q0 (a, .inl (C 3, n, .inl (upd f i.toNatClampNeg (vp_nar .byte x)))) = w2) (kk : ∀ (H1 : Heap) (locs1 : List Loc), HW D A s.heap H1 locs1 w2 → W p l e R s m args below meth c H1 locs1 0 0 Q (F0 m (pc + 1) ls rest)) : W p l e R s m args below meth c H locs 0 0 Q (F0 m pc ls (.int x :: .int i :: .ref a :: rest)) := by
  subst h2
  exact va_bast cx.1 cx.2.1 cx.2.2.2.2.2.1.1 hw.1 hw.2.1 hw.2.2 q0 3 ha rfl hin hdg (fun H1 locs1 h1 h2 h3 => kk H1 locs1 ⟨h1, h2, h3⟩)
theorem r_alen {a : Nat} {cA : ClassId} {x : vp_A} {v : Int32} {ty : FieldType} (cx : CX p m c s args own cc nL D C A R d) (hw : HW D A s.heap H locs ws) (q0 t0 : Nat) (ha : ws[q0]? = some (a, .inl (cA, x))) (ht : (tysC C)[t0]? = some (cA, ty)) (hv : Int32.ofNat x.1 = v) (hdg : decode cc pc = .ok (.arraylength, 1)) (kk : W p l e R s m args below meth c H locs 0 0 Q (F0 m (pc + 1) ls (.int v :: rest))) : W p l e R s m args below meth c H locs 0 0 Q (F0 m pc ls (.ref a :: rest)) :=
  va_alen cx.1 cx.2.1 cx.2.2.2.2.2.1.1 hw.1 q0 t0 ha ht hv hdg kk
end BaseW
