def gC {α : Type} (sp dp n : Int32) (n0 n1 : Nat) (x : Option α) : Option α := if sp < 0 ∨ dp < 0 ∨ n < 0 ∨ n0 < sp.toNatClampNeg + n.toNatClampNeg ∨ n1 < dp.toNatClampNeg + n.toNatClampNeg then none else x
theorem gC_s {α : Type} {sp dp n : Int32} {n0 n1 : Nat} {x : Option α} {b : α} (h : gC sp dp n n0 n1 x = some b) : (¬ sp < 0 ∧ ¬ dp < 0 ∧ ¬ n < 0 ∧ sp.toNatClampNeg + n.toNatClampNeg ≤ n0 ∧ dp.toNatClampNeg + n.toNatClampNeg ≤ n1) ∧ x = some b := by
  unfold gC at h
  by_cases hc : sp < 0 ∨ dp < 0 ∨ n < 0 ∨ n0 < sp.toNatClampNeg + n.toNatClampNeg ∨ n1 < dp.toNatClampNeg + n.toNatClampNeg
  · rw [if_pos hc] at h; cases h
  · rw [if_neg hc] at h
    simp only [not_or, Nat.not_lt] at hc
    exact ⟨hc, h⟩
/-- a contract of a method that answers a reference, out of one walk -/
theorem Ct_ofA {l : Launch} {D : va_G} {C : Nat → ClassId} {cc : ByteArray} {nL d : Nat} {ws : va_W} {y : MethodName} {rt : FieldType} {av : List Value} {ws' : va_W} {v : Value} (hy : plainName y.cls = true) (hn : (lg_sl av).length ≤ nL) (hrt : (∃ n, rt = .object n) ∨ ∃ t, rt = .array t) (hv : v = .null ∨ ∃ a, v = .ref a)
    (body : ∀ (p : Program) (e : Env) (R : Room) (s : State) (m : MethodId) (args : Array Value) (below : List Frame) (meth : Method) (c : Code) (A : Nat → Prop) (Q : State → Prop) (H : Heap) (locs : List Loc) (ls : Array Slot), CX p m c s args y.cls cc nL D C A R d → HW D A s.heap H locs ws → lv_has ls nL (lv_args 0 av) → (∀ (H : Heap) (locs : List Loc) (pc : Nat) (ls : Array Slot), HW D A s.heap H locs ws' → decode cc pc = .ok (.areturn, 1) → W p l e R s m args below meth c H locs 0 0 Q (F0 m pc ls [v])) → W p l e R s m args below meth c H locs 0 0 Q (F0 m 0 ls [])) : Ct l y cc nL (some rt) d D C av ws ws' (some v) := by
  intro sz
  refine Met.ofW (cc := cc) (maxL := nL) (ret := some rt) hy rfl ?_
  intro p e s m args below meth c s₁ B hml hv2
  obtain ⟨rfl, hsz, hP, hK, hD0⟩ := hv2
  have hts := atoms_spec (ws := wsA y cc nL (some rt)) B.pre
  have hown : s.vm.findClass y.cls = some m.cls := findClass_of_methodNamed B.named
  have hlocks := B.notSynchronized
  subst hsz
  have hD := hD0.self (sz := s.heap.size)
  have hl := lv_entry av (n := nL) hn
  rw [lg_entry_eq]
  generalize (lg_sl av ++ List.replicate (nL - (lg_sl av).length) Slot.unset).toArray = ls at hl ⊢
  refine body p e _ s m av.toArray below meth c (va_A ws s.heap.size) _ s.heap [] ls ⟨B.exec, B.bytes, hml, hown, fun w h => hts w (List.mem_cons_of_mem _ h), hK, fun q h => Or.inr h, Nat.le_refl _, Nat.le_refl _⟩ ⟨hP, hD, va_S.rf⟩ hl ?_
  intro H locs pc ls hw hd
  exact W.aret B.exec B.bytes B.returns hrt hv (fun t ht _ => ⟨rfl, by rw [ht]; exact hw.1, hw.2.1, hw.2.2.F ht⟩) hw.2.2.2.2 hd
theorem dX8_tapeAt_0 : decode cX8_tapeAt 0 = .ok (.iload_n 1, 1) := by decide +kernel
theorem dX8_tapeAt_1 : decode cX8_tapeAt 1 = .ok (.ifCond .lt 18, 3) := by decide +kernel
theorem dX8_tapeAt_4 : decode cX8_tapeAt 4 = .ok (.iload_n 1, 1) := by decide +kernel
theorem dX8_tapeAt_5 : decode cX8_tapeAt 5 = .ok (.bipush 6, 2) := by decide +kernel
theorem dX8_tapeAt_7 : decode cX8_tapeAt 7 = .ok (.if_icmp .ge 12, 3) := by decide +kernel
theorem dX8_tapeAt_10 : decode cX8_tapeAt 10 = .ok (.aload_n 0, 1) := by decide +kernel
theorem dX8_tapeAt_11 : decode cX8_tapeAt 11 = .ok (.getfield 55, 3) := by decide +kernel
theorem dX8_tapeAt_14 : decode cX8_tapeAt 14 = .ok (.iload_n 1, 1) := by decide +kernel
theorem dX8_tapeAt_15 : decode cX8_tapeAt 15 = .ok (.aaload, 1) := by decide +kernel
theorem dX8_tapeAt_16 : decode cX8_tapeAt 16 = .ok (.goto 4, 3) := by decide +kernel
theorem dX8_tapeAt_19 : decode cX8_tapeAt 19 = .ok (.aconst_null, 1) := by decide +kernel
theorem dX8_tapeAt_20 : decode cX8_tapeAt 20 = .ok (.areturn, 1) := by decide +kernel
theorem wf_X8_55 : Cond.fieldLink RX8 55 (TX8 7).1 (TX8 7).2.1 (TX8 7).2.2.1 ∈ gdt := gdt_of 270 (by decide +kernel) (by decide +kernel)
theorem CX8_tapeAt_n (l : Launch) (D : va_G) (C : Nat → ClassId) (q_ q_now q_kept q_supposed q_rings q_netting q_text q_tapes : Nat) (u_isKept : Int32) (u_tapes : Nat → Option Nat) (x1 : Int32) (h : x1 < 0 ∨ 6 ≤ x1) : Ct l yX8_tapeAt cX8_tapeAt 2 (some (.object "DebtRings$Tape")) 1 D C [.ref q_, .int x1] [(q_, .inr (8, [.ref q_now, .ref q_kept, .int u_isKept, .ref q_supposed, .ref q_rings, .ref q_netting, .ref q_text, .ref q_tapes])), (q_tapes, .inl (C 4, 6, .inr (.inr (.inr (.inr u_tapes)))))] [(q_, .inr (8, [.ref q_now, .ref q_kept, .int u_isKept, .ref q_supposed, .ref q_rings, .ref q_netting, .ref q_text, .ref q_tapes])), (q_tapes, .inl (C 4, 6, .inr (.inr (.inr (.inr u_tapes)))))] (some .null) := by
  refine Ct_ofA (by decide) (Nat.le_of_ble_eq_true rfl) (Or.inl ⟨_, rfl⟩) (Or.inl rfl) ?_
  intro p e R s m args below meth c A Q H locs ls cx hw hl hret
  have cx : CX p m c s args RX8 cX8_tapeAt 2 D C A R 1 := cx
  have hx := cx.1
  have hb := cx.2.1
  have hl : lv_has ls 2 [(0, .ref q_), (1, .int x1)] := hl
  refine lv_iload_n hx hb dX8_tapeAt_0 rfl (lv_at hl 1 rfl) ?_
  refine lv_if_lt (tgt := 19) hx hb dX8_tapeAt_1 (by decide) (fun c1 => ?_) (fun c1 => ?_)
  · refine lv_null hx hb dX8_tapeAt_19 ?_
    exact hret H locs 20 ls hw dX8_tapeAt_20
  · refine lv_iload_n hx hb dX8_tapeAt_4 rfl (lv_at hl 1 rfl) ?_
    refine lv_bipush (v := 6) hx hb dX8_tapeAt_5 (by decide) ?_
    refine lv_icmp_ge (tgt := 19) hx hb dX8_tapeAt_7 (by decide) (fun c2 => ?_) (fun c2 => ?_)
    · refine lv_null hx hb dX8_tapeAt_19 ?_
      exact hret H locs 20 ls hw dX8_tapeAt_20
    · exact absurd h (fun h => h.elim c1 c2)
theorem CX8_tapeAt_r (l : Launch) (D : va_G) (C : Nat → ClassId) (q_ q_now q_kept q_supposed q_rings q_netting q_text q_tapes : Nat) (u_isKept : Int32) (u_tapes : Nat → Option Nat) (x1 : Int32) (qt : Nat) (h : ¬ (x1 < 0 ∨ 6 ≤ x1)) (ht : u_tapes x1.toNatClampNeg = some qt) : Ct l yX8_tapeAt cX8_tapeAt 2 (some (.object "DebtRings$Tape")) 1 D C [.ref q_, .int x1] [(q_, .inr (8, [.ref q_now, .ref q_kept, .int u_isKept, .ref q_supposed, .ref q_rings, .ref q_netting, .ref q_text, .ref q_tapes])), (q_tapes, .inl (C 4, 6, .inr (.inr (.inr (.inr u_tapes)))))] [(q_, .inr (8, [.ref q_now, .ref q_kept, .int u_isKept, .ref q_supposed, .ref q_rings, .ref q_netting, .ref q_text, .ref q_tapes])), (q_tapes, .inl (C 4, 6, .inr (.inr (.inr (.inr u_tapes)))))] (some (.ref qt)) := by
  refine Ct_ofA (by decide) (Nat.le_of_ble_eq_true rfl) (Or.inl ⟨_, rfl⟩) (Or.inr ⟨_, rfl⟩) ?_
  intro p e R s m args below meth c A Q H locs ls cx hw hl hret
  have cx : CX p m c s args RX8 cX8_tapeAt 2 D C A R 1 := cx
  have hx := cx.1
  have hb := cx.2.1
  have hl : lv_has ls 2 [(0, .ref q_), (1, .int x1)] := hl
  have h0 : ¬ x1 < 0 := fun q => h (Or.inl q)
  have h6 : ¬ 6 ≤ x1 := fun q => h (Or.inr q)
  refine lv_iload_n hx hb dX8_tapeAt_0 rfl (lv_at hl 1 rfl) ?_
  refine lv_if_lt (tgt := 19) hx hb dX8_tapeAt_1 (by decide) (fun c1 => absurd c1 h0) (fun c1 => ?_)
  refine lv_iload_n hx hb dX8_tapeAt_4 rfl (lv_at hl 1 rfl) ?_
  refine lv_bipush (v := 6) hx hb dX8_tapeAt_5 (by decide) ?_
  refine lv_icmp_ge (tgt := 19) hx hb dX8_tapeAt_7 (by decide) (fun c2 => absurd c2 h6) (fun c2 => ?_)
  refine lv_aload_n hx hb dX8_tapeAt_10 rfl (lv_at hl 0 rfl) ?_
  refine r_get (ci := 8) (v := .ref q_tapes) cx hw iX8 0 7 rfl rfl (by decide) wf_X8_55 rfl dX8_tapeAt_11 ?_
  refine lv_iload_n hx hb dX8_tapeAt_14 rfl (lv_at hl 1 rfl) ?_
  have hin : vp_in x1 6 := by
    rw [vp_in_iff]
    have e0 : (0 : Int32).toInt = 0 := by decide
    have e6 : (6 : Int32).toInt = 6 := by decide
    rw [Int32.lt_iff_toInt_lt, e0] at h0
    rw [Int32.le_iff_toInt_le, e6] at h6
    omega
  refine va_aldq hx hb cx.2.2.2.2.2.1.1 hw.1 1 4 rfl rfl hin dX8_tapeAt_15 ?_
  rw [ht]
  refine lv_goto (tgt := 20) hx hb dX8_tapeAt_16 (by decide) ?_
  exact hret H locs 20 ls hw dX8_tapeAt_20
theorem my_X8_tapeAt : (yX8_tapeAt.cls ≠ "java/lang/invoke/MethodHandle" ∧ yX8_tapeAt.cls ≠ "java/lang/invoke/VarHandle") ∧ Cond.instanceMethod yX8_tapeAt ∈ gdt ∧ Cond.selects yX8_tapeAt.cls yX8_tapeAt yX8_tapeAt ∈ gdt ∧ Cond.initialized yX8_tapeAt.cls ∈ gdt ∧ Cond.code yX8_tapeAt cX8_tapeAt 2 (some (.object "DebtRings$Tape")) ∈ gdt := ⟨⟨by decide +kernel, by decide +kernel⟩, gdt_of 742 (by decide +kernel) (by decide +kernel), gdt_of 29 (by decide +kernel) (by decide +kernel), gdt_of 67 (by decide +kernel) (by decide +kernel), gdt_of 743 (by decide +kernel) (by decide +kernel)⟩
theorem ml_X8_tapeAt : (parseMethodDescriptor yX8_tapeAt.desc).map (fun d => d.parameters.length) = some 1 := by decide +kernel
