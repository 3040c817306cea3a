theorem lk_X6_30 : Cond.methodLink RX6 30 yX6_hasStretch ∈ gdt := gdt_of 830 (by decide +kernel) (by decide +kernel)
theorem lk_X6_34 : Cond.methodLink RX6 34 arraycopyName ∈ gdt := gdt_of 831 (by decide +kernel) (by decide +kernel)
theorem mna_ac : Cond.native arraycopyName ∈ gdt := gdt_of 833 (by decide +kernel) (by decide +kernel)
theorem mst_ac : Cond.static arraycopyName ∈ gdt := gdt_of 832 (by decide +kernel) (by decide +kernel)
theorem ini_System : Cond.initialized "java/lang/System" ∈ gdt := gdt_of 79 (by decide +kernel) (by decide +kernel)
theorem my_X6_hasStretch : (yX6_hasStretch.cls ≠ "java/lang/invoke/MethodHandle" ∧ yX6_hasStretch.cls ≠ "java/lang/invoke/VarHandle") ∧ Cond.instanceMethod yX6_hasStretch ∈ gdt ∧ Cond.selects yX6_hasStretch.cls yX6_hasStretch yX6_hasStretch ∈ gdt ∧ Cond.initialized yX6_hasStretch.cls ∈ gdt ∧ Cond.code yX6_hasStretch cX6_hasStretch 3 (some .boolean) ∈ gdt := ⟨⟨by decide +kernel, by decide +kernel⟩, gdt_of 823 (by decide +kernel) (by decide +kernel), gdt_of 824 (by decide +kernel) (by decide +kernel), gdt_of 76 (by decide +kernel) (by decide +kernel), gdt_of 825 (by decide +kernel) (by decide +kernel)⟩
theorem ml_X6_hasStretch : (parseMethodDescriptor yX6_hasStretch.desc).map (fun d => d.parameters.length) = some 2 := by decide +kernel
theorem dX6_takeStretch_0 : decode cX6_takeStretch 0 = .ok (.aload_n 0, 1) := by decide +kernel
theorem dX6_takeStretch_1 : decode cX6_takeStretch 1 = .ok (.iload_n 1, 1) := by decide +kernel
theorem dX6_takeStretch_2 : decode cX6_takeStretch 2 = .ok (.iload 4, 2) := by decide +kernel
theorem dX6_takeStretch_4 : decode cX6_takeStretch 4 = .ok (.invokevirtual 30, 3) := by decide +kernel
theorem dX6_takeStretch_7 : decode cX6_takeStretch 7 = .ok (.ifCond .eq 28, 3) := by decide +kernel
theorem dX6_takeStretch_10 : decode cX6_takeStretch 10 = .ok (.aload_n 2, 1) := by decide +kernel
theorem dX6_takeStretch_11 : decode cX6_takeStretch 11 = .ok (.iload_n 3, 1) := by decide +kernel
theorem dX6_takeStretch_12 : decode cX6_takeStretch 12 = .ok (.iload 4, 2) := by decide +kernel
theorem dX6_takeStretch_14 : decode cX6_takeStretch 14 = .ok (.invokevirtual 30, 3) := by decide +kernel
theorem dX6_takeStretch_17 : decode cX6_takeStretch 17 = .ok (.ifCond .eq 18, 3) := by decide +kernel
theorem dX6_takeStretch_20 : decode cX6_takeStretch 20 = .ok (.aload_n 2, 1) := by decide +kernel
theorem dX6_takeStretch_21 : decode cX6_takeStretch 21 = .ok (.getfield 18, 3) := by decide +kernel
theorem dX6_takeStretch_24 : decode cX6_takeStretch 24 = .ok (.iload_n 3, 1) := by decide +kernel
theorem dX6_takeStretch_25 : decode cX6_takeStretch 25 = .ok (.aload_n 0, 1) := by decide +kernel
theorem dX6_takeStretch_26 : decode cX6_takeStretch 26 = .ok (.getfield 18, 3) := by decide +kernel
theorem dX6_takeStretch_29 : decode cX6_takeStretch 29 = .ok (.iload_n 1, 1) := by decide +kernel
theorem dX6_takeStretch_30 : decode cX6_takeStretch 30 = .ok (.iload 4, 2) := by decide +kernel
theorem dX6_takeStretch_32 : decode cX6_takeStretch 32 = .ok (.invokestatic 34, 3) := by decide +kernel
theorem dX6_takeStretch_35 : decode cX6_takeStretch 35 = .ok (.return_, 1) := by decide +kernel
def fX6_takeStretch (u_length : Int32) (u_items : (Nat → Int64)) (ua2_length : Int32) (ua2_items : (Nat → Int64)) (x1 : Int32) (x3 : Int32) (x4 : Int32) : Option (Nat → Int64) := (fX6_hasStretch u_length x1 x4).bind (fun z1 => if z1 = 0 then (some u_items) else ((fX6_hasStretch ua2_length x3 x4).bind (fun z3 => if z3 = 0 then (some u_items) else (gC x3 x1 x4 60 60 (some (va_cpy ua2_items u_items (x3).toNatClampNeg (x1).toNatClampNeg (x4).toNatClampNeg))))))
set_option maxRecDepth 20000 in
theorem CX6_takeStretch (l : Launch) (D : va_G) (C : Nat → ClassId) (q_ q_items qa2_ qa2_items : Nat) (u_sort : Int32) (u_length : Int32) (u_items : (Nat → Int64)) (ua2_sort : Int32) (ua2_length : Int32) (ua2_items : (Nat → Int64)) (x1 : Int32) (x3 : Int32) (x4 : Int32) (z : (Nat → Int64)) (hF : fX6_takeStretch u_length u_items ua2_length ua2_items x1 x3 x4 = some z) : Ct l yX6_takeStretch cX6_takeStretch 5 none 2 D C [.ref q_, .int x1, .ref qa2_, .int x3, .int x4] [(q_, .inr (6, [.int u_sort, .int u_length, .ref q_items])), (q_items, .inl (C 1, 60, .inr (.inl u_items))), (qa2_, .inr (6, [.int ua2_sort, .int ua2_length, .ref qa2_items])), (qa2_items, .inl (C 1, 60, .inr (.inl ua2_items)))] [(q_, .inr (6, [.int u_sort, .int u_length, .ref q_items])), (q_items, .inl (C 1, 60, .inr (.inl z))), (qa2_, .inr (6, [.int ua2_sort, .int ua2_length, .ref qa2_items])), (qa2_items, .inl (C 1, 60, .inr (.inl ua2_items)))] none := by
  refine Ct_of (by decide) (Nat.le_of_ble_eq_true rfl) ?_
  intro p e R s m args below meth c A Q H locs ls cx hw hl hret
  have cx : CX p m c s args RX6 cX6_takeStretch 5 D C A R 2 := cx
  have hx := cx.1
  have hb := cx.2.1
  have hl : lv_has ls 5 [(0, .ref q_), (1, .int x1), (2, .ref qa2_), (3, .int x3), (4, .int x4)] := hl
  rw [fX6_takeStretch.eq_1] at hF
  refine lv_aload_n hx hb dX6_takeStretch_0 rfl (lv_at hl 0 rfl) ?_
  refine lv_iload_n hx hb dX6_takeStretch_1 rfl (lv_at hl 1 rfl) ?_
  refine lv_iload hx hb dX6_takeStretch_2 (lv_at hl 4 rfl) ?_
  obtain ⟨z1, hz1, hF⟩ := ob hF
  refine cV (wr := [(q_items, .inl (C 1, 60, .inr (.inl u_items))), (qa2_, .inr (6, [.int ua2_sort, .int ua2_length, .ref qa2_items])), (qa2_items, .inl (C 1, 60, .inr (.inl ua2_items)))]) (w2 := [(q_, .inr (6, [.int u_sort, .int u_length, .ref q_items])), (q_items, .inl (C 1, 60, .inr (.inl u_items))), (qa2_, .inr (6, [.int ua2_sort, .int ua2_length, .ref qa2_items])), (qa2_items, .inl (C 1, 60, .inr (.inl ua2_items)))]) (st2 := [.int z1]) cx (CX6_hasStretch l D C q_ q_items u_sort u_length x1 x4 z1 hz1) lk_X6_30 my_X6_hasStretch ml_X6_hasStretch ⟨by decide, by decide⟩ hw [0] [1, 2, 3] [3, 0, 1, 2] rfl rfl (by decide) rfl rfl rfl rfl (Nat.le_of_ble_eq_true rfl) dX6_takeStretch_4 rfl (fun H locs hw => ?_) hl.1
  refine lv_if_eq (tgt := 35) hx hb dX6_takeStretch_7 (by decide) (fun c2 => ?_) (fun c2 => ?_)
  · replace hF := oi_t c2 hF
    obtain rfl := Option.some.inj hF
    exact rt_v hret hw rfl dX6_takeStretch_35
  · replace hF := oi_f c2 hF
    refine lv_aload_n hx hb dX6_takeStretch_10 rfl (lv_at hl 2 rfl) ?_
    refine lv_iload_n hx hb dX6_takeStretch_11 rfl (lv_at hl 3 rfl) ?_
    refine lv_iload hx hb dX6_takeStretch_12 (lv_at hl 4 rfl) ?_
    obtain ⟨z3, hz3, hF⟩ := ob hF
    refine cV (wr := [(q_, .inr (6, [.int u_sort, .int u_length, .ref q_items])), (q_items, .inl (C 1, 60, .inr (.inl u_items))), (qa2_items, .inl (C 1, 60, .inr (.inl ua2_items)))]) (w2 := [(q_, .inr (6, [.int u_sort, .int u_length, .ref q_items])), (q_items, .inl (C 1, 60, .inr (.inl u_items))), (qa2_, .inr (6, [.int ua2_sort, .int ua2_length, .ref qa2_items])), (qa2_items, .inl (C 1, 60, .inr (.inl ua2_items)))]) (st2 := [.int z3]) cx (CX6_hasStretch l D C qa2_ qa2_items ua2_sort ua2_length x3 x4 z3 hz3) lk_X6_30 my_X6_hasStretch ml_X6_hasStretch ⟨by decide, by decide⟩ hw [2] [0, 1, 3] [0, 1, 3, 2] rfl rfl (by decide) rfl rfl rfl rfl (Nat.le_of_ble_eq_true rfl) dX6_takeStretch_14 rfl (fun H locs hw => ?_) hl.1
    refine lv_if_eq (tgt := 35) hx hb dX6_takeStretch_17 (by decide) (fun c4 => ?_) (fun c4 => ?_)
    · replace hF := oi_t c4 hF
      obtain rfl := Option.some.inj hF
      exact rt_v hret hw rfl dX6_takeStretch_35
    · replace hF := oi_f c4 hF
      refine lv_aload_n hx hb dX6_takeStretch_20 rfl (lv_at hl 2 rfl) ?_
      refine r_get (ci := 6) (v := .ref qa2_items) cx hw iX6 2 2 rfl rfl (by decide) wf_X6_18 rfl dX6_takeStretch_21 ?_
      refine lv_iload_n hx hb dX6_takeStretch_24 rfl (lv_at hl 3 rfl) ?_
      refine lv_aload_n hx hb dX6_takeStretch_25 rfl (lv_at hl 0 rfl) ?_
      refine r_get (ci := 6) (v := .ref q_items) cx hw iX6 0 2 rfl rfl (by decide) wf_X6_18 rfl dX6_takeStretch_26 ?_
      refine lv_iload_n hx hb dX6_takeStretch_29 rfl (lv_at hl 1 rfl) ?_
      refine lv_iload hx hb dX6_takeStretch_30 (lv_at hl 4 rfl) ?_
      obtain ⟨⟨g5a, g5b, g5c, g5d, g5e⟩, hF⟩ := gC_s hF
      refine va_copyl hx hb (cx.2.2.1.trans hl.1.symm) cx.2.2.2.1 (cx.2.2.2.2.1 _ lk_X6_34) (cx.2.2.2.2.1 _ mna_ac) (cx.2.2.2.2.1 _ mst_ac) (cx.2.2.2.2.1 _ ini_System) cx.2.2.2.2.2.1.1 hw.1 hw.2.1 hw.2.2 3 1 1 1 rfl rfl rfl rfl rfl g5a g5b g5c g5d g5e (fun _ _ => rfl) (Nat.le_trans (by omega) cx.2.2.2.2.2.2.2.1) (Nat.le_trans (Nat.le_trans (m := 40) (Nat.le_of_ble_eq_true rfl) (by omega)) cx.2.2.2.2.2.2.2.2) dX6_takeStretch_32 (fun H locs hP hD hS => ?_)
      have hw : HW D A s.heap H locs [(q_, .inr (6, [.int u_sort, .int u_length, .ref q_items])), (q_items, .inl (C 1, 60, .inr (.inl (va_cpy ua2_items u_items (x3).toNatClampNeg (x1).toNatClampNeg (x4).toNatClampNeg)))), (qa2_, .inr (6, [.int ua2_sort, .int ua2_length, .ref qa2_items])), (qa2_items, .inl (C 1, 60, .inr (.inl ua2_items)))] := ⟨hP, hD, hS⟩
      obtain rfl := Option.some.inj hF
      exact rt_v hret hw rfl dX6_takeStretch_35
def fX6_takeStretch_s (u_length : Int32) (u_items : (Nat → Int64)) (x1 : Int32) (x3 : Int32) (x4 : Int32) : Option (Nat → Int64) := (fX6_hasStretch u_length x1 x4).bind (fun z1 => if z1 = 0 then (some u_items) else ((fX6_hasStretch u_length x3 x4).bind (fun z3 => if z3 = 0 then (some u_items) else (gC x3 x1 x4 60 60 (some (va_cpy u_items u_items (x3).toNatClampNeg (x1).toNatClampNeg (x4).toNatClampNeg))))))
set_option maxRecDepth 20000 in
theorem CX6_takeStretch_s (l : Launch) (D : va_G) (C : Nat → ClassId) (q_ q_items : Nat) (u_sort : Int32) (u_length : Int32) (u_items : (Nat → Int64)) (x1 : Int32) (x3 : Int32) (x4 : Int32) (z : (Nat → Int64)) (hF : fX6_takeStretch_s u_length u_items x1 x3 x4 = some z) : Ct l yX6_takeStretch cX6_takeStretch 5 none 2 D C [.ref q_, .int x1, .ref q_, .int x3, .int x4] [(q_, .inr (6, [.int u_sort, .int u_length, .ref q_items])), (q_items, .inl (C 1, 60, .inr (.inl u_items)))] [(q_, .inr (6, [.int u_sort, .int u_length, .ref q_items])), (q_items, .inl (C 1, 60, .inr (.inl z)))] none := by
  refine Ct_of (by decide) (Nat.le_of_ble_eq_true rfl) ?_
  intro p e R s m args below meth c A Q H locs ls cx hw hl hret
  have cx : CX p m c s args RX6 cX6_takeStretch 5 D C A R 2 := cx
  have hx := cx.1
  have hb := cx.2.1
  have hl : lv_has ls 5 [(0, .ref q_), (1, .int x1), (2, .ref q_), (3, .int x3), (4, .int x4)] := hl
  rw [fX6_takeStretch_s.eq_1] at hF
  refine lv_aload_n hx hb dX6_takeStretch_0 rfl (lv_at hl 0 rfl) ?_
  refine lv_iload_n hx hb dX6_takeStretch_1 rfl (lv_at hl 1 rfl) ?_
  refine lv_iload hx hb dX6_takeStretch_2 (lv_at hl 4 rfl) ?_
  obtain ⟨z1, hz1, hF⟩ := ob hF
  refine cV (wr := [(q_items, .inl (C 1, 60, .inr (.inl u_items)))]) (w2 := [(q_, .inr (6, [.int u_sort, .int u_length, .ref q_items])), (q_items, .inl (C 1, 60, .inr (.inl u_items)))]) (st2 := [.int z1]) cx (CX6_hasStretch l D C q_ q_items u_sort u_length x1 x4 z1 hz1) lk_X6_30 my_X6_hasStretch ml_X6_hasStretch ⟨by decide, by decide⟩ hw [0] [1] [1, 0] rfl rfl (by decide) rfl rfl rfl rfl (Nat.le_of_ble_eq_true rfl) dX6_takeStretch_4 rfl (fun H locs hw => ?_) hl.1
  refine lv_if_eq (tgt := 35) hx hb dX6_takeStretch_7 (by decide) (fun c2 => ?_) (fun c2 => ?_)
  · replace hF := oi_t c2 hF
    obtain rfl := Option.some.inj hF
    exact rt_v hret hw rfl dX6_takeStretch_35
  · replace hF := oi_f c2 hF
    refine lv_aload_n hx hb dX6_takeStretch_10 rfl (lv_at hl 2 rfl) ?_
    refine lv_iload_n hx hb dX6_takeStretch_11 rfl (lv_at hl 3 rfl) ?_
    refine lv_iload hx hb dX6_takeStretch_12 (lv_at hl 4 rfl) ?_
    obtain ⟨z3, hz3, hF⟩ := ob hF
    refine cV (wr := [(q_items, .inl (C 1, 60, .inr (.inl u_items)))]) (w2 := [(q_, .inr (6, [.int u_sort, .int u_length, .ref q_items])), (q_items, .inl (C 1, 60, .inr (.inl u_items)))]) (st2 := [.int z3]) cx (CX6_hasStretch l D C q_ q_items u_sort u_length x3 x4 z3 hz3) lk_X6_30 my_X6_hasStretch ml_X6_hasStretch ⟨by decide, by decide⟩ hw [0] [1] [1, 0] rfl rfl (by decide) rfl rfl rfl rfl (Nat.le_of_ble_eq_true rfl) dX6_takeStretch_14 rfl (fun H locs hw => ?_) hl.1
    refine lv_if_eq (tgt := 35) hx hb dX6_takeStretch_17 (by decide) (fun c4 => ?_) (fun c4 => ?_)
    · replace hF := oi_t c4 hF
      obtain rfl := Option.some.inj hF
      exact rt_v hret hw rfl dX6_takeStretch_35
    · replace hF := oi_f c4 hF
      refine lv_aload_n hx hb dX6_takeStretch_20 rfl (lv_at hl 2 rfl) ?_
      refine r_get (ci := 6) (v := .ref q_items) cx hw iX6 0 2 rfl rfl (by decide) wf_X6_18 rfl dX6_takeStretch_21 ?_
      refine lv_iload_n hx hb dX6_takeStretch_24 rfl (lv_at hl 3 rfl) ?_
      refine lv_aload_n hx hb dX6_takeStretch_25 rfl (lv_at hl 0 rfl) ?_
      refine r_get (ci := 6) (v := .ref q_items) cx hw iX6 0 2 rfl rfl (by decide) wf_X6_18 rfl dX6_takeStretch_26 ?_
      refine lv_iload_n hx hb dX6_takeStretch_29 rfl (lv_at hl 1 rfl) ?_
      refine lv_iload hx hb dX6_takeStretch_30 (lv_at hl 4 rfl) ?_
      obtain ⟨⟨g5a, g5b, g5c, g5d, g5e⟩, hF⟩ := gC_s hF
      refine va_copyl hx hb (cx.2.2.1.trans hl.1.symm) cx.2.2.2.1 (cx.2.2.2.2.1 _ lk_X6_34) (cx.2.2.2.2.1 _ mna_ac) (cx.2.2.2.2.1 _ mst_ac) (cx.2.2.2.2.1 _ ini_System) cx.2.2.2.2.2.1.1 hw.1 hw.2.1 hw.2.2 1 1 1 1 rfl rfl rfl rfl rfl g5a g5b g5c g5d g5e (fun _ _ => rfl) (Nat.le_trans (by omega) cx.2.2.2.2.2.2.2.1) (Nat.le_trans (Nat.le_trans (m := 40) (Nat.le_of_ble_eq_true rfl) (by omega)) cx.2.2.2.2.2.2.2.2) dX6_takeStretch_32 (fun H locs hP hD hS => ?_)
      have hw : HW D A s.heap H locs [(q_, .inr (6, [.int u_sort, .int u_length, .ref q_items])), (q_items, .inl (C 1, 60, .inr (.inl (va_cpy u_items u_items (x3).toNatClampNeg (x1).toNatClampNeg (x4).toNatClampNeg))))] := ⟨hP, hD, hS⟩
      obtain rfl := Option.some.inj hF
      exact rt_v hret hw rfl dX6_takeStretch_35
theorem lk_X8_242 : Cond.methodLink RX8 242 yX8_tapeAt ∈ gdt := gdt_of 740 (by decide +kernel) (by decide +kernel)
theorem lk_X8_246 : Cond.methodLink RX8 246 yX6_sort ∈ gdt := gdt_of 744 (by decide +kernel) (by decide +kernel)
theorem lk_X8_249 : Cond.methodLink RX8 249 yX6_length ∈ gdt := gdt_of 748 (by decide +kernel) (by decide +kernel)
theorem lk_X8_252 : Cond.methodLink RX8 252 yX6_at ∈ gdt := gdt_of 752 (by decide +kernel) (by decide +kernel)
theorem lk_X8_255 : Cond.methodLink RX8 255 yX8_codeOfPayment ∈ gdt := gdt_of 760 (by decide +kernel) (by decide +kernel)
theorem my_X6_sort : (yX6_sort.cls ≠ "java/lang/invoke/MethodHandle" ∧ yX6_sort.cls ≠ "java/lang/invoke/VarHandle") ∧ Cond.instanceMethod yX6_sort ∈ gdt ∧ Cond.selects yX6_sort.cls yX6_sort yX6_sort ∈ gdt ∧ Cond.initialized yX6_sort.cls ∈ gdt ∧ Cond.code yX6_sort cX6_sort 1 (some .int) ∈ gdt := ⟨⟨by decide +kernel, by decide +kernel⟩, gdt_of 745 (by decide +kernel) (by decide +kernel), gdt_of 746 (by decide +kernel) (by decide +kernel), gdt_of 76 (by decide +kernel) (by decide +kernel), gdt_of 747 (by decide +kernel) (by decide +kernel)⟩
theorem ml_X6_sort : (parseMethodDescriptor yX6_sort.desc).map (fun d => d.parameters.length) = some 0 := by decide +kernel
theorem my_X6_length : (yX6_length.cls ≠ "java/lang/invoke/MethodHandle" ∧ yX6_length.cls ≠ "java/lang/invoke/VarHandle") ∧ Cond.instanceMethod yX6_length ∈ gdt ∧ Cond.selects yX6_length.cls yX6_length yX6_length ∈ gdt ∧ Cond.initialized yX6_length.cls ∈ gdt ∧ Cond.code yX6_length cX6_length 1 (some .int) ∈ gdt := ⟨⟨by decide +kernel, by decide +kernel⟩, gdt_of 749 (by decide +kernel) (by decide +kernel), gdt_of 750 (by decide +kernel) (by decide +kernel), gdt_of 76 (by decide +kernel) (by decide +kernel), gdt_of 751 (by decide +kernel) (by decide +kernel)⟩
theorem ml_X6_length : (parseMethodDescriptor yX6_length.desc).map (fun d => d.parameters.length) = some 0 := by decide +kernel
theorem my_X6_at : (yX6_at.cls ≠ "java/lang/invoke/MethodHandle" ∧ yX6_at.cls ≠ "java/lang/invoke/VarHandle") ∧ Cond.instanceMethod yX6_at ∈ gdt ∧ Cond.selects yX6_at.cls yX6_at yX6_at ∈ gdt ∧ Cond.initialized yX6_at.cls ∈ gdt ∧ Cond.code yX6_at cX6_at 2 (some .long) ∈ gdt := ⟨⟨by decide +kernel, by decide +kernel⟩, gdt_of 753 (by decide +kernel) (by decide +kernel), gdt_of 754 (by decide +kernel) (by decide +kernel), gdt_of 76 (by decide +kernel) (by decide +kernel), gdt_of 755 (by decide +kernel) (by decide +kernel)⟩
theorem ml_X6_at : (parseMethodDescriptor yX6_at.desc).map (fun d => d.parameters.length) = some 1 := by decide +kernel
theorem my_X8_codeOfPayment : (yX8_codeOfPayment.cls ≠ "java/lang/invoke/MethodHandle" ∧ yX8_codeOfPayment.cls ≠ "java/lang/invoke/VarHandle") ∧ Cond.instanceMethod yX8_codeOfPayment ∈ gdt ∧ Cond.selects yX8_codeOfPayment.cls yX8_codeOfPayment yX8_codeOfPayment ∈ gdt ∧ Cond.initialized yX8_codeOfPayment.cls ∈ gdt ∧ Cond.code yX8_codeOfPayment cX8_codeOfPayment 3 (some .long) ∈ gdt := ⟨⟨by decide +kernel, by decide +kernel⟩, gdt_of 762 (by decide +kernel) (by decide +kernel), gdt_of 30 (by decide +kernel) (by decide +kernel), gdt_of 67 (by decide +kernel) (by decide +kernel), gdt_of 763 (by decide +kernel) (by decide +kernel)⟩
theorem ml_X8_codeOfPayment : (parseMethodDescriptor yX8_codeOfPayment.desc).map (fun d => d.parameters.length) = some 1 := by decide +kernel
theorem dX8_judge_0 : decode cX8_judge 0 = .ok (.aload_n 0, 1) := by decide +kernel
theorem dX8_judge_1 : decode cX8_judge 1 = .ok (.iload_n 1, 1) := by decide +kernel
theorem dX8_judge_2 : decode cX8_judge 2 = .ok (.invokevirtual 242, 3) := by decide +kernel
theorem dX8_judge_5 : decode cX8_judge 5 = .ok (.astore_n 3, 1) := by decide +kernel
theorem dX8_judge_6 : decode cX8_judge 6 = .ok (.aload_n 3, 1) := by decide +kernel
theorem dX8_judge_7 : decode cX8_judge 7 = .ok (.ifnonnull 5, 3) := by decide +kernel
theorem dX8_judge_10 : decode cX8_judge 10 = .ok (.iconst (-1), 1) := by decide +kernel
theorem dX8_judge_11 : decode cX8_judge 11 = .ok (.ireturn, 1) := by decide +kernel
theorem dX8_judge_12 : decode cX8_judge 12 = .ok (.aload_n 3, 1) := by decide +kernel
theorem dX8_judge_13 : decode cX8_judge 13 = .ok (.invokevirtual 246, 3) := by decide +kernel
theorem dX8_judge_16 : decode cX8_judge 16 = .ok (.iconst (-1), 1) := by decide +kernel
theorem dX8_judge_17 : decode cX8_judge 17 = .ok (.if_icmp .eq 14, 3) := by decide +kernel
theorem dX8_judge_20 : decode cX8_judge 20 = .ok (.aload_n 3, 1) := by decide +kernel
theorem dX8_judge_21 : decode cX8_judge 21 = .ok (.invokevirtual 246, 3) := by decide +kernel
theorem dX8_judge_24 : decode cX8_judge 24 = .ok (.iconst 3, 1) := by decide +kernel
theorem dX8_judge_25 : decode cX8_judge 25 = .ok (.if_icmp .eq 6, 3) := by decide +kernel
theorem dX8_judge_28 : decode cX8_judge 28 = .ok (.bipush (-12), 2) := by decide +kernel
theorem dX8_judge_30 : decode cX8_judge 30 = .ok (.ireturn, 1) := by decide +kernel
theorem dX8_judge_31 : decode cX8_judge 31 = .ok (.aload_n 0, 1) := by decide +kernel
theorem dX8_judge_32 : decode cX8_judge 32 = .ok (.getfield 42, 3) := by decide +kernel
theorem dX8_judge_35 : decode cX8_judge 35 = .ok (.aload_n 0, 1) := by decide +kernel
theorem dX8_judge_36 : decode cX8_judge 36 = .ok (.getfield 12, 3) := by decide +kernel
theorem dX8_judge_39 : decode cX8_judge 39 = .ok (.getfield 68, 3) := by decide +kernel
theorem dX8_judge_42 : decode cX8_judge 42 = .ok (.invokevirtual 167, 3) := by decide +kernel
theorem dX8_judge_45 : decode cX8_judge 45 = .ok (.iconst 0, 1) := by decide +kernel
theorem dX8_judge_46 : decode cX8_judge 46 = .ok (.istore 4, 2) := by decide +kernel
theorem dX8_judge_48 : decode cX8_judge 48 = .ok (.iload 4, 2) := by decide +kernel
theorem dX8_judge_50 : decode cX8_judge 50 = .ok (.aload_n 0, 1) := by decide +kernel
theorem dX8_judge_51 : decode cX8_judge 51 = .ok (.getfield 42, 3) := by decide +kernel
theorem dX8_judge_54 : decode cX8_judge 54 = .ok (.getfield 173, 3) := by decide +kernel
theorem dX8_judge_57 : decode cX8_judge 57 = .ok (.invokevirtual 154, 3) := by decide +kernel
theorem dX8_judge_60 : decode cX8_judge 60 = .ok (.if_icmp .ge 53, 3) := by decide +kernel
theorem dX8_judge_63 : decode cX8_judge 63 = .ok (.iload_n 2, 1) := by decide +kernel
theorem dX8_judge_64 : decode cX8_judge 64 = .ok (.ifCond .lt 16, 3) := by decide +kernel
theorem dX8_judge_67 : decode cX8_judge 67 = .ok (.iload_n 2, 1) := by decide +kernel
theorem dX8_judge_68 : decode cX8_judge 68 = .ok (.aload_n 3, 1) := by decide +kernel
theorem dX8_judge_69 : decode cX8_judge 69 = .ok (.invokevirtual 249, 3) := by decide +kernel
theorem dX8_judge_72 : decode cX8_judge 72 = .ok (.iconst 1, 1) := by decide +kernel
theorem dX8_judge_73 : decode cX8_judge 73 = .ok (.isub, 1) := by decide +kernel
theorem dX8_judge_74 : decode cX8_judge 74 = .ok (.iload 4, 2) := by decide +kernel
theorem dX8_judge_76 : decode cX8_judge 76 = .ok (.isub, 1) := by decide +kernel
theorem dX8_judge_77 : decode cX8_judge 77 = .ok (.if_icmp .le 9, 3) := by decide +kernel
theorem dX8_judge_80 : decode cX8_judge 80 = .ok (.bipush 100, 2) := by decide +kernel
theorem dX8_judge_82 : decode cX8_judge 82 = .ok (.iload 4, 2) := by decide +kernel
theorem dX8_judge_84 : decode cX8_judge 84 = .ok (.iadd, 1) := by decide +kernel
theorem dX8_judge_85 : decode cX8_judge 85 = .ok (.ireturn, 1) := by decide +kernel
theorem dX8_judge_86 : decode cX8_judge 86 = .ok (.aload_n 3, 1) := by decide +kernel
theorem dX8_judge_87 : decode cX8_judge 87 = .ok (.iload_n 2, 1) := by decide +kernel
theorem dX8_judge_88 : decode cX8_judge 88 = .ok (.iload 4, 2) := by decide +kernel
theorem dX8_judge_90 : decode cX8_judge 90 = .ok (.iadd, 1) := by decide +kernel
theorem dX8_judge_91 : decode cX8_judge 91 = .ok (.invokevirtual 252, 3) := by decide +kernel
theorem dX8_judge_94 : decode cX8_judge 94 = .ok (.aload_n 0, 1) := by decide +kernel
theorem dX8_judge_95 : decode cX8_judge 95 = .ok (.iload 4, 2) := by decide +kernel
theorem dX8_judge_97 : decode cX8_judge 97 = .ok (.invokevirtual 255, 3) := by decide +kernel
theorem dX8_judge_100 : decode cX8_judge 100 = .ok (.lcmp, 1) := by decide +kernel
theorem dX8_judge_101 : decode cX8_judge 101 = .ok (.ifCond .eq 6, 3) := by decide +kernel
theorem dX8_judge_104 : decode cX8_judge 104 = .ok (.iload 4, 2) := by decide +kernel
theorem dX8_judge_106 : decode cX8_judge 106 = .ok (.ireturn, 1) := by decide +kernel
theorem dX8_judge_107 : decode cX8_judge 107 = .ok (.iinc 4 1, 3) := by decide +kernel
theorem dX8_judge_110 : decode cX8_judge 110 = .ok (.goto (-62), 3) := by decide +kernel
theorem dX8_judge_113 : decode cX8_judge 113 = .ok (.bipush (-5), 2) := by decide +kernel
theorem dX8_judge_115 : decode cX8_judge 115 = .ok (.ireturn, 1) := by decide +kernel
def fX8_judge_L48 (n_netting_payments_numbers : Nat) (u_netting_groupCount : Int32) (u_netting_balances : (Nat → Int32)) (u_netting_left : (Nat → Int32)) (u_netting_sums : (Nat → Int32)) (u_netting_most : (Nat → Int32)) (u_netting_groups : (Nat → Int32)) (u_netting_payments_size : Int32) (u_netting_payments_numbers : (Nat → Int32)) (ut1_length : Int32) (ut1_items : (Nat → Int64)) (x2 : Int32) : Nat → Int32 → Option (Int32 × Int32 × (Nat → Int32) × (Nat → Int32) × (Nat → Int32) × (Nat → Int32) × (Nat → Int32) × Int32 × (Nat → Int32))
  | 0, _ => none
  | n + 1, x4 => (fX5_size u_netting_payments_size).bind (fun z5 => if z5 ≤ x4 then (some ((-5), u_netting_groupCount, u_netting_balances, u_netting_left, u_netting_sums, u_netting_most, u_netting_groups, u_netting_payments_size, u_netting_payments_numbers)) else (if x2 < 0 then (some (100 + x4, u_netting_groupCount, u_netting_balances, u_netting_left, u_netting_sums, u_netting_most, u_netting_groups, u_netting_payments_size, u_netting_payments_numbers)) else ((fX6_length ut1_length).bind (fun z8 => if x2 ≤ ((z8 - 1) - x4) then ((fX6_at ut1_length ut1_items (x2 + x4)).bind (fun z10 => (fX8_codeOfPayment n_netting_payments_numbers u_netting_payments_size u_netting_payments_numbers x4).bind (fun z11 => if (lg_cmp z10 z11) = 0 then (fX8_judge_L48 n_netting_payments_numbers u_netting_groupCount u_netting_balances u_netting_left u_netting_sums u_netting_most u_netting_groups u_netting_payments_size u_netting_payments_numbers ut1_length ut1_items x2 n (x4 + 1)) else (some (x4, u_netting_groupCount, u_netting_balances, u_netting_left, u_netting_sums, u_netting_most, u_netting_groups, u_netting_payments_size, u_netting_payments_numbers))))) else (some (100 + x4, u_netting_groupCount, u_netting_balances, u_netting_left, u_netting_sums, u_netting_most, u_netting_groups, u_netting_payments_size, u_netting_payments_numbers))))))
def fX8_judge (n_netting_payments_numbers : Nat) (u_now_debts_owed : (Nat → Int32)) (u_netting_groupCount : Int32) (u_netting_balances : (Nat → Int32)) (u_netting_left : (Nat → Int32)) (u_netting_sums : (Nat → Int32)) (u_netting_most : (Nat → Int32)) (u_netting_groups : (Nat → Int32)) (u_netting_payments_room : Int32) (u_netting_payments_size : Int32) (u_netting_payments_numbers : (Nat → Int32)) (ut1_sort : Int32) (ut1_length : Int32) (ut1_items : (Nat → Int64)) (x1 : Int32) (x2 : Int32) : Option (Int32 × Int32 × (Nat → Int32) × (Nat → Int32) × (Nat → Int32) × (Nat → Int32) × (Nat → Int32) × Int32 × (Nat → Int32)) := if x1 < 0 ∨ 6 ≤ x1 then (some ((-1), u_netting_groupCount, u_netting_balances, u_netting_left, u_netting_sums, u_netting_most, u_netting_groups, u_netting_payments_size, u_netting_payments_numbers)) else ((fX6_sort ut1_sort).bind (fun z2 => if z2 = (-1) then ((fX3_net n_netting_payments_numbers u_netting_balances u_netting_left u_netting_sums u_netting_most u_netting_groups u_netting_payments_room u_netting_payments_numbers u_now_debts_owed).bind (fun z4 => fX8_judge_L48 n_netting_payments_numbers z4.1 z4.2.1 z4.2.2.1 z4.2.2.2.1 z4.2.2.2.2.1 z4.2.2.2.2.2.1 z4.2.2.2.2.2.2.1 z4.2.2.2.2.2.2.2 ut1_length ut1_items x2 400 0)) else ((fX6_sort ut1_sort).bind (fun z13 => if z13 = 3 then ((fX3_net n_netting_payments_numbers u_netting_balances u_netting_left u_netting_sums u_netting_most u_netting_groups u_netting_payments_room u_netting_payments_numbers u_now_debts_owed).bind (fun z15 => fX8_judge_L48 n_netting_payments_numbers z15.1 z15.2.1 z15.2.2.1 z15.2.2.2.1 z15.2.2.2.2.1 z15.2.2.2.2.2.1 z15.2.2.2.2.2.2.1 z15.2.2.2.2.2.2.2 ut1_length ut1_items x2 400 0)) else (some ((-12), u_netting_groupCount, u_netting_balances, u_netting_left, u_netting_sums, u_netting_most, u_netting_groups, u_netting_payments_size, u_netting_payments_numbers))))))
set_option maxRecDepth 20000 in
theorem LX8_judge_48 {p : Program} {l : Launch} {e : Env} {R : Room} {s : State} {m : MethodId} {args : Array Value} {below : List Frame} {meth : Method} {c : Code} {Q : State → Prop} {D : va_G} {C : Nat → ClassId} {A : Nat → Prop} (cx : CX p m c s args RX8 cX8_judge 5 D C A R 5) {q_ q_now q_kept q_supposed q_rings q_netting q_text q_tapes q_now_debts q_now_consents q_now_trail q_now_seen q_now_events q_now_book q_now_debts_owed q_now_debts_order q_netting_balances q_netting_left q_netting_sums q_netting_most q_netting_groups q_netting_payments q_netting_payments_numbers qt1_ qt1_items n_netting_payments_numbers : Nat} {u_isKept : Int32} {u_now_people : Int32} {u_now_debts_size : Int32} {u_now_debts_owed : (Nat → Int32)} {u_netting_groupCount : Int32} {u_netting_balances : (Nat → Int32)} {u_netting_left : (Nat → Int32)} {u_netting_sums : (Nat → Int32)} {u_netting_most : (Nat → Int32)} {u_netting_groups : (Nat → Int32)} {u_netting_payments_room : Int32} {u_netting_payments_size : Int32} {u_netting_payments_numbers : (Nat → Int32)} {u_tapes : (Nat → Option Nat)} {ut1_sort : Int32} {ut1_length : Int32} {ut1_items : (Nat → Int64)} {x2 : Int32} {z : (Int32 × Int32 × (Nat → Int32) × (Nat → Int32) × (Nat → Int32) × (Nat → Int32) × (Nat → Int32) × Int32 × (Nat → Int32))} (hret : RT p l e R s m args below meth c Q D A cX8_judge (some .int) [(q_, .inr (8, [.ref q_now, .ref q_kept, .int u_isKept, .ref q_supposed, .ref q_rings, .ref q_netting, .ref q_text, .ref q_tapes])), (q_now, .inr (0, [.int u_now_people, .ref q_now_debts, .ref q_now_consents, .ref q_now_trail, .ref q_now_seen, .ref q_now_events, .ref q_now_book])), (q_now_debts, .inr (2, [.ref q_now_debts_owed, .ref q_now_debts_order, .int u_now_debts_size])), (q_now_debts_owed, .inl (C 0, 36, .inl u_now_debts_owed)), (q_netting, .inr (3, [.ref q_netting_balances, .ref q_netting_left, .ref q_netting_sums, .ref q_netting_most, .ref q_netting_groups, .int z.2.1, .ref q_netting_payments])), (q_netting_balances, .inl (C 0, 6, .inl z.2.2.1)), (q_netting_left, .inl (C 0, 6, .inl z.2.2.2.1)), (q_netting_sums, .inl (C 0, 64, .inl z.2.2.2.2.1)), (q_netting_most, .inl (C 0, 64, .inl z.2.2.2.2.2.1)), (q_netting_groups, .inl (C 0, 6, .inl z.2.2.2.2.2.2.1)), (q_netting_payments, .inr (5, [.ref q_netting_payments_numbers, .int u_netting_payments_room, .int z.2.2.2.2.2.2.2.1])), (q_netting_payments_numbers, .inl (C 0, n_netting_payments_numbers, .inl z.2.2.2.2.2.2.2.2)), (q_tapes, .inl (C 4, 6, .inr (.inr (.inr (.inr u_tapes))))), (qt1_, .inr (6, [.int ut1_sort, .int ut1_length, .ref qt1_items])), (qt1_items, .inl (C 1, 60, .inr (.inl ut1_items)))] (some (.int z.1))) :
    ∀ (n : Nat) (x4 : Int32) (H : Heap) (locs : List Loc) (ls : Array Slot), fX8_judge_L48 n_netting_payments_numbers u_netting_groupCount u_netting_balances u_netting_left u_netting_sums u_netting_most u_netting_groups u_netting_payments_size u_netting_payments_numbers ut1_length ut1_items x2 n x4 = some z → HW D A s.heap H locs [(q_, .inr (8, [.ref q_now, .ref q_kept, .int u_isKept, .ref q_supposed, .ref q_rings, .ref q_netting, .ref q_text, .ref q_tapes])), (q_now, .inr (0, [.int u_now_people, .ref q_now_debts, .ref q_now_consents, .ref q_now_trail, .ref q_now_seen, .ref q_now_events, .ref q_now_book])), (q_now_debts, .inr (2, [.ref q_now_debts_owed, .ref q_now_debts_order, .int u_now_debts_size])), (q_now_debts_owed, .inl (C 0, 36, .inl u_now_debts_owed)), (q_netting, .inr (3, [.ref q_netting_balances, .ref q_netting_left, .ref q_netting_sums, .ref q_netting_most, .ref q_netting_groups, .int u_netting_groupCount, .ref q_netting_payments])), (q_netting_balances, .inl (C 0, 6, .inl u_netting_balances)), (q_netting_left, .inl (C 0, 6, .inl u_netting_left)), (q_netting_sums, .inl (C 0, 64, .inl u_netting_sums)), (q_netting_most, .inl (C 0, 64, .inl u_netting_most)), (q_netting_groups, .inl (C 0, 6, .inl u_netting_groups)), (q_netting_payments, .inr (5, [.ref q_netting_payments_numbers, .int u_netting_payments_room, .int u_netting_payments_size])), (q_netting_payments_numbers, .inl (C 0, n_netting_payments_numbers, .inl u_netting_payments_numbers)), (q_tapes, .inl (C 4, 6, .inr (.inr (.inr (.inr u_tapes))))), (qt1_, .inr (6, [.int ut1_sort, .int ut1_length, .ref qt1_items])), (qt1_items, .inl (C 1, 60, .inr (.inl ut1_items)))] → lv_has ls 5 [(0, .ref q_), (2, .int x2), (3, .ref qt1_), (4, .int x4)] → W p l e R s m args below meth c H locs 0 0 Q (F0 m 48 ls []) := by
  have hx := cx.1
  have hb := cx.2.1
  intro n
  induction n with
  | zero => intro x4 H locs ls hF; cases hF
  | succ n ih =>
    intro x4 H locs ls hF hw hl
    rw [fX8_judge_L48.eq_2] at hF
    refine lv_iload hx hb dX8_judge_48 (lv_at hl 3 rfl) ?_
    refine lv_aload_n hx hb dX8_judge_50 rfl (lv_at hl 0 rfl) ?_
    refine r_get (ci := 8) (v := .ref q_netting) cx hw iX8 0 5 rfl rfl (by decide) wf_X8_42 rfl dX8_judge_51 ?_
    refine r_get (ci := 3) (v := .ref q_netting_payments) cx hw iX3 4 6 rfl rfl (by decide) wf_X8_173 rfl dX8_judge_54 ?_
    obtain ⟨z5, hz5, hF⟩ := ob hF
    refine cV (wr := [(q_, .inr (8, [.ref q_now, .ref q_kept, .int u_isKept, .ref q_supposed, .ref q_rings, .ref q_netting, .ref q_text, .ref q_tapes])), (q_now, .inr (0, [.int u_now_people, .ref q_now_debts, .ref q_now_consents, .ref q_now_trail, .ref q_now_seen, .ref q_now_events, .ref q_now_book])), (q_now_debts, .inr (2, [.ref q_now_debts_owed, .ref q_now_debts_order, .int u_now_debts_size])), (q_now_debts_owed, .inl (C 0, 36, .inl u_now_debts_owed)), (q_netting, .inr (3, [.ref q_netting_balances, .ref q_netting_left, .ref q_netting_sums, .ref q_netting_most, .ref q_netting_groups, .int u_netting_groupCount, .ref q_netting_payments])), (q_netting_balances, .inl (C 0, 6, .inl u_netting_balances)), (q_netting_left, .inl (C 0, 6, .inl u_netting_left)), (q_netting_sums, .inl (C 0, 64, .inl u_netting_sums)), (q_netting_most, .inl (C 0, 64, .inl u_netting_most)), (q_netting_groups, .inl (C 0, 6, .inl u_netting_groups)), (q_netting_payments_numbers, .inl (C 0, n_netting_payments_numbers, .inl u_netting_payments_numbers)), (q_tapes, .inl (C 4, 6, .inr (.inr (.inr (.inr u_tapes))))), (qt1_, .inr (6, [.int ut1_sort, .int ut1_length, .ref qt1_items])), (qt1_items, .inl (C 1, 60, .inr (.inl ut1_items)))]) (w2 := [(q_, .inr (8, [.ref q_now, .ref q_kept, .int u_isKept, .ref q_supposed, .ref q_rings, .ref q_netting, .ref q_text, .ref q_tapes])), (q_now, .inr (0, [.int u_now_people, .ref q_now_debts, .ref q_now_consents, .ref q_now_trail, .ref q_now_seen, .ref q_now_events, .ref q_now_book])), (q_now_debts, .inr (2, [.ref q_now_debts_owed, .ref q_now_debts_order, .int u_now_debts_size])), (q_now_debts_owed, .inl (C 0, 36, .inl u_now_debts_owed)), (q_netting, .inr (3, [.ref q_netting_balances, .ref q_netting_left, .ref q_netting_sums, .ref q_netting_most, .ref q_netting_groups, .int u_netting_groupCount, .ref q_netting_payments])), (q_netting_balances, .inl (C 0, 6, .inl u_netting_balances)), (q_netting_left, .inl (C 0, 6, .inl u_netting_left)), (q_netting_sums, .inl (C 0, 64, .inl u_netting_sums)), (q_netting_most, .inl (C 0, 64, .inl u_netting_most)), (q_netting_groups, .inl (C 0, 6, .inl u_netting_groups)), (q_netting_payments, .inr (5, [.ref q_netting_payments_numbers, .int u_netting_payments_room, .int u_netting_payments_size])), (q_netting_payments_numbers, .inl (C 0, n_netting_payments_numbers, .inl u_netting_payments_numbers)), (q_tapes, .inl (C 4, 6, .inr (.inr (.inr (.inr u_tapes))))), (qt1_, .inr (6, [.int ut1_sort, .int ut1_length, .ref qt1_items])), (qt1_items, .inl (C 1, 60, .inr (.inl ut1_items)))]) (st2 := [.int z5, .int x4]) cx (CX5_size l D C q_netting_payments q_netting_payments_numbers u_netting_payments_room u_netting_payments_size z5 hz5) lk_X8_154 my_X5_size ml_X5_size ⟨by decide, by decide⟩ hw [10] [0, 1, 2, 3, 4, 5, 6, 7, 8, 9, 11, 12, 13, 14] [0, 1, 2, 3, 4, 5, 6, 7, 8, 9, 14, 10, 11, 12, 13] rfl rfl (by decide) rfl rfl rfl rfl (Nat.le_of_ble_eq_true rfl) dX8_judge_57 rfl (fun H locs hw => ?_) hl.1
    refine lv_icmp_ge (tgt := 113) hx hb dX8_judge_60 (by decide) (fun c6 => ?_) (fun c6 => ?_)
    · replace hF := oi_t c6 hF
      refine lv_bipush (v := (-5)) hx hb dX8_judge_113 (by decide) ?_
      obtain rfl := Option.some.inj hF
      exact rt_i hret hw rfl dX8_judge_115
    · replace hF := oi_f c6 hF
      refine lv_iload_n hx hb dX8_judge_63 rfl (lv_at hl 1 rfl) ?_
      refine lv_if_lt (tgt := 80) hx hb dX8_judge_64 (by decide) (fun c7 => ?_) (fun c7 => ?_)
      · replace hF := oi_t c7 hF
        refine lv_bipush (v := 100) hx hb dX8_judge_80 (by decide) ?_
        refine lv_iload hx hb dX8_judge_82 (lv_at hl 3 rfl) ?_
        refine lv_iadd hx hb dX8_judge_84 ?_
        obtain rfl := Option.some.inj hF
        exact rt_i hret hw rfl dX8_judge_85
      · replace hF := oi_f c7 hF
        refine lv_iload_n hx hb dX8_judge_67 rfl (lv_at hl 1 rfl) ?_
        refine lv_aload_n hx hb dX8_judge_68 rfl (lv_at hl 2 rfl) ?_
        obtain ⟨z8, hz8, hF⟩ := ob hF
        refine cV (wr := [(q_, .inr (8, [.ref q_now, .ref q_kept, .int u_isKept, .ref q_supposed, .ref q_rings, .ref q_netting, .ref q_text, .ref q_tapes])), (q_now, .inr (0, [.int u_now_people, .ref q_now_debts, .ref q_now_consents, .ref q_now_trail, .ref q_now_seen, .ref q_now_events, .ref q_now_book])), (q_now_debts, .inr (2, [.ref q_now_debts_owed, .ref q_now_debts_order, .int u_now_debts_size])), (q_now_debts_owed, .inl (C 0, 36, .inl u_now_debts_owed)), (q_netting, .inr (3, [.ref q_netting_balances, .ref q_netting_left, .ref q_netting_sums, .ref q_netting_most, .ref q_netting_groups, .int u_netting_groupCount, .ref q_netting_payments])), (q_netting_balances, .inl (C 0, 6, .inl u_netting_balances)), (q_netting_left, .inl (C 0, 6, .inl u_netting_left)), (q_netting_sums, .inl (C 0, 64, .inl u_netting_sums)), (q_netting_most, .inl (C 0, 64, .inl u_netting_most)), (q_netting_groups, .inl (C 0, 6, .inl u_netting_groups)), (q_netting_payments, .inr (5, [.ref q_netting_payments_numbers, .int u_netting_payments_room, .int u_netting_payments_size])), (q_netting_payments_numbers, .inl (C 0, n_netting_payments_numbers, .inl u_netting_payments_numbers)), (q_tapes, .inl (C 4, 6, .inr (.inr (.inr (.inr u_tapes))))), (qt1_items, .inl (C 1, 60, .inr (.inl ut1_items)))]) (w2 := [(q_, .inr (8, [.ref q_now, .ref q_kept, .int u_isKept, .ref q_supposed, .ref q_rings, .ref q_netting, .ref q_text, .ref q_tapes])), (q_now, .inr (0, [.int u_now_people, .ref q_now_debts, .ref q_now_consents, .ref q_now_trail, .ref q_now_seen, .ref q_now_events, .ref q_now_book])), (q_now_debts, .inr (2, [.ref q_now_debts_owed, .ref q_now_debts_order, .int u_now_debts_size])), (q_now_debts_owed, .inl (C 0, 36, .inl u_now_debts_owed)), (q_netting, .inr (3, [.ref q_netting_balances, .ref q_netting_left, .ref q_netting_sums, .ref q_netting_most, .ref q_netting_groups, .int u_netting_groupCount, .ref q_netting_payments])), (q_netting_balances, .inl (C 0, 6, .inl u_netting_balances)), (q_netting_left, .inl (C 0, 6, .inl u_netting_left)), (q_netting_sums, .inl (C 0, 64, .inl u_netting_sums)), (q_netting_most, .inl (C 0, 64, .inl u_netting_most)), (q_netting_groups, .inl (C 0, 6, .inl u_netting_groups)), (q_netting_payments, .inr (5, [.ref q_netting_payments_numbers, .int u_netting_payments_room, .int u_netting_payments_size])), (q_netting_payments_numbers, .inl (C 0, n_netting_payments_numbers, .inl u_netting_payments_numbers)), (q_tapes, .inl (C 4, 6, .inr (.inr (.inr (.inr u_tapes))))), (qt1_, .inr (6, [.int ut1_sort, .int ut1_length, .ref qt1_items])), (qt1_items, .inl (C 1, 60, .inr (.inl ut1_items)))]) (st2 := [.int z8, .int x2]) cx (CX6_length l D C qt1_ qt1_items ut1_sort ut1_length z8 hz8) lk_X8_249 my_X6_length ml_X6_length ⟨by decide, by decide⟩ hw [13] [0, 1, 2, 3, 4, 5, 6, 7, 8, 9, 10, 11, 12, 14] [0, 1, 2, 3, 4, 5, 6, 7, 8, 9, 10, 11, 12, 14, 13] rfl rfl (by decide) rfl rfl rfl rfl (Nat.le_of_ble_eq_true rfl) dX8_judge_69 rfl (fun H locs hw => ?_) hl.1
        refine lv_iconst (v := 1) hx hb dX8_judge_72 (by decide) ?_
        refine lv_isub hx hb dX8_judge_73 ?_
        refine lv_iload hx hb dX8_judge_74 (lv_at hl 3 rfl) ?_
        refine lv_isub hx hb dX8_judge_76 ?_
        refine lv_icmp_le (tgt := 86) hx hb dX8_judge_77 (by decide) (fun c9 => ?_) (fun c9 => ?_)
        · replace hF := oi_t c9 hF
          refine lv_aload_n hx hb dX8_judge_86 rfl (lv_at hl 2 rfl) ?_
          refine lv_iload_n hx hb dX8_judge_87 rfl (lv_at hl 1 rfl) ?_
          refine lv_iload hx hb dX8_judge_88 (lv_at hl 3 rfl) ?_
          refine lv_iadd hx hb dX8_judge_90 ?_
          obtain ⟨z10, hz10, hF⟩ := ob hF
          refine cV (wr := [(q_, .inr (8, [.ref q_now, .ref q_kept, .int u_isKept, .ref q_supposed, .ref q_rings, .ref q_netting, .ref q_text, .ref q_tapes])), (q_now, .inr (0, [.int u_now_people, .ref q_now_debts, .ref q_now_consents, .ref q_now_trail, .ref q_now_seen, .ref q_now_events, .ref q_now_book])), (q_now_debts, .inr (2, [.ref q_now_debts_owed, .ref q_now_debts_order, .int u_now_debts_size])), (q_now_debts_owed, .inl (C 0, 36, .inl u_now_debts_owed)), (q_netting, .inr (3, [.ref q_netting_balances, .ref q_netting_left, .ref q_netting_sums, .ref q_netting_most, .ref q_netting_groups, .int u_netting_groupCount, .ref q_netting_payments])), (q_netting_balances, .inl (C 0, 6, .inl u_netting_balances)), (q_netting_left, .inl (C 0, 6, .inl u_netting_left)), (q_netting_sums, .inl (C 0, 64, .inl u_netting_sums)), (q_netting_most, .inl (C 0, 64, .inl u_netting_most)), (q_netting_groups, .inl (C 0, 6, .inl u_netting_groups)), (q_netting_payments, .inr (5, [.ref q_netting_payments_numbers, .int u_netting_payments_room, .int u_netting_payments_size])), (q_netting_payments_numbers, .inl (C 0, n_netting_payments_numbers, .inl u_netting_payments_numbers)), (q_tapes, .inl (C 4, 6, .inr (.inr (.inr (.inr u_tapes)))))]) (w2 := [(q_, .inr (8, [.ref q_now, .ref q_kept, .int u_isKept, .ref q_supposed, .ref q_rings, .ref q_netting, .ref q_text, .ref q_tapes])), (q_now, .inr (0, [.int u_now_people, .ref q_now_debts, .ref q_now_consents, .ref q_now_trail, .ref q_now_seen, .ref q_now_events, .ref q_now_book])), (q_now_debts, .inr (2, [.ref q_now_debts_owed, .ref q_now_debts_order, .int u_now_debts_size])), (q_now_debts_owed, .inl (C 0, 36, .inl u_now_debts_owed)), (q_netting, .inr (3, [.ref q_netting_balances, .ref q_netting_left, .ref q_netting_sums, .ref q_netting_most, .ref q_netting_groups, .int u_netting_groupCount, .ref q_netting_payments])), (q_netting_balances, .inl (C 0, 6, .inl u_netting_balances)), (q_netting_left, .inl (C 0, 6, .inl u_netting_left)), (q_netting_sums, .inl (C 0, 64, .inl u_netting_sums)), (q_netting_most, .inl (C 0, 64, .inl u_netting_most)), (q_netting_groups, .inl (C 0, 6, .inl u_netting_groups)), (q_netting_payments, .inr (5, [.ref q_netting_payments_numbers, .int u_netting_payments_room, .int u_netting_payments_size])), (q_netting_payments_numbers, .inl (C 0, n_netting_payments_numbers, .inl u_netting_payments_numbers)), (q_tapes, .inl (C 4, 6, .inr (.inr (.inr (.inr u_tapes))))), (qt1_, .inr (6, [.int ut1_sort, .int ut1_length, .ref qt1_items])), (qt1_items, .inl (C 1, 60, .inr (.inl ut1_items)))]) (st2 := [.long z10]) cx (CX6_at l D C qt1_ qt1_items ut1_sort ut1_length ut1_items (x2 + x4) z10 hz10) lk_X8_252 my_X6_at ml_X6_at ⟨by decide, by decide⟩ hw [13, 14] [0, 1, 2, 3, 4, 5, 6, 7, 8, 9, 10, 11, 12] [0, 1, 2, 3, 4, 5, 6, 7, 8, 9, 10, 11, 12, 13, 14] rfl rfl (by decide) rfl rfl rfl rfl (Nat.le_of_ble_eq_true rfl) dX8_judge_91 rfl (fun H locs hw => ?_) hl.1
          refine lv_aload_n hx hb dX8_judge_94 rfl (lv_at hl 0 rfl) ?_
          refine lv_iload hx hb dX8_judge_95 (lv_at hl 3 rfl) ?_
          obtain ⟨z11, hz11, hF⟩ := ob hF
          refine cV (wr := [(q_now, .inr (0, [.int u_now_people, .ref q_now_debts, .ref q_now_consents, .ref q_now_trail, .ref q_now_seen, .ref q_now_events, .ref q_now_book])), (q_now_debts, .inr (2, [.ref q_now_debts_owed, .ref q_now_debts_order, .int u_now_debts_size])), (q_now_debts_owed, .inl (C 0, 36, .inl u_now_debts_owed)), (q_netting_balances, .inl (C 0, 6, .inl u_netting_balances)), (q_netting_left, .inl (C 0, 6, .inl u_netting_left)), (q_netting_sums, .inl (C 0, 64, .inl u_netting_sums)), (q_netting_most, .inl (C 0, 64, .inl u_netting_most)), (q_netting_groups, .inl (C 0, 6, .inl u_netting_groups)), (q_tapes, .inl (C 4, 6, .inr (.inr (.inr (.inr u_tapes))))), (qt1_, .inr (6, [.int ut1_sort, .int ut1_length, .ref qt1_items])), (qt1_items, .inl (C 1, 60, .inr (.inl ut1_items)))]) (w2 := [(q_, .inr (8, [.ref q_now, .ref q_kept, .int u_isKept, .ref q_supposed, .ref q_rings, .ref q_netting, .ref q_text, .ref q_tapes])), (q_now, .inr (0, [.int u_now_people, .ref q_now_debts, .ref q_now_consents, .ref q_now_trail, .ref q_now_seen, .ref q_now_events, .ref q_now_book])), (q_now_debts, .inr (2, [.ref q_now_debts_owed, .ref q_now_debts_order, .int u_now_debts_size])), (q_now_debts_owed, .inl (C 0, 36, .inl u_now_debts_owed)), (q_netting, .inr (3, [.ref q_netting_balances, .ref q_netting_left, .ref q_netting_sums, .ref q_netting_most, .ref q_netting_groups, .int u_netting_groupCount, .ref q_netting_payments])), (q_netting_balances, .inl (C 0, 6, .inl u_netting_balances)), (q_netting_left, .inl (C 0, 6, .inl u_netting_left)), (q_netting_sums, .inl (C 0, 64, .inl u_netting_sums)), (q_netting_most, .inl (C 0, 64, .inl u_netting_most)), (q_netting_groups, .inl (C 0, 6, .inl u_netting_groups)), (q_netting_payments, .inr (5, [.ref q_netting_payments_numbers, .int u_netting_payments_room, .int u_netting_payments_size])), (q_netting_payments_numbers, .inl (C 0, n_netting_payments_numbers, .inl u_netting_payments_numbers)), (q_tapes, .inl (C 4, 6, .inr (.inr (.inr (.inr u_tapes))))), (qt1_, .inr (6, [.int ut1_sort, .int ut1_length, .ref qt1_items])), (qt1_items, .inl (C 1, 60, .inr (.inl ut1_items)))]) (st2 := [.long z11, .long z10]) cx (CX8_codeOfPayment l D C q_ q_now q_kept q_supposed q_rings q_netting q_text q_tapes q_netting_balances q_netting_left q_netting_sums q_netting_most q_netting_groups q_netting_payments q_netting_payments_numbers n_netting_payments_numbers u_isKept u_netting_groupCount u_netting_payments_room u_netting_payments_size u_netting_payments_numbers x4 z11 hz11) lk_X8_255 my_X8_codeOfPayment ml_X8_codeOfPayment ⟨by decide, by decide⟩ hw [0, 4, 10, 11] [1, 2, 3, 5, 6, 7, 8, 9, 12, 13, 14] [11, 0, 1, 2, 12, 3, 4, 5, 6, 7, 13, 14, 8, 9, 10] rfl rfl (by decide) rfl rfl rfl rfl (Nat.le_of_ble_eq_true rfl) dX8_judge_97 rfl (fun H locs hw => ?_) hl.1
          refine W.lcmp hx hb dX8_judge_100 ?_
          refine lv_if_eq (tgt := 107) hx hb dX8_judge_101 (by decide) (fun c12 => ?_) (fun c12 => ?_)
          · replace hF := oi_t c12 hF
            refine lv_iinc (v := x4 + 1) (lv' := [(4, .int (x4 + 1)), (0, .ref q_), (2, .int x2), (3, .ref qt1_)]) hx hb dX8_judge_107 hl (k := 3) rfl rfl (by decide) rfl (fun ls hl => ?_)
            refine lv_goto (tgt := 48) hx hb dX8_judge_110 (by decide) ?_
            exact ih (x4 + 1) H locs ls hF hw (lv_sub hl [1, 2, 3, 0] rfl)
          · replace hF := oi_f c12 hF
            refine lv_iload hx hb dX8_judge_104 (lv_at hl 3 rfl) ?_
            obtain rfl := Option.some.inj hF
            exact rt_i hret hw rfl dX8_judge_106
        · replace hF := oi_f c9 hF
          refine lv_bipush (v := 100) hx hb dX8_judge_80 (by decide) ?_
          refine lv_iload hx hb dX8_judge_82 (lv_at hl 3 rfl) ?_
          refine lv_iadd hx hb dX8_judge_84 ?_
          obtain rfl := Option.some.inj hF
          exact rt_i hret hw rfl dX8_judge_85
set_option maxRecDepth 20000 in
theorem CX8_judge (l : Launch) (D : va_G) (C : Nat → ClassId) (q_ q_now q_kept q_supposed q_rings q_netting q_text q_tapes q_now_debts q_now_consents q_now_trail q_now_seen q_now_events q_now_book q_now_debts_owed q_now_debts_order q_netting_balances q_netting_left q_netting_sums q_netting_most q_netting_groups q_netting_payments q_netting_payments_numbers qt1_ qt1_items n_netting_payments_numbers : Nat) (u_isKept : Int32) (u_now_people : Int32) (u_now_debts_size : Int32) (u_now_debts_owed : (Nat → Int32)) (u_netting_groupCount : Int32) (u_netting_balances : (Nat → Int32)) (u_netting_left : (Nat → Int32)) (u_netting_sums : (Nat → Int32)) (u_netting_most : (Nat → Int32)) (u_netting_groups : (Nat → Int32)) (u_netting_payments_room : Int32) (u_netting_payments_size : Int32) (u_netting_payments_numbers : (Nat → Int32)) (u_tapes : (Nat → Option Nat)) (ut1_sort : Int32) (ut1_length : Int32) (ut1_items : (Nat → Int64)) (x1 : Int32) (x2 : Int32) (z : (Int32 × Int32 × (Nat → Int32) × (Nat → Int32) × (Nat → Int32) × (Nat → Int32) × (Nat → Int32) × Int32 × (Nat → Int32))) (hF : fX8_judge n_netting_payments_numbers u_now_debts_owed u_netting_groupCount u_netting_balances u_netting_left u_netting_sums u_netting_most u_netting_groups u_netting_payments_room u_netting_payments_size u_netting_payments_numbers ut1_sort ut1_length ut1_items x1 x2 = some z) (hT2 : ¬ (x1 < 0 ∨ 6 ≤ x1) → u_tapes (x1).toNatClampNeg = some qt1_) : Ct l yX8_judge cX8_judge 5 (some .int) 5 D C [.ref q_, .int x1, .int x2] [(q_, .inr (8, [.ref q_now, .ref q_kept, .int u_isKept, .ref q_supposed, .ref q_rings, .ref q_netting, .ref q_text, .ref q_tapes])), (q_now, .inr (0, [.int u_now_people, .ref q_now_debts, .ref q_now_consents, .ref q_now_trail, .ref q_now_seen, .ref q_now_events, .ref q_now_book])), (q_now_debts, .inr (2, [.ref q_now_debts_owed, .ref q_now_debts_order, .int u_now_debts_size])), (q_now_debts_owed, .inl (C 0, 36, .inl u_now_debts_owed)), (q_netting, .inr (3, [.ref q_netting_balances, .ref q_netting_left, .ref q_netting_sums, .ref q_netting_most, .ref q_netting_groups, .int u_netting_groupCount, .ref q_netting_payments])), (q_netting_balances, .inl (C 0, 6, .inl u_netting_balances)), (q_netting_left, .inl (C 0, 6, .inl u_netting_left)), (q_netting_sums, .inl (C 0, 64, .inl u_netting_sums)), (q_netting_most, .inl (C 0, 64, .inl u_netting_most)), (q_netting_groups, .inl (C 0, 6, .inl u_netting_groups)), (q_netting_payments, .inr (5, [.ref q_netting_payments_numbers, .int u_netting_payments_room, .int u_netting_payments_size])), (q_netting_payments_numbers, .inl (C 0, n_netting_payments_numbers, .inl u_netting_payments_numbers)), (q_tapes, .inl (C 4, 6, .inr (.inr (.inr (.inr u_tapes))))), (qt1_, .inr (6, [.int ut1_sort, .int ut1_length, .ref qt1_items])), (qt1_items, .inl (C 1, 60, .inr (.inl ut1_items)))] [(q_, .inr (8, [.ref q_now, .ref q_kept, .int u_isKept, .ref q_supposed, .ref q_rings, .ref q_netting, .ref q_text, .ref q_tapes])), (q_now, .inr (0, [.int u_now_people, .ref q_now_debts, .ref q_now_consents, .ref q_now_trail, .ref q_now_seen, .ref q_now_events, .ref q_now_book])), (q_now_debts, .inr (2, [.ref q_now_debts_owed, .ref q_now_debts_order, .int u_now_debts_size])), (q_now_debts_owed, .inl (C 0, 36, .inl u_now_debts_owed)), (q_netting, .inr (3, [.ref q_netting_balances, .ref q_netting_left, .ref q_netting_sums, .ref q_netting_most, .ref q_netting_groups, .int z.2.1, .ref q_netting_payments])), (q_netting_balances, .inl (C 0, 6, .inl z.2.2.1)), (q_netting_left, .inl (C 0, 6, .inl z.2.2.2.1)), (q_netting_sums, .inl (C 0, 64, .inl z.2.2.2.2.1)), (q_netting_most, .inl (C 0, 64, .inl z.2.2.2.2.2.1)), (q_netting_groups, .inl (C 0, 6, .inl z.2.2.2.2.2.2.1)), (q_netting_payments, .inr (5, [.ref q_netting_payments_numbers, .int u_netting_payments_room, .int z.2.2.2.2.2.2.2.1])), (q_netting_payments_numbers, .inl (C 0, n_netting_payments_numbers, .inl z.2.2.2.2.2.2.2.2)), (q_tapes, .inl (C 4, 6, .inr (.inr (.inr (.inr u_tapes))))), (qt1_, .inr (6, [.int ut1_sort, .int ut1_length, .ref qt1_items])), (qt1_items, .inl (C 1, 60, .inr (.inl ut1_items)))] (some (.int z.1)) := by
  refine Ct_of (by decide) (Nat.le_of_ble_eq_true rfl) ?_
  intro p e R s m args below meth c A Q H locs ls cx hw hl hret
  have cx : CX p m c s args RX8 cX8_judge 5 D C A R 5 := cx
  have hx := cx.1
  have hb := cx.2.1
  have hl : lv_has ls 5 [(0, .ref q_), (1, .int x1), (2, .int x2)] := hl
  rw [fX8_judge.eq_1] at hF
  refine lv_aload_n hx hb dX8_judge_0 rfl (lv_at hl 0 rfl) ?_
  refine lv_iload_n hx hb dX8_judge_1 rfl (lv_at hl 1 rfl) ?_
  by_cases c1 : x1 < 0 ∨ 6 ≤ x1
  · replace hF := oi_t c1 hF
    refine cV (wr := [(q_now, .inr (0, [.int u_now_people, .ref q_now_debts, .ref q_now_consents, .ref q_now_trail, .ref q_now_seen, .ref q_now_events, .ref q_now_book])), (q_now_debts, .inr (2, [.ref q_now_debts_owed, .ref q_now_debts_order, .int u_now_debts_size])), (q_now_debts_owed, .inl (C 0, 36, .inl u_now_debts_owed)), (q_netting, .inr (3, [.ref q_netting_balances, .ref q_netting_left, .ref q_netting_sums, .ref q_netting_most, .ref q_netting_groups, .int u_netting_groupCount, .ref q_netting_payments])), (q_netting_balances, .inl (C 0, 6, .inl u_netting_balances)), (q_netting_left, .inl (C 0, 6, .inl u_netting_left)), (q_netting_sums, .inl (C 0, 64, .inl u_netting_sums)), (q_netting_most, .inl (C 0, 64, .inl u_netting_most)), (q_netting_groups, .inl (C 0, 6, .inl u_netting_groups)), (q_netting_payments, .inr (5, [.ref q_netting_payments_numbers, .int u_netting_payments_room, .int u_netting_payments_size])), (q_netting_payments_numbers, .inl (C 0, n_netting_payments_numbers, .inl u_netting_payments_numbers)), (qt1_, .inr (6, [.int ut1_sort, .int ut1_length, .ref qt1_items])), (qt1_items, .inl (C 1, 60, .inr (.inl ut1_items)))]) (w2 := [(q_, .inr (8, [.ref q_now, .ref q_kept, .int u_isKept, .ref q_supposed, .ref q_rings, .ref q_netting, .ref q_text, .ref q_tapes])), (q_now, .inr (0, [.int u_now_people, .ref q_now_debts, .ref q_now_consents, .ref q_now_trail, .ref q_now_seen, .ref q_now_events, .ref q_now_book])), (q_now_debts, .inr (2, [.ref q_now_debts_owed, .ref q_now_debts_order, .int u_now_debts_size])), (q_now_debts_owed, .inl (C 0, 36, .inl u_now_debts_owed)), (q_netting, .inr (3, [.ref q_netting_balances, .ref q_netting_left, .ref q_netting_sums, .ref q_netting_most, .ref q_netting_groups, .int u_netting_groupCount, .ref q_netting_payments])), (q_netting_balances, .inl (C 0, 6, .inl u_netting_balances)), (q_netting_left, .inl (C 0, 6, .inl u_netting_left)), (q_netting_sums, .inl (C 0, 64, .inl u_netting_sums)), (q_netting_most, .inl (C 0, 64, .inl u_netting_most)), (q_netting_groups, .inl (C 0, 6, .inl u_netting_groups)), (q_netting_payments, .inr (5, [.ref q_netting_payments_numbers, .int u_netting_payments_room, .int u_netting_payments_size])), (q_netting_payments_numbers, .inl (C 0, n_netting_payments_numbers, .inl u_netting_payments_numbers)), (q_tapes, .inl (C 4, 6, .inr (.inr (.inr (.inr u_tapes))))), (qt1_, .inr (6, [.int ut1_sort, .int ut1_length, .ref qt1_items])), (qt1_items, .inl (C 1, 60, .inr (.inl ut1_items)))]) (st2 := [.null]) cx (CX8_tapeAt_n l D C q_ q_now q_kept q_supposed q_rings q_netting q_text q_tapes u_isKept u_tapes x1 c1) lk_X8_242 my_X8_tapeAt ml_X8_tapeAt ⟨by decide, by decide⟩ hw [0, 12] [1, 2, 3, 4, 5, 6, 7, 8, 9, 10, 11, 13, 14] [13, 0, 1, 2, 3, 4, 5, 6, 7, 8, 9, 10, 14, 11, 12] rfl rfl (by decide) rfl rfl rfl rfl (Nat.le_of_ble_eq_true rfl) dX8_judge_2 rfl (fun H locs hw => ?_) hl.1
    refine lv_astore_nN (lv' := [(3, .null), (0, .ref q_), (1, .int x1), (2, .int x2)]) hx hb dX8_judge_5 rfl hl (by decide) rfl (fun ls hl => ?_)
    refine lv_aload_nN hx hb dX8_judge_6 rfl (lv_at hl 0 rfl) ?_
    refine lv_ifnonnullN hx hb dX8_judge_7 ?_
    refine lv_iconst (v := (-1)) hx hb dX8_judge_10 (by decide) ?_
    obtain rfl := Option.some.inj hF
    exact rt_i hret hw rfl dX8_judge_11
  · replace hF := oi_f c1 hF
    refine cV (wr := [(q_now, .inr (0, [.int u_now_people, .ref q_now_debts, .ref q_now_consents, .ref q_now_trail, .ref q_now_seen, .ref q_now_events, .ref q_now_book])), (q_now_debts, .inr (2, [.ref q_now_debts_owed, .ref q_now_debts_order, .int u_now_debts_size])), (q_now_debts_owed, .inl (C 0, 36, .inl u_now_debts_owed)), (q_netting, .inr (3, [.ref q_netting_balances, .ref q_netting_left, .ref q_netting_sums, .ref q_netting_most, .ref q_netting_groups, .int u_netting_groupCount, .ref q_netting_payments])), (q_netting_balances, .inl (C 0, 6, .inl u_netting_balances)), (q_netting_left, .inl (C 0, 6, .inl u_netting_left)), (q_netting_sums, .inl (C 0, 64, .inl u_netting_sums)), (q_netting_most, .inl (C 0, 64, .inl u_netting_most)), (q_netting_groups, .inl (C 0, 6, .inl u_netting_groups)), (q_netting_payments, .inr (5, [.ref q_netting_payments_numbers, .int u_netting_payments_room, .int u_netting_payments_size])), (q_netting_payments_numbers, .inl (C 0, n_netting_payments_numbers, .inl u_netting_payments_numbers)), (qt1_, .inr (6, [.int ut1_sort, .int ut1_length, .ref qt1_items])), (qt1_items, .inl (C 1, 60, .inr (.inl ut1_items)))]) (w2 := [(q_, .inr (8, [.ref q_now, .ref q_kept, .int u_isKept, .ref q_supposed, .ref q_rings, .ref q_netting, .ref q_text, .ref q_tapes])), (q_now, .inr (0, [.int u_now_people, .ref q_now_debts, .ref q_now_consents, .ref q_now_trail, .ref q_now_seen, .ref q_now_events, .ref q_now_book])), (q_now_debts, .inr (2, [.ref q_now_debts_owed, .ref q_now_debts_order, .int u_now_debts_size])), (q_now_debts_owed, .inl (C 0, 36, .inl u_now_debts_owed)), (q_netting, .inr (3, [.ref q_netting_balances, .ref q_netting_left, .ref q_netting_sums, .ref q_netting_most, .ref q_netting_groups, .int u_netting_groupCount, .ref q_netting_payments])), (q_netting_balances, .inl (C 0, 6, .inl u_netting_balances)), (q_netting_left, .inl (C 0, 6, .inl u_netting_left)), (q_netting_sums, .inl (C 0, 64, .inl u_netting_sums)), (q_netting_most, .inl (C 0, 64, .inl u_netting_most)), (q_netting_groups, .inl (C 0, 6, .inl u_netting_groups)), (q_netting_payments, .inr (5, [.ref q_netting_payments_numbers, .int u_netting_payments_room, .int u_netting_payments_size])), (q_netting_payments_numbers, .inl (C 0, n_netting_payments_numbers, .inl u_netting_payments_numbers)), (q_tapes, .inl (C 4, 6, .inr (.inr (.inr (.inr u_tapes))))), (qt1_, .inr (6, [.int ut1_sort, .int ut1_length, .ref qt1_items])), (qt1_items, .inl (C 1, 60, .inr (.inl ut1_items)))]) (st2 := [.ref qt1_]) cx (CX8_tapeAt_r l D C q_ q_now q_kept q_supposed q_rings q_netting q_text q_tapes u_isKept u_tapes x1 qt1_ c1 (hT2 c1)) lk_X8_242 my_X8_tapeAt ml_X8_tapeAt ⟨by decide, by decide⟩ hw [0, 12] [1, 2, 3, 4, 5, 6, 7, 8, 9, 10, 11, 13, 14] [13, 0, 1, 2, 3, 4, 5, 6, 7, 8, 9, 10, 14, 11, 12] rfl rfl (by decide) rfl rfl rfl rfl (Nat.le_of_ble_eq_true rfl) dX8_judge_2 rfl (fun H locs hw => ?_) hl.1
    refine lv_astore_n (lv' := [(3, .ref qt1_), (0, .ref q_), (1, .int x1), (2, .int x2)]) hx hb dX8_judge_5 rfl hl (by decide) rfl (fun ls hl => ?_)
    refine lv_aload_n hx hb dX8_judge_6 rfl (lv_at hl 0 rfl) ?_
    refine lv_ifnonnull (tgt := 12) hx hb dX8_judge_7 (by decide) ?_
    refine lv_aload_n hx hb dX8_judge_12 rfl (lv_at hl 0 rfl) ?_
    obtain ⟨z2, hz2, hF⟩ := ob hF
    refine cV (wr := [(q_, .inr (8, [.ref q_now, .ref q_kept, .int u_isKept, .ref q_supposed, .ref q_rings, .ref q_netting, .ref q_text, .ref q_tapes])), (q_now, .inr (0, [.int u_now_people, .ref q_now_debts, .ref q_now_consents, .ref q_now_trail, .ref q_now_seen, .ref q_now_events, .ref q_now_book])), (q_now_debts, .inr (2, [.ref q_now_debts_owed, .ref q_now_debts_order, .int u_now_debts_size])), (q_now_debts_owed, .inl (C 0, 36, .inl u_now_debts_owed)), (q_netting, .inr (3, [.ref q_netting_balances, .ref q_netting_left, .ref q_netting_sums, .ref q_netting_most, .ref q_netting_groups, .int u_netting_groupCount, .ref q_netting_payments])), (q_netting_balances, .inl (C 0, 6, .inl u_netting_balances)), (q_netting_left, .inl (C 0, 6, .inl u_netting_left)), (q_netting_sums, .inl (C 0, 64, .inl u_netting_sums)), (q_netting_most, .inl (C 0, 64, .inl u_netting_most)), (q_netting_groups, .inl (C 0, 6, .inl u_netting_groups)), (q_netting_payments, .inr (5, [.ref q_netting_payments_numbers, .int u_netting_payments_room, .int u_netting_payments_size])), (q_netting_payments_numbers, .inl (C 0, n_netting_payments_numbers, .inl u_netting_payments_numbers)), (q_tapes, .inl (C 4, 6, .inr (.inr (.inr (.inr u_tapes))))), (qt1_items, .inl (C 1, 60, .inr (.inl ut1_items)))]) (w2 := [(q_, .inr (8, [.ref q_now, .ref q_kept, .int u_isKept, .ref q_supposed, .ref q_rings, .ref q_netting, .ref q_text, .ref q_tapes])), (q_now, .inr (0, [.int u_now_people, .ref q_now_debts, .ref q_now_consents, .ref q_now_trail, .ref q_now_seen, .ref q_now_events, .ref q_now_book])), (q_now_debts, .inr (2, [.ref q_now_debts_owed, .ref q_now_debts_order, .int u_now_debts_size])), (q_now_debts_owed, .inl (C 0, 36, .inl u_now_debts_owed)), (q_netting, .inr (3, [.ref q_netting_balances, .ref q_netting_left, .ref q_netting_sums, .ref q_netting_most, .ref q_netting_groups, .int u_netting_groupCount, .ref q_netting_payments])), (q_netting_balances, .inl (C 0, 6, .inl u_netting_balances)), (q_netting_left, .inl (C 0, 6, .inl u_netting_left)), (q_netting_sums, .inl (C 0, 64, .inl u_netting_sums)), (q_netting_most, .inl (C 0, 64, .inl u_netting_most)), (q_netting_groups, .inl (C 0, 6, .inl u_netting_groups)), (q_netting_payments, .inr (5, [.ref q_netting_payments_numbers, .int u_netting_payments_room, .int u_netting_payments_size])), (q_netting_payments_numbers, .inl (C 0, n_netting_payments_numbers, .inl u_netting_payments_numbers)), (q_tapes, .inl (C 4, 6, .inr (.inr (.inr (.inr u_tapes))))), (qt1_, .inr (6, [.int ut1_sort, .int ut1_length, .ref qt1_items])), (qt1_items, .inl (C 1, 60, .inr (.inl ut1_items)))]) (st2 := [.int z2]) cx (CX6_sort l D C qt1_ qt1_items ut1_sort ut1_length z2 hz2) lk_X8_246 my_X6_sort ml_X6_sort ⟨by decide, by decide⟩ hw [13] [0, 1, 2, 3, 4, 5, 6, 7, 8, 9, 10, 11, 12, 14] [0, 1, 2, 3, 4, 5, 6, 7, 8, 9, 10, 11, 12, 14, 13] rfl rfl (by decide) rfl rfl rfl rfl (Nat.le_of_ble_eq_true rfl) dX8_judge_13 rfl (fun H locs hw => ?_) hl.1
    refine lv_iconst (v := (-1)) hx hb dX8_judge_16 (by decide) ?_
    refine lv_icmp_eq (tgt := 31) hx hb dX8_judge_17 (by decide) (fun c3 => ?_) (fun c3 => ?_)
    · replace hF := oi_t c3 hF
      refine lv_aload_n hx hb dX8_judge_31 rfl (lv_at hl 1 rfl) ?_
      refine r_get (ci := 8) (v := .ref q_netting) cx hw iX8 0 5 rfl rfl (by decide) wf_X8_42 rfl dX8_judge_32 ?_
      refine lv_aload_n hx hb dX8_judge_35 rfl (lv_at hl 1 rfl) ?_
      refine r_get (ci := 8) (v := .ref q_now) cx hw iX8 0 0 rfl rfl (by decide) wf_X8_12 rfl dX8_judge_36 ?_
      refine r_get (ci := 0) (v := .ref q_now_debts) cx hw iX0 1 1 rfl rfl (by decide) wf_X8_68 rfl dX8_judge_39 ?_
      obtain ⟨z4, hz4, hF⟩ := ob hF
      refine cV (wr := [(q_, .inr (8, [.ref q_now, .ref q_kept, .int u_isKept, .ref q_supposed, .ref q_rings, .ref q_netting, .ref q_text, .ref q_tapes])), (q_now, .inr (0, [.int u_now_people, .ref q_now_debts, .ref q_now_consents, .ref q_now_trail, .ref q_now_seen, .ref q_now_events, .ref q_now_book])), (q_tapes, .inl (C 4, 6, .inr (.inr (.inr (.inr u_tapes))))), (qt1_, .inr (6, [.int ut1_sort, .int ut1_length, .ref qt1_items])), (qt1_items, .inl (C 1, 60, .inr (.inl ut1_items)))]) (w2 := [(q_, .inr (8, [.ref q_now, .ref q_kept, .int u_isKept, .ref q_supposed, .ref q_rings, .ref q_netting, .ref q_text, .ref q_tapes])), (q_now, .inr (0, [.int u_now_people, .ref q_now_debts, .ref q_now_consents, .ref q_now_trail, .ref q_now_seen, .ref q_now_events, .ref q_now_book])), (q_now_debts, .inr (2, [.ref q_now_debts_owed, .ref q_now_debts_order, .int u_now_debts_size])), (q_now_debts_owed, .inl (C 0, 36, .inl u_now_debts_owed)), (q_netting, .inr (3, [.ref q_netting_balances, .ref q_netting_left, .ref q_netting_sums, .ref q_netting_most, .ref q_netting_groups, .int z4.1, .ref q_netting_payments])), (q_netting_balances, .inl (C 0, 6, .inl z4.2.1)), (q_netting_left, .inl (C 0, 6, .inl z4.2.2.1)), (q_netting_sums, .inl (C 0, 64, .inl z4.2.2.2.1)), (q_netting_most, .inl (C 0, 64, .inl z4.2.2.2.2.1)), (q_netting_groups, .inl (C 0, 6, .inl z4.2.2.2.2.2.1)), (q_netting_payments, .inr (5, [.ref q_netting_payments_numbers, .int u_netting_payments_room, .int z4.2.2.2.2.2.2.1])), (q_netting_payments_numbers, .inl (C 0, n_netting_payments_numbers, .inl z4.2.2.2.2.2.2.2)), (q_tapes, .inl (C 4, 6, .inr (.inr (.inr (.inr u_tapes))))), (qt1_, .inr (6, [.int ut1_sort, .int ut1_length, .ref qt1_items])), (qt1_items, .inl (C 1, 60, .inr (.inl ut1_items)))]) (st2 := []) cx (CX3_net l D C q_netting q_netting_balances q_netting_left q_netting_sums q_netting_most q_netting_groups q_netting_payments q_netting_payments_numbers q_now_debts q_now_debts_owed q_now_debts_order n_netting_payments_numbers u_netting_groupCount u_netting_balances u_netting_left u_netting_sums u_netting_most u_netting_groups u_netting_payments_room u_netting_payments_size u_netting_payments_numbers u_now_debts_size u_now_debts_owed z4 hz4) lk_X8_167 my_X3_net ml_X3_net ⟨by decide, by decide⟩ hw [4, 5, 6, 7, 8, 9, 10, 11, 2, 3] [0, 1, 12, 13, 14] [0, 1, 13, 14, 5, 6, 7, 8, 9, 10, 11, 12, 2, 3, 4] rfl rfl (by decide) rfl rfl rfl rfl (Nat.le_of_ble_eq_true rfl) dX8_judge_42 rfl (fun H locs hw => ?_) hl.1
      refine lv_iconst (v := 0) hx hb dX8_judge_45 (by decide) ?_
      refine lv_istore (lv' := [(4, .int 0), (3, .ref qt1_), (0, .ref q_), (1, .int x1), (2, .int x2)]) hx hb dX8_judge_46 hl (by decide) rfl (fun ls hl => ?_)
      refine LX8_judge_48 cx hret 400 0 H locs ls hF hw (lv_sub hl [2, 4, 1, 0] rfl)
    · replace hF := oi_f c3 hF
      refine lv_aload_n hx hb dX8_judge_20 rfl (lv_at hl 0 rfl) ?_
      obtain ⟨z13, hz13, hF⟩ := ob hF
      refine cV (wr := [(q_, .inr (8, [.ref q_now, .ref q_kept, .int u_isKept, .ref q_supposed, .ref q_rings, .ref q_netting, .ref q_text, .ref q_tapes])), (q_now, .inr (0, [.int u_now_people, .ref q_now_debts, .ref q_now_consents, .ref q_now_trail, .ref q_now_seen, .ref q_now_events, .ref q_now_book])), (q_now_debts, .inr (2, [.ref q_now_debts_owed, .ref q_now_debts_order, .int u_now_debts_size])), (q_now_debts_owed, .inl (C 0, 36, .inl u_now_debts_owed)), (q_netting, .inr (3, [.ref q_netting_balances, .ref q_netting_left, .ref q_netting_sums, .ref q_netting_most, .ref q_netting_groups, .int u_netting_groupCount, .ref q_netting_payments])), (q_netting_balances, .inl (C 0, 6, .inl u_netting_balances)), (q_netting_left, .inl (C 0, 6, .inl u_netting_left)), (q_netting_sums, .inl (C 0, 64, .inl u_netting_sums)), (q_netting_most, .inl (C 0, 64, .inl u_netting_most)), (q_netting_groups, .inl (C 0, 6, .inl u_netting_groups)), (q_netting_payments, .inr (5, [.ref q_netting_payments_numbers, .int u_netting_payments_room, .int u_netting_payments_size])), (q_netting_payments_numbers, .inl (C 0, n_netting_payments_numbers, .inl u_netting_payments_numbers)), (q_tapes, .inl (C 4, 6, .inr (.inr (.inr (.inr u_tapes))))), (qt1_items, .inl (C 1, 60, .inr (.inl ut1_items)))]) (w2 := [(q_, .inr (8, [.ref q_now, .ref q_kept, .int u_isKept, .ref q_supposed, .ref q_rings, .ref q_netting, .ref q_text, .ref q_tapes])), (q_now, .inr (0, [.int u_now_people, .ref q_now_debts, .ref q_now_consents, .ref q_now_trail, .ref q_now_seen, .ref q_now_events, .ref q_now_book])), (q_now_debts, .inr (2, [.ref q_now_debts_owed, .ref q_now_debts_order, .int u_now_debts_size])), (q_now_debts_owed, .inl (C 0, 36, .inl u_now_debts_owed)), (q_netting, .inr (3, [.ref q_netting_balances, .ref q_netting_left, .ref q_netting_sums, .ref q_netting_most, .ref q_netting_groups, .int u_netting_groupCount, .ref q_netting_payments])), (q_netting_balances, .inl (C 0, 6, .inl u_netting_balances)), (q_netting_left, .inl (C 0, 6, .inl u_netting_left)), (q_netting_sums, .inl (C 0, 64, .inl u_netting_sums)), (q_netting_most, .inl (C 0, 64, .inl u_netting_most)), (q_netting_groups, .inl (C 0, 6, .inl u_netting_groups)), (q_netting_payments, .inr (5, [.ref q_netting_payments_numbers, .int u_netting_payments_room, .int u_netting_payments_size])), (q_netting_payments_numbers, .inl (C 0, n_netting_payments_numbers, .inl u_netting_payments_numbers)), (q_tapes, .inl (C 4, 6, .inr (.inr (.inr (.inr u_tapes))))), (qt1_, .inr (6, [.int ut1_sort, .int ut1_length, .ref qt1_items])), (qt1_items, .inl (C 1, 60, .inr (.inl ut1_items)))]) (st2 := [.int z13]) cx (CX6_sort l D C qt1_ qt1_items ut1_sort ut1_length z13 hz13) lk_X8_246 my_X6_sort ml_X6_sort ⟨by decide, by decide⟩ hw [13] [0, 1, 2, 3, 4, 5, 6, 7, 8, 9, 10, 11, 12, 14] [0, 1, 2, 3, 4, 5, 6, 7, 8, 9, 10, 11, 12, 14, 13] rfl rfl (by decide) rfl rfl rfl rfl (Nat.le_of_ble_eq_true rfl) dX8_judge_21 rfl (fun H locs hw => ?_) hl.1
      refine lv_iconst (v := 3) hx hb dX8_judge_24 (by decide) ?_
      refine lv_icmp_eq (tgt := 31) hx hb dX8_judge_25 (by decide) (fun c14 => ?_) (fun c14 => ?_)
      · replace hF := oi_t c14 hF
        refine lv_aload_n hx hb dX8_judge_31 rfl (lv_at hl 1 rfl) ?_
        refine r_get (ci := 8) (v := .ref q_netting) cx hw iX8 0 5 rfl rfl (by decide) wf_X8_42 rfl dX8_judge_32 ?_
        refine lv_aload_n hx hb dX8_judge_35 rfl (lv_at hl 1 rfl) ?_
        refine r_get (ci := 8) (v := .ref q_now) cx hw iX8 0 0 rfl rfl (by decide) wf_X8_12 rfl dX8_judge_36 ?_
        refine r_get (ci := 0) (v := .ref q_now_debts) cx hw iX0 1 1 rfl rfl (by decide) wf_X8_68 rfl dX8_judge_39 ?_
        obtain ⟨z15, hz15, hF⟩ := ob hF
        refine cV (wr := [(q_, .inr (8, [.ref q_now, .ref q_kept, .int u_isKept, .ref q_supposed, .ref q_rings, .ref q_netting, .ref q_text, .ref q_tapes])), (q_now, .inr (0, [.int u_now_people, .ref q_now_debts, .ref q_now_consents, .ref q_now_trail, .ref q_now_seen, .ref q_now_events, .ref q_now_book])), (q_tapes, .inl (C 4, 6, .inr (.inr (.inr (.inr u_tapes))))), (qt1_, .inr (6, [.int ut1_sort, .int ut1_length, .ref qt1_items])), (qt1_items, .inl (C 1, 60, .inr (.inl ut1_items)))]) (w2 := [(q_, .inr (8, [.ref q_now, .ref q_kept, .int u_isKept, .ref q_supposed, .ref q_rings, .ref q_netting, .ref q_text, .ref q_tapes])), (q_now, .inr (0, [.int u_now_people, .ref q_now_debts, .ref q_now_consents, .ref q_now_trail, .ref q_now_seen, .ref q_now_events, .ref q_now_book])), (q_now_debts, .inr (2, [.ref q_now_debts_owed, .ref q_now_debts_order, .int u_now_debts_size])), (q_now_debts_owed, .inl (C 0, 36, .inl u_now_debts_owed)), (q_netting, .inr (3, [.ref q_netting_balances, .ref q_netting_left, .ref q_netting_sums, .ref q_netting_most, .ref q_netting_groups, .int z15.1, .ref q_netting_payments])), (q_netting_balances, .inl (C 0, 6, .inl z15.2.1)), (q_netting_left, .inl (C 0, 6, .inl z15.2.2.1)), (q_netting_sums, .inl (C 0, 64, .inl z15.2.2.2.1)), (q_netting_most, .inl (C 0, 64, .inl z15.2.2.2.2.1)), (q_netting_groups, .inl (C 0, 6, .inl z15.2.2.2.2.2.1)), (q_netting_payments, .inr (5, [.ref q_netting_payments_numbers, .int u_netting_payments_room, .int z15.2.2.2.2.2.2.1])), (q_netting_payments_numbers, .inl (C 0, n_netting_payments_numbers, .inl z15.2.2.2.2.2.2.2)), (q_tapes, .inl (C 4, 6, .inr (.inr (.inr (.inr u_tapes))))), (qt1_, .inr (6, [.int ut1_sort, .int ut1_length, .ref qt1_items])), (qt1_items, .inl (C 1, 60, .inr (.inl ut1_items)))]) (st2 := []) cx (CX3_net l D C q_netting q_netting_balances q_netting_left q_netting_sums q_netting_most q_netting_groups q_netting_payments q_netting_payments_numbers q_now_debts q_now_debts_owed q_now_debts_order n_netting_payments_numbers u_netting_groupCount u_netting_balances u_netting_left u_netting_sums u_netting_most u_netting_groups u_netting_payments_room u_netting_payments_size u_netting_payments_numbers u_now_debts_size u_now_debts_owed z15 hz15) lk_X8_167 my_X3_net ml_X3_net ⟨by decide, by decide⟩ hw [4, 5, 6, 7, 8, 9, 10, 11, 2, 3] [0, 1, 12, 13, 14] [0, 1, 13, 14, 5, 6, 7, 8, 9, 10, 11, 12, 2, 3, 4] rfl rfl (by decide) rfl rfl rfl rfl (Nat.le_of_ble_eq_true rfl) dX8_judge_42 rfl (fun H locs hw => ?_) hl.1
        refine lv_iconst (v := 0) hx hb dX8_judge_45 (by decide) ?_
        refine lv_istore (lv' := [(4, .int 0), (3, .ref qt1_), (0, .ref q_), (1, .int x1), (2, .int x2)]) hx hb dX8_judge_46 hl (by decide) rfl (fun ls hl => ?_)
        refine LX8_judge_48 cx hret 400 0 H locs ls hF hw (lv_sub hl [2, 4, 1, 0] rfl)
      · replace hF := oi_f c14 hF
        refine lv_bipush (v := (-12)) hx hb dX8_judge_28 (by decide) ?_
        obtain rfl := Option.some.inj hF
        exact rt_i hret hw rfl dX8_judge_30
theorem lk_X8_261 : Cond.methodLink RX8 261 yX6_become ∈ gdt := gdt_of 797 (by decide +kernel) (by decide +kernel)
theorem my_X6_become : (yX6_become.cls ≠ "java/lang/invoke/MethodHandle" ∧ yX6_become.cls ≠ "java/lang/invoke/VarHandle") ∧ Cond.instanceMethod yX6_become ∈ gdt ∧ Cond.selects yX6_become.cls yX6_become yX6_become ∈ gdt ∧ Cond.initialized yX6_become.cls ∈ gdt ∧ Cond.code yX6_become cX6_become 4 none ∈ gdt := ⟨⟨by decide +kernel, by decide +kernel⟩, gdt_of 798 (by decide +kernel) (by decide +kernel), gdt_of 799 (by decide +kernel) (by decide +kernel), gdt_of 76 (by decide +kernel) (by decide +kernel), gdt_of 800 (by decide +kernel) (by decide +kernel)⟩
theorem ml_X6_become : (parseMethodDescriptor yX6_become.desc).map (fun d => d.parameters.length) = some 2 := by decide +kernel
theorem dX8_tape_0 : decode cX8_tape 0 = .ok (.aload_n 0, 1) := by decide +kernel
theorem dX8_tape_1 : decode cX8_tape 1 = .ok (.iload_n 1, 1) := by decide +kernel
theorem dX8_tape_2 : decode cX8_tape 2 = .ok (.invokevirtual 242, 3) := by decide +kernel
theorem dX8_tape_5 : decode cX8_tape 5 = .ok (.astore 4, 2) := by decide +kernel
theorem dX8_tape_7 : decode cX8_tape 7 = .ok (.aload 4, 2) := by decide +kernel
theorem dX8_tape_9 : decode cX8_tape 9 = .ok (.ifnonnull 5, 3) := by decide +kernel
theorem dX8_tape_12 : decode cX8_tape 12 = .ok (.iconst (-1), 1) := by decide +kernel
theorem dX8_tape_13 : decode cX8_tape 13 = .ok (.ireturn, 1) := by decide +kernel
theorem dX8_tape_14 : decode cX8_tape 14 = .ok (.iload_n 2, 1) := by decide +kernel
theorem dX8_tape_15 : decode cX8_tape 15 = .ok (.iconst (-1), 1) := by decide +kernel
theorem dX8_tape_16 : decode cX8_tape 16 = .ok (.if_icmp .ne 12, 3) := by decide +kernel
theorem dX8_tape_19 : decode cX8_tape 19 = .ok (.aload 4, 2) := by decide +kernel
theorem dX8_tape_21 : decode cX8_tape 21 = .ok (.iconst (-1), 1) := by decide +kernel
theorem dX8_tape_22 : decode cX8_tape 22 = .ok (.iconst 0, 1) := by decide +kernel
theorem dX8_tape_23 : decode cX8_tape 23 = .ok (.invokevirtual 261, 3) := by decide +kernel
theorem dX8_tape_26 : decode cX8_tape 26 = .ok (.iconst 1, 1) := by decide +kernel
theorem dX8_tape_27 : decode cX8_tape 27 = .ok (.ireturn, 1) := by decide +kernel
theorem dX8_tape_28 : decode cX8_tape 28 = .ok (.iload_n 2, 1) := by decide +kernel
theorem dX8_tape_29 : decode cX8_tape 29 = .ok (.ifCond .lt 14, 3) := by decide +kernel
theorem dX8_tape_32 : decode cX8_tape 32 = .ok (.iload_n 2, 1) := by decide +kernel
theorem dX8_tape_33 : decode cX8_tape 33 = .ok (.iconst 4, 1) := by decide +kernel
theorem dX8_tape_34 : decode cX8_tape 34 = .ok (.if_icmp .gt 9, 3) := by decide +kernel
theorem dX8_tape_37 : decode cX8_tape 37 = .ok (.iload_n 3, 1) := by decide +kernel
theorem dX8_tape_38 : decode cX8_tape 38 = .ok (.bipush 60, 2) := by decide +kernel
theorem dX8_tape_40 : decode cX8_tape 40 = .ok (.if_icmp .le 6, 3) := by decide +kernel
theorem dX8_tape_43 : decode cX8_tape 43 = .ok (.bipush (-2), 2) := by decide +kernel
theorem dX8_tape_45 : decode cX8_tape 45 = .ok (.ireturn, 1) := by decide +kernel
theorem dX8_tape_46 : decode cX8_tape 46 = .ok (.iload_n 3, 1) := by decide +kernel
theorem dX8_tape_47 : decode cX8_tape 47 = .ok (.ifCond .ge 6, 3) := by decide +kernel
theorem dX8_tape_50 : decode cX8_tape 50 = .ok (.bipush (-14), 2) := by decide +kernel
theorem dX8_tape_52 : decode cX8_tape 52 = .ok (.ireturn, 1) := by decide +kernel
theorem dX8_tape_53 : decode cX8_tape 53 = .ok (.aload 4, 2) := by decide +kernel
theorem dX8_tape_55 : decode cX8_tape 55 = .ok (.iload_n 2, 1) := by decide +kernel
theorem dX8_tape_56 : decode cX8_tape 56 = .ok (.iload_n 3, 1) := by decide +kernel
theorem dX8_tape_57 : decode cX8_tape 57 = .ok (.invokevirtual 261, 3) := by decide +kernel
theorem dX8_tape_60 : decode cX8_tape 60 = .ok (.iconst 1, 1) := by decide +kernel
theorem dX8_tape_61 : decode cX8_tape 61 = .ok (.ireturn, 1) := by decide +kernel
def fX8_tape (ut1_sort : Int32) (ut1_length : Int32) (ut1_items : (Nat → Int64)) (x1 : Int32) (x2 : Int32) (x3 : Int32) : Option (Int32 × Int32 × Int32 × (Nat → Int64)) := if x1 < 0 ∨ 6 ≤ x1 then (some ((-1), ut1_sort, ut1_length, ut1_items)) else (if x2 = (-1) then ((fX6_become ut1_items (-1) 0).bind (fun z8 => some (1, z8.1, z8.2.1, z8.2.2))) else (if x2 < 0 then (some ((-2), ut1_sort, ut1_length, ut1_items)) else (if 4 < x2 then (some ((-2), ut1_sort, ut1_length, ut1_items)) else (if x3 ≤ 60 then (if 0 ≤ x3 then ((fX6_become ut1_items x2 x3).bind (fun z7 => some (1, z7.1, z7.2.1, z7.2.2))) else (some ((-14), ut1_sort, ut1_length, ut1_items))) else (some ((-2), ut1_sort, ut1_length, ut1_items))))))
set_option maxRecDepth 20000 in
theorem CX8_tape (l : Launch) (D : va_G) (C : Nat → ClassId) (q_ q_now q_kept q_supposed q_rings q_netting q_text q_tapes qt1_ qt1_items : Nat) (u_isKept : Int32) (u_tapes : (Nat → Option Nat)) (ut1_sort : Int32) (ut1_length : Int32) (ut1_items : (Nat → Int64)) (x1 : Int32) (x2 : Int32) (x3 : Int32) (z : (Int32 × Int32 × Int32 × (Nat → Int64))) (hF : fX8_tape ut1_sort ut1_length ut1_items x1 x2 x3 = some z) (hT2 : ¬ (x1 < 0 ∨ 6 ≤ x1) → u_tapes (x1).toNatClampNeg = some qt1_) : Ct l yX8_tape cX8_tape 5 (some .int) 2 D C [.ref q_, .int x1, .int x2, .int x3] [(q_, .inr (8, [.ref q_now, .ref q_kept, .int u_isKept, .ref q_supposed, .ref q_rings, .ref q_netting, .ref q_text, .ref q_tapes])), (q_tapes, .inl (C 4, 6, .inr (.inr (.inr (.inr u_tapes))))), (qt1_, .inr (6, [.int ut1_sort, .int ut1_length, .ref qt1_items])), (qt1_items, .inl (C 1, 60, .inr (.inl ut1_items)))] [(q_, .inr (8, [.ref q_now, .ref q_kept, .int u_isKept, .ref q_supposed, .ref q_rings, .ref q_netting, .ref q_text, .ref q_tapes])), (q_tapes, .inl (C 4, 6, .inr (.inr (.inr (.inr u_tapes))))), (qt1_, .inr (6, [.int z.2.1, .int z.2.2.1, .ref qt1_items])), (qt1_items, .inl (C 1, 60, .inr (.inl z.2.2.2)))] (some (.int z.1)) := by
  refine Ct_of (by decide) (Nat.le_of_ble_eq_true rfl) ?_
  intro p e R s m args below meth c A Q H locs ls cx hw hl hret
  have cx : CX p m c s args RX8 cX8_tape 5 D C A R 2 := cx
  have hx := cx.1
  have hb := cx.2.1
  have hl : lv_has ls 5 [(0, .ref q_), (1, .int x1), (2, .int x2), (3, .int x3)] := hl
  rw [fX8_tape.eq_1] at hF
  refine lv_aload_n hx hb dX8_tape_0 rfl (lv_at hl 0 rfl) ?_
  refine lv_iload_n hx hb dX8_tape_1 rfl (lv_at hl 1 rfl) ?_
  by_cases c1 : x1 < 0 ∨ 6 ≤ x1
  · replace hF := oi_t c1 hF
    refine cV (wr := [(qt1_, .inr (6, [.int ut1_sort, .int ut1_length, .ref qt1_items])), (qt1_items, .inl (C 1, 60, .inr (.inl ut1_items)))]) (w2 := [(q_, .inr (8, [.ref q_now, .ref q_kept, .int u_isKept, .ref q_supposed, .ref q_rings, .ref q_netting, .ref q_text, .ref q_tapes])), (q_tapes, .inl (C 4, 6, .inr (.inr (.inr (.inr u_tapes))))), (qt1_, .inr (6, [.int ut1_sort, .int ut1_length, .ref qt1_items])), (qt1_items, .inl (C 1, 60, .inr (.inl ut1_items)))]) (st2 := [.null]) cx (CX8_tapeAt_n l D C q_ q_now q_kept q_supposed q_rings q_netting q_text q_tapes u_isKept u_tapes x1 c1) lk_X8_242 my_X8_tapeAt ml_X8_tapeAt ⟨by decide, by decide⟩ hw [0, 1] [2, 3] [2, 3, 0, 1] rfl rfl (by decide) rfl rfl rfl rfl (Nat.le_of_ble_eq_true rfl) dX8_tape_2 rfl (fun H locs hw => ?_) hl.1
    refine lv_astoreN (lv' := [(4, .null), (0, .ref q_), (1, .int x1), (2, .int x2), (3, .int x3)]) hx hb dX8_tape_5 hl (by decide) rfl (fun ls hl => ?_)
    refine lv_aloadN hx hb dX8_tape_7 (lv_at hl 0 rfl) ?_
    refine lv_ifnonnullN hx hb dX8_tape_9 ?_
    refine lv_iconst (v := (-1)) hx hb dX8_tape_12 (by decide) ?_
    obtain rfl := Option.some.inj hF
    exact rt_i hret hw rfl dX8_tape_13
  · replace hF := oi_f c1 hF
    refine cV (wr := [(qt1_, .inr (6, [.int ut1_sort, .int ut1_length, .ref qt1_items])), (qt1_items, .inl (C 1, 60, .inr (.inl ut1_items)))]) (w2 := [(q_, .inr (8, [.ref q_now, .ref q_kept, .int u_isKept, .ref q_supposed, .ref q_rings, .ref q_netting, .ref q_text, .ref q_tapes])), (q_tapes, .inl (C 4, 6, .inr (.inr (.inr (.inr u_tapes))))), (qt1_, .inr (6, [.int ut1_sort, .int ut1_length, .ref qt1_items])), (qt1_items, .inl (C 1, 60, .inr (.inl ut1_items)))]) (st2 := [.ref qt1_]) cx (CX8_tapeAt_r l D C q_ q_now q_kept q_supposed q_rings q_netting q_text q_tapes u_isKept u_tapes x1 qt1_ c1 (hT2 c1)) lk_X8_242 my_X8_tapeAt ml_X8_tapeAt ⟨by decide, by decide⟩ hw [0, 1] [2, 3] [2, 3, 0, 1] rfl rfl (by decide) rfl rfl rfl rfl (Nat.le_of_ble_eq_true rfl) dX8_tape_2 rfl (fun H locs hw => ?_) hl.1
    refine lv_astore (lv' := [(4, .ref qt1_), (0, .ref q_), (1, .int x1), (2, .int x2), (3, .int x3)]) hx hb dX8_tape_5 hl (by decide) rfl (fun ls hl => ?_)
    refine lv_aload hx hb dX8_tape_7 (lv_at hl 0 rfl) ?_
    refine lv_ifnonnull (tgt := 14) hx hb dX8_tape_9 (by decide) ?_
    refine lv_iload_n hx hb dX8_tape_14 rfl (lv_at hl 3 rfl) ?_
    refine lv_iconst (v := (-1)) hx hb dX8_tape_15 (by decide) ?_
    refine lv_icmp_ne (tgt := 28) hx hb dX8_tape_16 (by decide) (fun c2 => ?_) (fun c2 => ?_)
    · replace hF := oi_f c2 hF
      refine lv_iload_n hx hb dX8_tape_28 rfl (lv_at hl 3 rfl) ?_
      refine lv_if_lt (tgt := 43) hx hb dX8_tape_29 (by decide) (fun c3 => ?_) (fun c3 => ?_)
      · replace hF := oi_t c3 hF
        refine lv_bipush (v := (-2)) hx hb dX8_tape_43 (by decide) ?_
        obtain rfl := Option.some.inj hF
        exact rt_i hret hw rfl dX8_tape_45
      · replace hF := oi_f c3 hF
        refine lv_iload_n hx hb dX8_tape_32 rfl (lv_at hl 3 rfl) ?_
        refine lv_iconst (v := 4) hx hb dX8_tape_33 (by decide) ?_
        refine lv_icmp_gt (tgt := 43) hx hb dX8_tape_34 (by decide) (fun c4 => ?_) (fun c4 => ?_)
        · replace hF := oi_t c4 hF
          refine lv_bipush (v := (-2)) hx hb dX8_tape_43 (by decide) ?_
          obtain rfl := Option.some.inj hF
          exact rt_i hret hw rfl dX8_tape_45
        · replace hF := oi_f c4 hF
          refine lv_iload_n hx hb dX8_tape_37 rfl (lv_at hl 4 rfl) ?_
          refine lv_bipush (v := 60) hx hb dX8_tape_38 (by decide) ?_
          refine lv_icmp_le (tgt := 46) hx hb dX8_tape_40 (by decide) (fun c5 => ?_) (fun c5 => ?_)
          · replace hF := oi_t c5 hF
            refine lv_iload_n hx hb dX8_tape_46 rfl (lv_at hl 4 rfl) ?_
            refine lv_if_ge (tgt := 53) hx hb dX8_tape_47 (by decide) (fun c6 => ?_) (fun c6 => ?_)
            · replace hF := oi_t c6 hF
              refine lv_aload hx hb dX8_tape_53 (lv_at hl 0 rfl) ?_
              refine lv_iload_n hx hb dX8_tape_55 rfl (lv_at hl 3 rfl) ?_
              refine lv_iload_n hx hb dX8_tape_56 rfl (lv_at hl 4 rfl) ?_
              obtain ⟨z7, hz7, hF⟩ := ob hF
              refine cV (wr := [(q_, .inr (8, [.ref q_now, .ref q_kept, .int u_isKept, .ref q_supposed, .ref q_rings, .ref q_netting, .ref q_text, .ref q_tapes])), (q_tapes, .inl (C 4, 6, .inr (.inr (.inr (.inr u_tapes)))))]) (w2 := [(q_, .inr (8, [.ref q_now, .ref q_kept, .int u_isKept, .ref q_supposed, .ref q_rings, .ref q_netting, .ref q_text, .ref q_tapes])), (q_tapes, .inl (C 4, 6, .inr (.inr (.inr (.inr u_tapes))))), (qt1_, .inr (6, [.int z7.1, .int z7.2.1, .ref qt1_items])), (qt1_items, .inl (C 1, 60, .inr (.inl z7.2.2)))]) (st2 := []) cx (CX6_become l D C qt1_ qt1_items ut1_sort ut1_length ut1_items x2 x3 z7 hz7) lk_X8_261 my_X6_become ml_X6_become ⟨by decide, by decide⟩ hw [2, 3] [0, 1] [0, 1, 2, 3] rfl rfl (by decide) rfl rfl rfl rfl (Nat.le_of_ble_eq_true rfl) dX8_tape_57 rfl (fun H locs hw => ?_) hl.1
              refine lv_iconst (v := 1) hx hb dX8_tape_60 (by decide) ?_
              obtain rfl := Option.some.inj hF
              exact rt_i hret hw rfl dX8_tape_61
            · replace hF := oi_f c6 hF
              refine lv_bipush (v := (-14)) hx hb dX8_tape_50 (by decide) ?_
              obtain rfl := Option.some.inj hF
              exact rt_i hret hw rfl dX8_tape_52
          · replace hF := oi_f c5 hF
            refine lv_bipush (v := (-2)) hx hb dX8_tape_43 (by decide) ?_
            obtain rfl := Option.some.inj hF
            exact rt_i hret hw rfl dX8_tape_45
    · replace hF := oi_t c2 hF
      refine lv_aload hx hb dX8_tape_19 (lv_at hl 0 rfl) ?_
      refine lv_iconst (v := (-1)) hx hb dX8_tape_21 (by decide) ?_
      refine lv_iconst (v := 0) hx hb dX8_tape_22 (by decide) ?_
      obtain ⟨z8, hz8, hF⟩ := ob hF
      refine cV (wr := [(q_, .inr (8, [.ref q_now, .ref q_kept, .int u_isKept, .ref q_supposed, .ref q_rings, .ref q_netting, .ref q_text, .ref q_tapes])), (q_tapes, .inl (C 4, 6, .inr (.inr (.inr (.inr u_tapes)))))]) (w2 := [(q_, .inr (8, [.ref q_now, .ref q_kept, .int u_isKept, .ref q_supposed, .ref q_rings, .ref q_netting, .ref q_text, .ref q_tapes])), (q_tapes, .inl (C 4, 6, .inr (.inr (.inr (.inr u_tapes))))), (qt1_, .inr (6, [.int z8.1, .int z8.2.1, .ref qt1_items])), (qt1_items, .inl (C 1, 60, .inr (.inl z8.2.2)))]) (st2 := []) cx (CX6_become l D C qt1_ qt1_items ut1_sort ut1_length ut1_items (-1) 0 z8 hz8) lk_X8_261 my_X6_become ml_X6_become ⟨by decide, by decide⟩ hw [2, 3] [0, 1] [0, 1, 2, 3] rfl rfl (by decide) rfl rfl rfl rfl (Nat.le_of_ble_eq_true rfl) dX8_tape_23 rfl (fun H locs hw => ?_) hl.1
      refine lv_iconst (v := 1) hx hb dX8_tape_26 (by decide) ?_
      obtain rfl := Option.some.inj hF
      exact rt_i hret hw rfl dX8_tape_27
theorem lk_X8_264 : Cond.methodLink RX8 264 yX6_hasPlace ∈ gdt := gdt_of 805 (by decide +kernel) (by decide +kernel)
theorem lk_X8_267 : Cond.methodLink RX8 267 yX6_put ∈ gdt := gdt_of 806 (by decide +kernel) (by decide +kernel)
theorem my_X6_put : (yX6_put.cls ≠ "java/lang/invoke/MethodHandle" ∧ yX6_put.cls ≠ "java/lang/invoke/VarHandle") ∧ Cond.instanceMethod yX6_put ∈ gdt ∧ Cond.selects yX6_put.cls yX6_put yX6_put ∈ gdt ∧ Cond.initialized yX6_put.cls ∈ gdt ∧ Cond.code yX6_put cX6_put 4 none ∈ gdt := ⟨⟨by decide +kernel, by decide +kernel⟩, gdt_of 807 (by decide +kernel) (by decide +kernel), gdt_of 808 (by decide +kernel) (by decide +kernel), gdt_of 76 (by decide +kernel) (by decide +kernel), gdt_of 809 (by decide +kernel) (by decide +kernel)⟩
theorem ml_X6_put : (parseMethodDescriptor yX6_put.desc).map (fun d => d.parameters.length) = some 2 := by decide +kernel
theorem dX8_item_0 : decode cX8_item 0 = .ok (.aload_n 0, 1) := by decide +kernel
theorem dX8_item_1 : decode cX8_item 1 = .ok (.iload_n 1, 1) := by decide +kernel
theorem dX8_item_2 : decode cX8_item 2 = .ok (.invokevirtual 242, 3) := by decide +kernel
theorem dX8_item_5 : decode cX8_item 5 = .ok (.astore 5, 2) := by decide +kernel
theorem dX8_item_7 : decode cX8_item 7 = .ok (.aload 5, 2) := by decide +kernel
theorem dX8_item_9 : decode cX8_item 9 = .ok (.ifnonnull 5, 3) := by decide +kernel
theorem dX8_item_12 : decode cX8_item 12 = .ok (.iconst (-1), 1) := by decide +kernel
theorem dX8_item_13 : decode cX8_item 13 = .ok (.ireturn, 1) := by decide +kernel
theorem dX8_item_14 : decode cX8_item 14 = .ok (.aload 5, 2) := by decide +kernel
theorem dX8_item_16 : decode cX8_item 16 = .ok (.invokevirtual 246, 3) := by decide +kernel
theorem dX8_item_19 : decode cX8_item 19 = .ok (.iconst (-1), 1) := by decide +kernel
theorem dX8_item_20 : decode cX8_item 20 = .ok (.if_icmp .ne 6, 3) := by decide +kernel
theorem dX8_item_23 : decode cX8_item 23 = .ok (.bipush (-11), 2) := by decide +kernel
theorem dX8_item_25 : decode cX8_item 25 = .ok (.ireturn, 1) := by decide +kernel
theorem dX8_item_26 : decode cX8_item 26 = .ok (.aload 5, 2) := by decide +kernel
theorem dX8_item_28 : decode cX8_item 28 = .ok (.iload_n 2, 1) := by decide +kernel
theorem dX8_item_29 : decode cX8_item 29 = .ok (.invokevirtual 264, 3) := by decide +kernel
theorem dX8_item_32 : decode cX8_item 32 = .ok (.ifCond .ne 6, 3) := by decide +kernel
theorem dX8_item_35 : decode cX8_item 35 = .ok (.bipush (-13), 2) := by decide +kernel
theorem dX8_item_37 : decode cX8_item 37 = .ok (.ireturn, 1) := by decide +kernel
theorem dX8_item_38 : decode cX8_item 38 = .ok (.aload 5, 2) := by decide +kernel
theorem dX8_item_40 : decode cX8_item 40 = .ok (.iload_n 2, 1) := by decide +kernel
theorem dX8_item_41 : decode cX8_item 41 = .ok (.lload_n 3, 1) := by decide +kernel
theorem dX8_item_42 : decode cX8_item 42 = .ok (.invokevirtual 267, 3) := by decide +kernel
theorem dX8_item_45 : decode cX8_item 45 = .ok (.iconst 1, 1) := by decide +kernel
theorem dX8_item_46 : decode cX8_item 46 = .ok (.ireturn, 1) := by decide +kernel
def fX8_item (ut1_sort : Int32) (ut1_length : Int32) (ut1_items : (Nat → Int64)) (x1 : Int32) (x2 : Int32) (x3 : Int64) : Option (Int32 × (Nat → Int64)) := if x1 < 0 ∨ 6 ≤ x1 then (some ((-1), ut1_items)) else ((fX6_sort ut1_sort).bind (fun z2 => if z2 = (-1) then (some ((-11), ut1_items)) else ((fX6_hasPlace ut1_length x2).bind (fun z4 => if z4 = 0 then (some ((-13), ut1_items)) else ((fX6_put ut1_sort ut1_length ut1_items x2 x3).bind (fun z6 => some (1, z6)))))))
set_option maxRecDepth 20000 in
theorem CX8_item (l : Launch) (D : va_G) (C : Nat → ClassId) (q_ q_now q_kept q_supposed q_rings q_netting q_text q_tapes qt1_ qt1_items : Nat) (u_isKept : Int32) (u_tapes : (Nat → Option Nat)) (ut1_sort : Int32) (ut1_length : Int32) (ut1_items : (Nat → Int64)) (x1 : Int32) (x2 : Int32) (x3 : Int64) (z : (Int32 × (Nat → Int64))) (hF : fX8_item ut1_sort ut1_length ut1_items x1 x2 x3 = some z) (hT2 : ¬ (x1 < 0 ∨ 6 ≤ x1) → u_tapes (x1).toNatClampNeg = some qt1_) : Ct l yX8_item cX8_item 6 (some .int) 3 D C [.ref q_, .int x1, .int x2, .long x3] [(q_, .inr (8, [.ref q_now, .ref q_kept, .int u_isKept, .ref q_supposed, .ref q_rings, .ref q_netting, .ref q_text, .ref q_tapes])), (q_tapes, .inl (C 4, 6, .inr (.inr (.inr (.inr u_tapes))))), (qt1_, .inr (6, [.int ut1_sort, .int ut1_length, .ref qt1_items])), (qt1_items, .inl (C 1, 60, .inr (.inl ut1_items)))] [(q_, .inr (8, [.ref q_now, .ref q_kept, .int u_isKept, .ref q_supposed, .ref q_rings, .ref q_netting, .ref q_text, .ref q_tapes])), (q_tapes, .inl (C 4, 6, .inr (.inr (.inr (.inr u_tapes))))), (qt1_, .inr (6, [.int ut1_sort, .int ut1_length, .ref qt1_items])), (qt1_items, .inl (C 1, 60, .inr (.inl z.2)))] (some (.int z.1)) := by
  refine Ct_of (by decide) (Nat.le_of_ble_eq_true rfl) ?_
  intro p e R s m args below meth c A Q H locs ls cx hw hl hret
  have cx : CX p m c s args RX8 cX8_item 6 D C A R 3 := cx
  have hx := cx.1
  have hb := cx.2.1
  have hl : lv_has ls 6 [(0, .ref q_), (1, .int x1), (2, .int x2), (3, .long x3)] := hl
  rw [fX8_item.eq_1] at hF
  refine lv_aload_n hx hb dX8_item_0 rfl (lv_at hl 0 rfl) ?_
  refine lv_iload_n hx hb dX8_item_1 rfl (lv_at hl 1 rfl) ?_
  by_cases c1 : x1 < 0 ∨ 6 ≤ x1
  · replace hF := oi_t c1 hF
    refine cV (wr := [(qt1_, .inr (6, [.int ut1_sort, .int ut1_length, .ref qt1_items])), (qt1_items, .inl (C 1, 60, .inr (.inl ut1_items)))]) (w2 := [(q_, .inr (8, [.ref q_now, .ref q_kept, .int u_isKept, .ref q_supposed, .ref q_rings, .ref q_netting, .ref q_text, .ref q_tapes])), (q_tapes, .inl (C 4, 6, .inr (.inr (.inr (.inr u_tapes))))), (qt1_, .inr (6, [.int ut1_sort, .int ut1_length, .ref qt1_items])), (qt1_items, .inl (C 1, 60, .inr (.inl ut1_items)))]) (st2 := [.null]) cx (CX8_tapeAt_n l D C q_ q_now q_kept q_supposed q_rings q_netting q_text q_tapes u_isKept u_tapes x1 c1) lk_X8_242 my_X8_tapeAt ml_X8_tapeAt ⟨by decide, by decide⟩ hw [0, 1] [2, 3] [2, 3, 0, 1] rfl rfl (by decide) rfl rfl rfl rfl (Nat.le_of_ble_eq_true rfl) dX8_item_2 rfl (fun H locs hw => ?_) hl.1
    refine lv_astoreN (lv' := [(5, .null), (0, .ref q_), (1, .int x1), (2, .int x2), (3, .long x3)]) hx hb dX8_item_5 hl (by decide) rfl (fun ls hl => ?_)
    refine lv_aloadN hx hb dX8_item_7 (lv_at hl 0 rfl) ?_
    refine lv_ifnonnullN hx hb dX8_item_9 ?_
    refine lv_iconst (v := (-1)) hx hb dX8_item_12 (by decide) ?_
    obtain rfl := Option.some.inj hF
    exact rt_i hret hw rfl dX8_item_13
  · replace hF := oi_f c1 hF
    refine cV (wr := [(qt1_, .inr (6, [.int ut1_sort, .int ut1_length, .ref qt1_items])), (qt1_items, .inl (C 1, 60, .inr (.inl ut1_items)))]) (w2 := [(q_, .inr (8, [.ref q_now, .ref q_kept, .int u_isKept, .ref q_supposed, .ref q_rings, .ref q_netting, .ref q_text, .ref q_tapes])), (q_tapes, .inl (C 4, 6, .inr (.inr (.inr (.inr u_tapes))))), (qt1_, .inr (6, [.int ut1_sort, .int ut1_length, .ref qt1_items])), (qt1_items, .inl (C 1, 60, .inr (.inl ut1_items)))]) (st2 := [.ref qt1_]) cx (CX8_tapeAt_r l D C q_ q_now q_kept q_supposed q_rings q_netting q_text q_tapes u_isKept u_tapes x1 qt1_ c1 (hT2 c1)) lk_X8_242 my_X8_tapeAt ml_X8_tapeAt ⟨by decide, by decide⟩ hw [0, 1] [2, 3] [2, 3, 0, 1] rfl rfl (by decide) rfl rfl rfl rfl (Nat.le_of_ble_eq_true rfl) dX8_item_2 rfl (fun H locs hw => ?_) hl.1
    refine lv_astore (lv' := [(5, .ref qt1_), (0, .ref q_), (1, .int x1), (2, .int x2), (3, .long x3)]) hx hb dX8_item_5 hl (by decide) rfl (fun ls hl => ?_)
    refine lv_aload hx hb dX8_item_7 (lv_at hl 0 rfl) ?_
    refine lv_ifnonnull (tgt := 14) hx hb dX8_item_9 (by decide) ?_
    refine lv_aload hx hb dX8_item_14 (lv_at hl 0 rfl) ?_
    obtain ⟨z2, hz2, hF⟩ := ob hF
    refine cV (wr := [(q_, .inr (8, [.ref q_now, .ref q_kept, .int u_isKept, .ref q_supposed, .ref q_rings, .ref q_netting, .ref q_text, .ref q_tapes])), (q_tapes, .inl (C 4, 6, .inr (.inr (.inr (.inr u_tapes))))), (qt1_items, .inl (C 1, 60, .inr (.inl ut1_items)))]) (w2 := [(q_, .inr (8, [.ref q_now, .ref q_kept, .int u_isKept, .ref q_supposed, .ref q_rings, .ref q_netting, .ref q_text, .ref q_tapes])), (q_tapes, .inl (C 4, 6, .inr (.inr (.inr (.inr u_tapes))))), (qt1_, .inr (6, [.int ut1_sort, .int ut1_length, .ref qt1_items])), (qt1_items, .inl (C 1, 60, .inr (.inl ut1_items)))]) (st2 := [.int z2]) cx (CX6_sort l D C qt1_ qt1_items ut1_sort ut1_length z2 hz2) lk_X8_246 my_X6_sort ml_X6_sort ⟨by decide, by decide⟩ hw [2] [0, 1, 3] [0, 1, 3, 2] rfl rfl (by decide) rfl rfl rfl rfl (Nat.le_of_ble_eq_true rfl) dX8_item_16 rfl (fun H locs hw => ?_) hl.1
    refine lv_iconst (v := (-1)) hx hb dX8_item_19 (by decide) ?_
    refine lv_icmp_ne (tgt := 26) hx hb dX8_item_20 (by decide) (fun c3 => ?_) (fun c3 => ?_)
    · replace hF := oi_f c3 hF
      refine lv_aload hx hb dX8_item_26 (lv_at hl 0 rfl) ?_
      refine lv_iload_n hx hb dX8_item_28 rfl (lv_at hl 3 rfl) ?_
      obtain ⟨z4, hz4, hF⟩ := ob hF
      refine cV (wr := [(q_, .inr (8, [.ref q_now, .ref q_kept, .int u_isKept, .ref q_supposed, .ref q_rings, .ref q_netting, .ref q_text, .ref q_tapes])), (q_tapes, .inl (C 4, 6, .inr (.inr (.inr (.inr u_tapes))))), (qt1_items, .inl (C 1, 60, .inr (.inl ut1_items)))]) (w2 := [(q_, .inr (8, [.ref q_now, .ref q_kept, .int u_isKept, .ref q_supposed, .ref q_rings, .ref q_netting, .ref q_text, .ref q_tapes])), (q_tapes, .inl (C 4, 6, .inr (.inr (.inr (.inr u_tapes))))), (qt1_, .inr (6, [.int ut1_sort, .int ut1_length, .ref qt1_items])), (qt1_items, .inl (C 1, 60, .inr (.inl ut1_items)))]) (st2 := [.int z4]) cx (CX6_hasPlace l D C qt1_ qt1_items ut1_sort ut1_length x2 z4 hz4) lk_X8_264 my_X6_hasPlace ml_X6_hasPlace ⟨by decide, by decide⟩ hw [2] [0, 1, 3] [0, 1, 3, 2] rfl rfl (by decide) rfl rfl rfl rfl (Nat.le_of_ble_eq_true rfl) dX8_item_29 rfl (fun H locs hw => ?_) hl.1
      refine lv_if_ne (tgt := 38) hx hb dX8_item_32 (by decide) (fun c5 => ?_) (fun c5 => ?_)
      · replace hF := oi_f c5 hF
        refine lv_aload hx hb dX8_item_38 (lv_at hl 0 rfl) ?_
        refine lv_iload_n hx hb dX8_item_40 rfl (lv_at hl 3 rfl) ?_
        refine lv_lload_n hx hb dX8_item_41 rfl (lv_at hl 4 rfl) ?_
        obtain ⟨z6, hz6, hF⟩ := ob hF
        refine cV (wr := [(q_, .inr (8, [.ref q_now, .ref q_kept, .int u_isKept, .ref q_supposed, .ref q_rings, .ref q_netting, .ref q_text, .ref q_tapes])), (q_tapes, .inl (C 4, 6, .inr (.inr (.inr (.inr u_tapes)))))]) (w2 := [(q_, .inr (8, [.ref q_now, .ref q_kept, .int u_isKept, .ref q_supposed, .ref q_rings, .ref q_netting, .ref q_text, .ref q_tapes])), (q_tapes, .inl (C 4, 6, .inr (.inr (.inr (.inr u_tapes))))), (qt1_, .inr (6, [.int ut1_sort, .int ut1_length, .ref qt1_items])), (qt1_items, .inl (C 1, 60, .inr (.inl z6)))]) (st2 := []) cx (CX6_put l D C qt1_ qt1_items ut1_sort ut1_length ut1_items x2 x3 z6 hz6) lk_X8_267 my_X6_put ml_X6_put ⟨by decide, by decide⟩ hw [2, 3] [0, 1] [0, 1, 2, 3] rfl rfl (by decide) rfl rfl rfl rfl (Nat.le_of_ble_eq_true rfl) dX8_item_42 rfl (fun H locs hw => ?_) hl.1
        refine lv_iconst (v := 1) hx hb dX8_item_45 (by decide) ?_
        obtain rfl := Option.some.inj hF
        exact rt_i hret hw rfl dX8_item_46
      · replace hF := oi_t c5 hF
        refine lv_bipush (v := (-13)) hx hb dX8_item_35 (by decide) ?_
        obtain rfl := Option.some.inj hF
        exact rt_i hret hw rfl dX8_item_37
    · replace hF := oi_t c3 hF
      refine lv_bipush (v := (-11)) hx hb dX8_item_23 (by decide) ?_
      obtain rfl := Option.some.inj hF
      exact rt_i hret hw rfl dX8_item_25
theorem dX8_peek_0 : decode cX8_peek 0 = .ok (.aload_n 0, 1) := by decide +kernel
theorem dX8_peek_1 : decode cX8_peek 1 = .ok (.iload_n 1, 1) := by decide +kernel
theorem dX8_peek_2 : decode cX8_peek 2 = .ok (.invokevirtual 242, 3) := by decide +kernel
theorem dX8_peek_5 : decode cX8_peek 5 = .ok (.astore_n 3, 1) := by decide +kernel
theorem dX8_peek_6 : decode cX8_peek 6 = .ok (.aload_n 3, 1) := by decide +kernel
theorem dX8_peek_7 : decode cX8_peek 7 = .ok (.ifnull 11, 3) := by decide +kernel
theorem dX8_peek_10 : decode cX8_peek 10 = .ok (.aload_n 3, 1) := by decide +kernel
theorem dX8_peek_11 : decode cX8_peek 11 = .ok (.iload_n 2, 1) := by decide +kernel
theorem dX8_peek_12 : decode cX8_peek 12 = .ok (.invokevirtual 264, 3) := by decide +kernel
theorem dX8_peek_15 : decode cX8_peek 15 = .ok (.ifCond .ne 7, 3) := by decide +kernel
theorem dX8_peek_18 : decode cX8_peek 18 = .ok (.ldc2_w 159, 3) := by decide +kernel
theorem dX8_peek_21 : decode cX8_peek 21 = .ok (.lreturn, 1) := by decide +kernel
theorem dX8_peek_22 : decode cX8_peek 22 = .ok (.aload_n 3, 1) := by decide +kernel
theorem dX8_peek_23 : decode cX8_peek 23 = .ok (.iload_n 2, 1) := by decide +kernel
theorem dX8_peek_24 : decode cX8_peek 24 = .ok (.invokevirtual 252, 3) := by decide +kernel
theorem dX8_peek_27 : decode cX8_peek 27 = .ok (.lreturn, 1) := by decide +kernel
def fX8_peek (ut1_length : Int32) (ut1_items : (Nat → Int64)) (x1 : Int32) (x2 : Int32) : Option Int64 := if x1 < 0 ∨ 6 ≤ x1 then (some (-9223372036854775808)) else ((fX6_hasPlace ut1_length x2).bind (fun z2 => if z2 = 0 then (some (-9223372036854775808)) else ((fX6_at ut1_length ut1_items x2).bind (fun z4 => some z4))))
set_option maxRecDepth 20000 in
theorem CX8_peek (l : Launch) (D : va_G) (C : Nat → ClassId) (q_ q_now q_kept q_supposed q_rings q_netting q_text q_tapes qt1_ qt1_items : Nat) (u_isKept : Int32) (u_tapes : (Nat → Option Nat)) (ut1_sort : Int32) (ut1_length : Int32) (ut1_items : (Nat → Int64)) (x1 : Int32) (x2 : Int32) (z : Int64) (hF : fX8_peek ut1_length ut1_items x1 x2 = some z) (hT2 : ¬ (x1 < 0 ∨ 6 ≤ x1) → u_tapes (x1).toNatClampNeg = some qt1_) : Ct l yX8_peek cX8_peek 4 (some .long) 3 D C [.ref q_, .int x1, .int x2] [(q_, .inr (8, [.ref q_now, .ref q_kept, .int u_isKept, .ref q_supposed, .ref q_rings, .ref q_netting, .ref q_text, .ref q_tapes])), (q_tapes, .inl (C 4, 6, .inr (.inr (.inr (.inr u_tapes))))), (qt1_, .inr (6, [.int ut1_sort, .int ut1_length, .ref qt1_items])), (qt1_items, .inl (C 1, 60, .inr (.inl ut1_items)))] [(q_, .inr (8, [.ref q_now, .ref q_kept, .int u_isKept, .ref q_supposed, .ref q_rings, .ref q_netting, .ref q_text, .ref q_tapes])), (q_tapes, .inl (C 4, 6, .inr (.inr (.inr (.inr u_tapes))))), (qt1_, .inr (6, [.int ut1_sort, .int ut1_length, .ref qt1_items])), (qt1_items, .inl (C 1, 60, .inr (.inl ut1_items)))] (some (.long z)) := by
  refine Ct_of (by decide) (Nat.le_of_ble_eq_true rfl) ?_
  intro p e R s m args below meth c A Q H locs ls cx hw hl hret
  have cx : CX p m c s args RX8 cX8_peek 4 D C A R 3 := cx
  have hx := cx.1
  have hb := cx.2.1
  have hl : lv_has ls 4 [(0, .ref q_), (1, .int x1), (2, .int x2)] := hl
  rw [fX8_peek.eq_1] at hF
  refine lv_aload_n hx hb dX8_peek_0 rfl (lv_at hl 0 rfl) ?_
  refine lv_iload_n hx hb dX8_peek_1 rfl (lv_at hl 1 rfl) ?_
  by_cases c1 : x1 < 0 ∨ 6 ≤ x1
  · replace hF := oi_t c1 hF
    refine cV (wr := [(qt1_, .inr (6, [.int ut1_sort, .int ut1_length, .ref qt1_items])), (qt1_items, .inl (C 1, 60, .inr (.inl ut1_items)))]) (w2 := [(q_, .inr (8, [.ref q_now, .ref q_kept, .int u_isKept, .ref q_supposed, .ref q_rings, .ref q_netting, .ref q_text, .ref q_tapes])), (q_tapes, .inl (C 4, 6, .inr (.inr (.inr (.inr u_tapes))))), (qt1_, .inr (6, [.int ut1_sort, .int ut1_length, .ref qt1_items])), (qt1_items, .inl (C 1, 60, .inr (.inl ut1_items)))]) (st2 := [.null]) cx (CX8_tapeAt_n l D C q_ q_now q_kept q_supposed q_rings q_netting q_text q_tapes u_isKept u_tapes x1 c1) lk_X8_242 my_X8_tapeAt ml_X8_tapeAt ⟨by decide, by decide⟩ hw [0, 1] [2, 3] [2, 3, 0, 1] rfl rfl (by decide) rfl rfl rfl rfl (Nat.le_of_ble_eq_true rfl) dX8_peek_2 rfl (fun H locs hw => ?_) hl.1
    refine lv_astore_nN (lv' := [(3, .null), (0, .ref q_), (1, .int x1), (2, .int x2)]) hx hb dX8_peek_5 rfl hl (by decide) rfl (fun ls hl => ?_)
    refine lv_aload_nN hx hb dX8_peek_6 rfl (lv_at hl 0 rfl) ?_
    refine lv_ifnullN (tgt := 18) hx hb dX8_peek_7 (by decide) ?_
    refine lv_ldc2 (v := (-9223372036854775808)) hx hb cx.2.2.2.1 (cx.2.2.2.2.1 _ cl_X8_159) dX8_peek_18 ?_
    obtain rfl := Option.some.inj hF
    exact rt_l hret hw rfl dX8_peek_21
  · replace hF := oi_f c1 hF
    refine cV (wr := [(qt1_, .inr (6, [.int ut1_sort, .int ut1_length, .ref qt1_items])), (qt1_items, .inl (C 1, 60, .inr (.inl ut1_items)))]) (w2 := [(q_, .inr (8, [.ref q_now, .ref q_kept, .int u_isKept, .ref q_supposed, .ref q_rings, .ref q_netting, .ref q_text, .ref q_tapes])), (q_tapes, .inl (C 4, 6, .inr (.inr (.inr (.inr u_tapes))))), (qt1_, .inr (6, [.int ut1_sort, .int ut1_length, .ref qt1_items])), (qt1_items, .inl (C 1, 60, .inr (.inl ut1_items)))]) (st2 := [.ref qt1_]) cx (CX8_tapeAt_r l D C q_ q_now q_kept q_supposed q_rings q_netting q_text q_tapes u_isKept u_tapes x1 qt1_ c1 (hT2 c1)) lk_X8_242 my_X8_tapeAt ml_X8_tapeAt ⟨by decide, by decide⟩ hw [0, 1] [2, 3] [2, 3, 0, 1] rfl rfl (by decide) rfl rfl rfl rfl (Nat.le_of_ble_eq_true rfl) dX8_peek_2 rfl (fun H locs hw => ?_) hl.1
    refine lv_astore_n (lv' := [(3, .ref qt1_), (0, .ref q_), (1, .int x1), (2, .int x2)]) hx hb dX8_peek_5 rfl hl (by decide) rfl (fun ls hl => ?_)
    refine lv_aload_n hx hb dX8_peek_6 rfl (lv_at hl 0 rfl) ?_
    refine lv_ifnull hx hb dX8_peek_7 ?_
    refine lv_aload_n hx hb dX8_peek_10 rfl (lv_at hl 0 rfl) ?_
    refine lv_iload_n hx hb dX8_peek_11 rfl (lv_at hl 3 rfl) ?_
    obtain ⟨z2, hz2, hF⟩ := ob hF
    refine cV (wr := [(q_, .inr (8, [.ref q_now, .ref q_kept, .int u_isKept, .ref q_supposed, .ref q_rings, .ref q_netting, .ref q_text, .ref q_tapes])), (q_tapes, .inl (C 4, 6, .inr (.inr (.inr (.inr u_tapes))))), (qt1_items, .inl (C 1, 60, .inr (.inl ut1_items)))]) (w2 := [(q_, .inr (8, [.ref q_now, .ref q_kept, .int u_isKept, .ref q_supposed, .ref q_rings, .ref q_netting, .ref q_text, .ref q_tapes])), (q_tapes, .inl (C 4, 6, .inr (.inr (.inr (.inr u_tapes))))), (qt1_, .inr (6, [.int ut1_sort, .int ut1_length, .ref qt1_items])), (qt1_items, .inl (C 1, 60, .inr (.inl ut1_items)))]) (st2 := [.int z2]) cx (CX6_hasPlace l D C qt1_ qt1_items ut1_sort ut1_length x2 z2 hz2) lk_X8_264 my_X6_hasPlace ml_X6_hasPlace ⟨by decide, by decide⟩ hw [2] [0, 1, 3] [0, 1, 3, 2] rfl rfl (by decide) rfl rfl rfl rfl (Nat.le_of_ble_eq_true rfl) dX8_peek_12 rfl (fun H locs hw => ?_) hl.1
    refine lv_if_ne (tgt := 22) hx hb dX8_peek_15 (by decide) (fun c3 => ?_) (fun c3 => ?_)
    · replace hF := oi_f c3 hF
      refine lv_aload_n hx hb dX8_peek_22 rfl (lv_at hl 0 rfl) ?_
      refine lv_iload_n hx hb dX8_peek_23 rfl (lv_at hl 3 rfl) ?_
      obtain ⟨z4, hz4, hF⟩ := ob hF
      refine cV (wr := [(q_, .inr (8, [.ref q_now, .ref q_kept, .int u_isKept, .ref q_supposed, .ref q_rings, .ref q_netting, .ref q_text, .ref q_tapes])), (q_tapes, .inl (C 4, 6, .inr (.inr (.inr (.inr u_tapes)))))]) (w2 := [(q_, .inr (8, [.ref q_now, .ref q_kept, .int u_isKept, .ref q_supposed, .ref q_rings, .ref q_netting, .ref q_text, .ref q_tapes])), (q_tapes, .inl (C 4, 6, .inr (.inr (.inr (.inr u_tapes))))), (qt1_, .inr (6, [.int ut1_sort, .int ut1_length, .ref qt1_items])), (qt1_items, .inl (C 1, 60, .inr (.inl ut1_items)))]) (st2 := [.long z4]) cx (CX6_at l D C qt1_ qt1_items ut1_sort ut1_length ut1_items x2 z4 hz4) lk_X8_252 my_X6_at ml_X6_at ⟨by decide, by decide⟩ hw [2, 3] [0, 1] [0, 1, 2, 3] rfl rfl (by decide) rfl rfl rfl rfl (Nat.le_of_ble_eq_true rfl) dX8_peek_24 rfl (fun H locs hw => ?_) hl.1
      obtain rfl := Option.some.inj hF
      exact rt_l hret hw rfl dX8_peek_27
    · replace hF := oi_t c3 hF
      refine lv_ldc2 (v := (-9223372036854775808)) hx hb cx.2.2.2.1 (cx.2.2.2.2.1 _ cl_X8_159) dX8_peek_18 ?_
      obtain rfl := Option.some.inj hF
      exact rt_l hret hw rfl dX8_peek_21
theorem lk_X8_270 : Cond.methodLink RX8 270 yX6_hasStretch ∈ gdt := gdt_of 822 (by decide +kernel) (by decide +kernel)
theorem lk_X8_273 : Cond.methodLink RX8 273 yX6_takeStretch ∈ gdt := gdt_of 826 (by decide +kernel) (by decide +kernel)
theorem my_X6_takeStretch : (yX6_takeStretch.cls ≠ "java/lang/invoke/MethodHandle" ∧ yX6_takeStretch.cls ≠ "java/lang/invoke/VarHandle") ∧ Cond.instanceMethod yX6_takeStretch ∈ gdt ∧ Cond.selects yX6_takeStretch.cls yX6_takeStretch yX6_takeStretch ∈ gdt ∧ Cond.initialized yX6_takeStretch.cls ∈ gdt ∧ Cond.code yX6_takeStretch cX6_takeStretch 5 none ∈ gdt := ⟨⟨by decide +kernel, by decide +kernel⟩, gdt_of 827 (by decide +kernel) (by decide +kernel), gdt_of 828 (by decide +kernel) (by decide +kernel), gdt_of 76 (by decide +kernel) (by decide +kernel), gdt_of 829 (by decide +kernel) (by decide +kernel)⟩
theorem ml_X6_takeStretch : (parseMethodDescriptor yX6_takeStretch.desc).map (fun d => d.parameters.length) = some 4 := by decide +kernel
theorem dX8_shift_0 : decode cX8_shift 0 = .ok (.aload_n 0, 1) := by decide +kernel
theorem dX8_shift_1 : decode cX8_shift 1 = .ok (.iload_n 1, 1) := by decide +kernel
theorem dX8_shift_2 : decode cX8_shift 2 = .ok (.invokevirtual 242, 3) := by decide +kernel
theorem dX8_shift_5 : decode cX8_shift 5 = .ok (.astore 6, 2) := by decide +kernel
theorem dX8_shift_7 : decode cX8_shift 7 = .ok (.aload_n 0, 1) := by decide +kernel
theorem dX8_shift_8 : decode cX8_shift 8 = .ok (.iload_n 3, 1) := by decide +kernel
theorem dX8_shift_9 : decode cX8_shift 9 = .ok (.invokevirtual 242, 3) := by decide +kernel
theorem dX8_shift_12 : decode cX8_shift 12 = .ok (.astore 7, 2) := by decide +kernel
theorem dX8_shift_14 : decode cX8_shift 14 = .ok (.aload 6, 2) := by decide +kernel
theorem dX8_shift_16 : decode cX8_shift 16 = .ok (.ifnull 8, 3) := by decide +kernel
theorem dX8_shift_19 : decode cX8_shift 19 = .ok (.aload 7, 2) := by decide +kernel
theorem dX8_shift_21 : decode cX8_shift 21 = .ok (.ifnonnull 5, 3) := by decide +kernel
theorem dX8_shift_24 : decode cX8_shift 24 = .ok (.iconst (-1), 1) := by decide +kernel
theorem dX8_shift_25 : decode cX8_shift 25 = .ok (.ireturn, 1) := by decide +kernel
theorem dX8_shift_26 : decode cX8_shift 26 = .ok (.aload 6, 2) := by decide +kernel
theorem dX8_shift_28 : decode cX8_shift 28 = .ok (.invokevirtual 246, 3) := by decide +kernel
theorem dX8_shift_31 : decode cX8_shift 31 = .ok (.iconst (-1), 1) := by decide +kernel
theorem dX8_shift_32 : decode cX8_shift 32 = .ok (.if_icmp .eq 12, 3) := by decide +kernel
theorem dX8_shift_35 : decode cX8_shift 35 = .ok (.aload 7, 2) := by decide +kernel
theorem dX8_shift_37 : decode cX8_shift 37 = .ok (.invokevirtual 246, 3) := by decide +kernel
theorem dX8_shift_40 : decode cX8_shift 40 = .ok (.iconst (-1), 1) := by decide +kernel
theorem dX8_shift_41 : decode cX8_shift 41 = .ok (.if_icmp .ne 6, 3) := by decide +kernel
theorem dX8_shift_44 : decode cX8_shift 44 = .ok (.bipush (-11), 2) := by decide +kernel
theorem dX8_shift_46 : decode cX8_shift 46 = .ok (.ireturn, 1) := by decide +kernel
theorem dX8_shift_47 : decode cX8_shift 47 = .ok (.aload 6, 2) := by decide +kernel
theorem dX8_shift_49 : decode cX8_shift 49 = .ok (.invokevirtual 246, 3) := by decide +kernel
theorem dX8_shift_52 : decode cX8_shift 52 = .ok (.aload 7, 2) := by decide +kernel
theorem dX8_shift_54 : decode cX8_shift 54 = .ok (.invokevirtual 246, 3) := by decide +kernel
theorem dX8_shift_57 : decode cX8_shift 57 = .ok (.if_icmp .eq 6, 3) := by decide +kernel
theorem dX8_shift_60 : decode cX8_shift 60 = .ok (.bipush (-12), 2) := by decide +kernel
theorem dX8_shift_62 : decode cX8_shift 62 = .ok (.ireturn, 1) := by decide +kernel
theorem dX8_shift_63 : decode cX8_shift 63 = .ok (.aload 6, 2) := by decide +kernel
theorem dX8_shift_65 : decode cX8_shift 65 = .ok (.iload_n 2, 1) := by decide +kernel
theorem dX8_shift_66 : decode cX8_shift 66 = .ok (.iload 5, 2) := by decide +kernel
theorem dX8_shift_68 : decode cX8_shift 68 = .ok (.invokevirtual 270, 3) := by decide +kernel
theorem dX8_shift_71 : decode cX8_shift 71 = .ok (.ifCond .eq 15, 3) := by decide +kernel
theorem dX8_shift_74 : decode cX8_shift 74 = .ok (.aload 7, 2) := by decide +kernel
theorem dX8_shift_76 : decode cX8_shift 76 = .ok (.iload 4, 2) := by decide +kernel
theorem dX8_shift_78 : decode cX8_shift 78 = .ok (.iload 5, 2) := by decide +kernel
theorem dX8_shift_80 : decode cX8_shift 80 = .ok (.invokevirtual 270, 3) := by decide +kernel
theorem dX8_shift_83 : decode cX8_shift 83 = .ok (.ifCond .ne 6, 3) := by decide +kernel
theorem dX8_shift_86 : decode cX8_shift 86 = .ok (.bipush (-13), 2) := by decide +kernel
theorem dX8_shift_88 : decode cX8_shift 88 = .ok (.ireturn, 1) := by decide +kernel
theorem dX8_shift_89 : decode cX8_shift 89 = .ok (.aload 7, 2) := by decide +kernel
theorem dX8_shift_91 : decode cX8_shift 91 = .ok (.iload 4, 2) := by decide +kernel
theorem dX8_shift_93 : decode cX8_shift 93 = .ok (.aload 6, 2) := by decide +kernel
theorem dX8_shift_95 : decode cX8_shift 95 = .ok (.iload_n 2, 1) := by decide +kernel
theorem dX8_shift_96 : decode cX8_shift 96 = .ok (.iload 5, 2) := by decide +kernel
theorem dX8_shift_98 : decode cX8_shift 98 = .ok (.invokevirtual 273, 3) := by decide +kernel
theorem dX8_shift_101 : decode cX8_shift 101 = .ok (.iload 5, 2) := by decide +kernel
theorem dX8_shift_103 : decode cX8_shift 103 = .ok (.ireturn, 1) := by decide +kernel
def fX8_shift (ut1_sort : Int32) (ut1_length : Int32) (ut1_items : (Nat → Int64)) (ut2_sort : Int32) (ut2_length : Int32) (ut2_items : (Nat → Int64)) (x1 : Int32) (x2 : Int32) (x3 : Int32) (x4 : Int32) (x5 : Int32) : Option (Int32 × (Nat → Int64)) := if x1 < 0 ∨ 6 ≤ x1 then (if x3 < 0 ∨ 6 ≤ x3 then (some ((-1), ut2_items)) else (some ((-1), ut2_items))) else (if x3 < 0 ∨ 6 ≤ x3 then (some ((-1), ut2_items)) else ((fX6_sort ut1_sort).bind (fun z4 => if z4 = (-1) then (some ((-11), ut2_items)) else ((fX6_sort ut2_sort).bind (fun z6 => if z6 = (-1) then (some ((-11), ut2_items)) else ((fX6_sort ut1_sort).bind (fun z8 => (fX6_sort ut2_sort).bind (fun z9 => if z8 = z9 then ((fX6_hasStretch ut1_length x2 x5).bind (fun z11 => if z11 = 0 then (some ((-13), ut2_items)) else ((fX6_hasStretch ut2_length x4 x5).bind (fun z13 => if z13 = 0 then (some ((-13), ut2_items)) else ((fX6_takeStretch ut2_length ut2_items ut1_length ut1_items x4 x2 x5).bind (fun z15 => some (x5, z15))))))) else (some ((-12), ut2_items))))))))))
set_option maxRecDepth 20000 in
theorem CX8_shift (l : Launch) (D : va_G) (C : Nat → ClassId) (q_ q_now q_kept q_supposed q_rings q_netting q_text q_tapes qt1_ qt1_items qt2_ qt2_items : Nat) (u_isKept : Int32) (u_tapes : (Nat → Option Nat)) (ut1_sort : Int32) (ut1_length : Int32) (ut1_items : (Nat → Int64)) (ut2_sort : Int32) (ut2_length : Int32) (ut2_items : (Nat → Int64)) (x1 : Int32) (x2 : Int32) (x3 : Int32) (x4 : Int32) (x5 : Int32) (z : (Int32 × (Nat → Int64))) (hF : fX8_shift ut1_sort ut1_length ut1_items ut2_sort ut2_length ut2_items x1 x2 x3 x4 x5 = some z) (hT2 : ¬ (x1 < 0 ∨ 6 ≤ x1) → u_tapes (x1).toNatClampNeg = some qt1_) (hT9 : ¬ (x3 < 0 ∨ 6 ≤ x3) → u_tapes (x3).toNatClampNeg = some qt2_) : Ct l yX8_shift cX8_shift 8 (some .int) 3 D C [.ref q_, .int x1, .int x2, .int x3, .int x4, .int x5] [(q_, .inr (8, [.ref q_now, .ref q_kept, .int u_isKept, .ref q_supposed, .ref q_rings, .ref q_netting, .ref q_text, .ref q_tapes])), (q_tapes, .inl (C 4, 6, .inr (.inr (.inr (.inr u_tapes))))), (qt1_, .inr (6, [.int ut1_sort, .int ut1_length, .ref qt1_items])), (qt1_items, .inl (C 1, 60, .inr (.inl ut1_items))), (qt2_, .inr (6, [.int ut2_sort, .int ut2_length, .ref qt2_items])), (qt2_items, .inl (C 1, 60, .inr (.inl ut2_items)))] [(q_, .inr (8, [.ref q_now, .ref q_kept, .int u_isKept, .ref q_supposed, .ref q_rings, .ref q_netting, .ref q_text, .ref q_tapes])), (q_tapes, .inl (C 4, 6, .inr (.inr (.inr (.inr u_tapes))))), (qt1_, .inr (6, [.int ut1_sort, .int ut1_length, .ref qt1_items])), (qt1_items, .inl (C 1, 60, .inr (.inl ut1_items))), (qt2_, .inr (6, [.int ut2_sort, .int ut2_length, .ref qt2_items])), (qt2_items, .inl (C 1, 60, .inr (.inl z.2)))] (some (.int z.1)) := by
  refine Ct_of (by decide) (Nat.le_of_ble_eq_true rfl) ?_
  intro p e R s m args below meth c A Q H locs ls cx hw hl hret
  have cx : CX p m c s args RX8 cX8_shift 8 D C A R 3 := cx
  have hx := cx.1
  have hb := cx.2.1
  have hl : lv_has ls 8 [(0, .ref q_), (1, .int x1), (2, .int x2), (3, .int x3), (4, .int x4), (5, .int x5)] := hl
  rw [fX8_shift.eq_1] at hF
  refine lv_aload_n hx hb dX8_shift_0 rfl (lv_at hl 0 rfl) ?_
  refine lv_iload_n hx hb dX8_shift_1 rfl (lv_at hl 1 rfl) ?_
  by_cases c1 : x1 < 0 ∨ 6 ≤ x1
  · replace hF := oi_t c1 hF
    refine cV (wr := [(qt1_, .inr (6, [.int ut1_sort, .int ut1_length, .ref qt1_items])), (qt1_items, .inl (C 1, 60, .inr (.inl ut1_items))), (qt2_, .inr (6, [.int ut2_sort, .int ut2_length, .ref qt2_items])), (qt2_items, .inl (C 1, 60, .inr (.inl ut2_items)))]) (w2 := [(q_, .inr (8, [.ref q_now, .ref q_kept, .int u_isKept, .ref q_supposed, .ref q_rings, .ref q_netting, .ref q_text, .ref q_tapes])), (q_tapes, .inl (C 4, 6, .inr (.inr (.inr (.inr u_tapes))))), (qt1_, .inr (6, [.int ut1_sort, .int ut1_length, .ref qt1_items])), (qt1_items, .inl (C 1, 60, .inr (.inl ut1_items))), (qt2_, .inr (6, [.int ut2_sort, .int ut2_length, .ref qt2_items])), (qt2_items, .inl (C 1, 60, .inr (.inl ut2_items)))]) (st2 := [.null]) cx (CX8_tapeAt_n l D C q_ q_now q_kept q_supposed q_rings q_netting q_text q_tapes u_isKept u_tapes x1 c1) lk_X8_242 my_X8_tapeAt ml_X8_tapeAt ⟨by decide, by decide⟩ hw [0, 1] [2, 3, 4, 5] [4, 5, 0, 1, 2, 3] rfl rfl (by decide) rfl rfl rfl rfl (Nat.le_of_ble_eq_true rfl) dX8_shift_2 rfl (fun H locs hw => ?_) hl.1
    refine lv_astoreN (lv' := [(6, .null), (0, .ref q_), (1, .int x1), (2, .int x2), (3, .int x3), (4, .int x4), (5, .int x5)]) hx hb dX8_shift_5 hl (by decide) rfl (fun ls hl => ?_)
    refine lv_aload_n hx hb dX8_shift_7 rfl (lv_at hl 1 rfl) ?_
    refine lv_iload_n hx hb dX8_shift_8 rfl (lv_at hl 4 rfl) ?_
    by_cases c2 : x3 < 0 ∨ 6 ≤ x3
    · replace hF := oi_t c2 hF
      refine cV (wr := [(qt1_, .inr (6, [.int ut1_sort, .int ut1_length, .ref qt1_items])), (qt1_items, .inl (C 1, 60, .inr (.inl ut1_items))), (qt2_, .inr (6, [.int ut2_sort, .int ut2_length, .ref qt2_items])), (qt2_items, .inl (C 1, 60, .inr (.inl ut2_items)))]) (w2 := [(q_, .inr (8, [.ref q_now, .ref q_kept, .int u_isKept, .ref q_supposed, .ref q_rings, .ref q_netting, .ref q_text, .ref q_tapes])), (q_tapes, .inl (C 4, 6, .inr (.inr (.inr (.inr u_tapes))))), (qt1_, .inr (6, [.int ut1_sort, .int ut1_length, .ref qt1_items])), (qt1_items, .inl (C 1, 60, .inr (.inl ut1_items))), (qt2_, .inr (6, [.int ut2_sort, .int ut2_length, .ref qt2_items])), (qt2_items, .inl (C 1, 60, .inr (.inl ut2_items)))]) (st2 := [.null]) cx (CX8_tapeAt_n l D C q_ q_now q_kept q_supposed q_rings q_netting q_text q_tapes u_isKept u_tapes x3 c2) lk_X8_242 my_X8_tapeAt ml_X8_tapeAt ⟨by decide, by decide⟩ hw [0, 1] [2, 3, 4, 5] [4, 5, 0, 1, 2, 3] rfl rfl (by decide) rfl rfl rfl rfl (Nat.le_of_ble_eq_true rfl) dX8_shift_9 rfl (fun H locs hw => ?_) hl.1
      refine lv_astoreN (lv' := [(7, .null), (6, .null), (0, .ref q_), (1, .int x1), (2, .int x2), (3, .int x3), (4, .int x4), (5, .int x5)]) hx hb dX8_shift_12 hl (by decide) rfl (fun ls hl => ?_)
      refine lv_aloadN hx hb dX8_shift_14 (lv_at hl 1 rfl) ?_
      refine lv_ifnullN (tgt := 24) hx hb dX8_shift_16 (by decide) ?_
      refine lv_iconst (v := (-1)) hx hb dX8_shift_24 (by decide) ?_
      obtain rfl := Option.some.inj hF
      exact rt_i hret hw rfl dX8_shift_25
    · replace hF := oi_f c2 hF
      refine cV (wr := [(qt1_, .inr (6, [.int ut1_sort, .int ut1_length, .ref qt1_items])), (qt1_items, .inl (C 1, 60, .inr (.inl ut1_items))), (qt2_, .inr (6, [.int ut2_sort, .int ut2_length, .ref qt2_items])), (qt2_items, .inl (C 1, 60, .inr (.inl ut2_items)))]) (w2 := [(q_, .inr (8, [.ref q_now, .ref q_kept, .int u_isKept, .ref q_supposed, .ref q_rings, .ref q_netting, .ref q_text, .ref q_tapes])), (q_tapes, .inl (C 4, 6, .inr (.inr (.inr (.inr u_tapes))))), (qt1_, .inr (6, [.int ut1_sort, .int ut1_length, .ref qt1_items])), (qt1_items, .inl (C 1, 60, .inr (.inl ut1_items))), (qt2_, .inr (6, [.int ut2_sort, .int ut2_length, .ref qt2_items])), (qt2_items, .inl (C 1, 60, .inr (.inl ut2_items)))]) (st2 := [.ref qt2_]) cx (CX8_tapeAt_r l D C q_ q_now q_kept q_supposed q_rings q_netting q_text q_tapes u_isKept u_tapes x3 qt2_ c2 (hT9 c2)) lk_X8_242 my_X8_tapeAt ml_X8_tapeAt ⟨by decide, by decide⟩ hw [0, 1] [2, 3, 4, 5] [4, 5, 0, 1, 2, 3] rfl rfl (by decide) rfl rfl rfl rfl (Nat.le_of_ble_eq_true rfl) dX8_shift_9 rfl (fun H locs hw => ?_) hl.1
      refine lv_astore (lv' := [(7, .ref qt2_), (6, .null), (0, .ref q_), (1, .int x1), (2, .int x2), (3, .int x3), (4, .int x4), (5, .int x5)]) hx hb dX8_shift_12 hl (by decide) rfl (fun ls hl => ?_)
      refine lv_aloadN hx hb dX8_shift_14 (lv_at hl 1 rfl) ?_
      refine lv_ifnullN (tgt := 24) hx hb dX8_shift_16 (by decide) ?_
      refine lv_iconst (v := (-1)) hx hb dX8_shift_24 (by decide) ?_
      obtain rfl := Option.some.inj hF
      exact rt_i hret hw rfl dX8_shift_25
  · replace hF := oi_f c1 hF
    refine cV (wr := [(qt1_, .inr (6, [.int ut1_sort, .int ut1_length, .ref qt1_items])), (qt1_items, .inl (C 1, 60, .inr (.inl ut1_items))), (qt2_, .inr (6, [.int ut2_sort, .int ut2_length, .ref qt2_items])), (qt2_items, .inl (C 1, 60, .inr (.inl ut2_items)))]) (w2 := [(q_, .inr (8, [.ref q_now, .ref q_kept, .int u_isKept, .ref q_supposed, .ref q_rings, .ref q_netting, .ref q_text, .ref q_tapes])), (q_tapes, .inl (C 4, 6, .inr (.inr (.inr (.inr u_tapes))))), (qt1_, .inr (6, [.int ut1_sort, .int ut1_length, .ref qt1_items])), (qt1_items, .inl (C 1, 60, .inr (.inl ut1_items))), (qt2_, .inr (6, [.int ut2_sort, .int ut2_length, .ref qt2_items])), (qt2_items, .inl (C 1, 60, .inr (.inl ut2_items)))]) (st2 := [.ref qt1_]) cx (CX8_tapeAt_r l D C q_ q_now q_kept q_supposed q_rings q_netting q_text q_tapes u_isKept u_tapes x1 qt1_ c1 (hT2 c1)) lk_X8_242 my_X8_tapeAt ml_X8_tapeAt ⟨by decide, by decide⟩ hw [0, 1] [2, 3, 4, 5] [4, 5, 0, 1, 2, 3] rfl rfl (by decide) rfl rfl rfl rfl (Nat.le_of_ble_eq_true rfl) dX8_shift_2 rfl (fun H locs hw => ?_) hl.1
    refine lv_astore (lv' := [(6, .ref qt1_), (0, .ref q_), (1, .int x1), (2, .int x2), (3, .int x3), (4, .int x4), (5, .int x5)]) hx hb dX8_shift_5 hl (by decide) rfl (fun ls hl => ?_)
    refine lv_aload_n hx hb dX8_shift_7 rfl (lv_at hl 1 rfl) ?_
    refine lv_iload_n hx hb dX8_shift_8 rfl (lv_at hl 4 rfl) ?_
    by_cases c3 : x3 < 0 ∨ 6 ≤ x3
    · replace hF := oi_t c3 hF
      refine cV (wr := [(qt1_, .inr (6, [.int ut1_sort, .int ut1_length, .ref qt1_items])), (qt1_items, .inl (C 1, 60, .inr (.inl ut1_items))), (qt2_, .inr (6, [.int ut2_sort, .int ut2_length, .ref qt2_items])), (qt2_items, .inl (C 1, 60, .inr (.inl ut2_items)))]) (w2 := [(q_, .inr (8, [.ref q_now, .ref q_kept, .int u_isKept, .ref q_supposed, .ref q_rings, .ref q_netting, .ref q_text, .ref q_tapes])), (q_tapes, .inl (C 4, 6, .inr (.inr (.inr (.inr u_tapes))))), (qt1_, .inr (6, [.int ut1_sort, .int ut1_length, .ref qt1_items])), (qt1_items, .inl (C 1, 60, .inr (.inl ut1_items))), (qt2_, .inr (6, [.int ut2_sort, .int ut2_length, .ref qt2_items])), (qt2_items, .inl (C 1, 60, .inr (.inl ut2_items)))]) (st2 := [.null]) cx (CX8_tapeAt_n l D C q_ q_now q_kept q_supposed q_rings q_netting q_text q_tapes u_isKept u_tapes x3 c3) lk_X8_242 my_X8_tapeAt ml_X8_tapeAt ⟨by decide, by decide⟩ hw [0, 1] [2, 3, 4, 5] [4, 5, 0, 1, 2, 3] rfl rfl (by decide) rfl rfl rfl rfl (Nat.le_of_ble_eq_true rfl) dX8_shift_9 rfl (fun H locs hw => ?_) hl.1
      refine lv_astoreN (lv' := [(7, .null), (6, .ref qt1_), (0, .ref q_), (1, .int x1), (2, .int x2), (3, .int x3), (4, .int x4), (5, .int x5)]) hx hb dX8_shift_12 hl (by decide) rfl (fun ls hl => ?_)
      refine lv_aload hx hb dX8_shift_14 (lv_at hl 1 rfl) ?_
      refine lv_ifnull hx hb dX8_shift_16 ?_
      refine lv_aloadN hx hb dX8_shift_19 (lv_at hl 0 rfl) ?_
      refine lv_ifnonnullN hx hb dX8_shift_21 ?_
      refine lv_iconst (v := (-1)) hx hb dX8_shift_24 (by decide) ?_
      obtain rfl := Option.some.inj hF
      exact rt_i hret hw rfl dX8_shift_25
    · replace hF := oi_f c3 hF
      refine cV (wr := [(qt1_, .inr (6, [.int ut1_sort, .int ut1_length, .ref qt1_items])), (qt1_items, .inl (C 1, 60, .inr (.inl ut1_items))), (qt2_, .inr (6, [.int ut2_sort, .int ut2_length, .ref qt2_items])), (qt2_items, .inl (C 1, 60, .inr (.inl ut2_items)))]) (w2 := [(q_, .inr (8, [.ref q_now, .ref q_kept, .int u_isKept, .ref q_supposed, .ref q_rings, .ref q_netting, .ref q_text, .ref q_tapes])), (q_tapes, .inl (C 4, 6, .inr (.inr (.inr (.inr u_tapes))))), (qt1_, .inr (6, [.int ut1_sort, .int ut1_length, .ref qt1_items])), (qt1_items, .inl (C 1, 60, .inr (.inl ut1_items))), (qt2_, .inr (6, [.int ut2_sort, .int ut2_length, .ref qt2_items])), (qt2_items, .inl (C 1, 60, .inr (.inl ut2_items)))]) (st2 := [.ref qt2_]) cx (CX8_tapeAt_r l D C q_ q_now q_kept q_supposed q_rings q_netting q_text q_tapes u_isKept u_tapes x3 qt2_ c3 (hT9 c3)) lk_X8_242 my_X8_tapeAt ml_X8_tapeAt ⟨by decide, by decide⟩ hw [0, 1] [2, 3, 4, 5] [4, 5, 0, 1, 2, 3] rfl rfl (by decide) rfl rfl rfl rfl (Nat.le_of_ble_eq_true rfl) dX8_shift_9 rfl (fun H locs hw => ?_) hl.1
      refine lv_astore (lv' := [(7, .ref qt2_), (6, .ref qt1_), (0, .ref q_), (1, .int x1), (2, .int x2), (3, .int x3), (4, .int x4), (5, .int x5)]) hx hb dX8_shift_12 hl (by decide) rfl (fun ls hl => ?_)
      refine lv_aload hx hb dX8_shift_14 (lv_at hl 1 rfl) ?_
      refine lv_ifnull hx hb dX8_shift_16 ?_
      refine lv_aload hx hb dX8_shift_19 (lv_at hl 0 rfl) ?_
      refine lv_ifnonnull (tgt := 26) hx hb dX8_shift_21 (by decide) ?_
      refine lv_aload hx hb dX8_shift_26 (lv_at hl 1 rfl) ?_
      obtain ⟨z4, hz4, hF⟩ := ob hF
      refine cV (wr := [(q_, .inr (8, [.ref q_now, .ref q_kept, .int u_isKept, .ref q_supposed, .ref q_rings, .ref q_netting, .ref q_text, .ref q_tapes])), (q_tapes, .inl (C 4, 6, .inr (.inr (.inr (.inr u_tapes))))), (qt1_items, .inl (C 1, 60, .inr (.inl ut1_items))), (qt2_, .inr (6, [.int ut2_sort, .int ut2_length, .ref qt2_items])), (qt2_items, .inl (C 1, 60, .inr (.inl ut2_items)))]) (w2 := [(q_, .inr (8, [.ref q_now, .ref q_kept, .int u_isKept, .ref q_supposed, .ref q_rings, .ref q_netting, .ref q_text, .ref q_tapes])), (q_tapes, .inl (C 4, 6, .inr (.inr (.inr (.inr u_tapes))))), (qt1_, .inr (6, [.int ut1_sort, .int ut1_length, .ref qt1_items])), (qt1_items, .inl (C 1, 60, .inr (.inl ut1_items))), (qt2_, .inr (6, [.int ut2_sort, .int ut2_length, .ref qt2_items])), (qt2_items, .inl (C 1, 60, .inr (.inl ut2_items)))]) (st2 := [.int z4]) cx (CX6_sort l D C qt1_ qt1_items ut1_sort ut1_length z4 hz4) lk_X8_246 my_X6_sort ml_X6_sort ⟨by decide, by decide⟩ hw [2] [0, 1, 3, 4, 5] [0, 1, 5, 2, 3, 4] rfl rfl (by decide) rfl rfl rfl rfl (Nat.le_of_ble_eq_true rfl) dX8_shift_28 rfl (fun H locs hw => ?_) hl.1
      refine lv_iconst (v := (-1)) hx hb dX8_shift_31 (by decide) ?_
      refine lv_icmp_eq (tgt := 44) hx hb dX8_shift_32 (by decide) (fun c5 => ?_) (fun c5 => ?_)
      · replace hF := oi_t c5 hF
        refine lv_bipush (v := (-11)) hx hb dX8_shift_44 (by decide) ?_
        obtain rfl := Option.some.inj hF
        exact rt_i hret hw rfl dX8_shift_46
      · replace hF := oi_f c5 hF
        refine lv_aload hx hb dX8_shift_35 (lv_at hl 0 rfl) ?_
        obtain ⟨z6, hz6, hF⟩ := ob hF
        refine cV (wr := [(q_, .inr (8, [.ref q_now, .ref q_kept, .int u_isKept, .ref q_supposed, .ref q_rings, .ref q_netting, .ref q_text, .ref q_tapes])), (q_tapes, .inl (C 4, 6, .inr (.inr (.inr (.inr u_tapes))))), (qt1_, .inr (6, [.int ut1_sort, .int ut1_length, .ref qt1_items])), (qt1_items, .inl (C 1, 60, .inr (.inl ut1_items))), (qt2_items, .inl (C 1, 60, .inr (.inl ut2_items)))]) (w2 := [(q_, .inr (8, [.ref q_now, .ref q_kept, .int u_isKept, .ref q_supposed, .ref q_rings, .ref q_netting, .ref q_text, .ref q_tapes])), (q_tapes, .inl (C 4, 6, .inr (.inr (.inr (.inr u_tapes))))), (qt1_, .inr (6, [.int ut1_sort, .int ut1_length, .ref qt1_items])), (qt1_items, .inl (C 1, 60, .inr (.inl ut1_items))), (qt2_, .inr (6, [.int ut2_sort, .int ut2_length, .ref qt2_items])), (qt2_items, .inl (C 1, 60, .inr (.inl ut2_items)))]) (st2 := [.int z6]) cx (CX6_sort l D C qt2_ qt2_items ut2_sort ut2_length z6 hz6) lk_X8_246 my_X6_sort ml_X6_sort ⟨by decide, by decide⟩ hw [4] [0, 1, 2, 3, 5] [0, 1, 2, 3, 5, 4] rfl rfl (by decide) rfl rfl rfl rfl (Nat.le_of_ble_eq_true rfl) dX8_shift_37 rfl (fun H locs hw => ?_) hl.1
        refine lv_iconst (v := (-1)) hx hb dX8_shift_40 (by decide) ?_
        refine lv_icmp_ne (tgt := 47) hx hb dX8_shift_41 (by decide) (fun c7 => ?_) (fun c7 => ?_)
        · replace hF := oi_f c7 hF
          refine lv_aload hx hb dX8_shift_47 (lv_at hl 1 rfl) ?_
          obtain ⟨z8, hz8, hF⟩ := ob hF
          refine cV (wr := [(q_, .inr (8, [.ref q_now, .ref q_kept, .int u_isKept, .ref q_supposed, .ref q_rings, .ref q_netting, .ref q_text, .ref q_tapes])), (q_tapes, .inl (C 4, 6, .inr (.inr (.inr (.inr u_tapes))))), (qt1_items, .inl (C 1, 60, .inr (.inl ut1_items))), (qt2_, .inr (6, [.int ut2_sort, .int ut2_length, .ref qt2_items])), (qt2_items, .inl (C 1, 60, .inr (.inl ut2_items)))]) (w2 := [(q_, .inr (8, [.ref q_now, .ref q_kept, .int u_isKept, .ref q_supposed, .ref q_rings, .ref q_netting, .ref q_text, .ref q_tapes])), (q_tapes, .inl (C 4, 6, .inr (.inr (.inr (.inr u_tapes))))), (qt1_, .inr (6, [.int ut1_sort, .int ut1_length, .ref qt1_items])), (qt1_items, .inl (C 1, 60, .inr (.inl ut1_items))), (qt2_, .inr (6, [.int ut2_sort, .int ut2_length, .ref qt2_items])), (qt2_items, .inl (C 1, 60, .inr (.inl ut2_items)))]) (st2 := [.int z8]) cx (CX6_sort l D C qt1_ qt1_items ut1_sort ut1_length z8 hz8) lk_X8_246 my_X6_sort ml_X6_sort ⟨by decide, by decide⟩ hw [2] [0, 1, 3, 4, 5] [0, 1, 5, 2, 3, 4] rfl rfl (by decide) rfl rfl rfl rfl (Nat.le_of_ble_eq_true rfl) dX8_shift_49 rfl (fun H locs hw => ?_) hl.1
          refine lv_aload hx hb dX8_shift_52 (lv_at hl 0 rfl) ?_
          obtain ⟨z9, hz9, hF⟩ := ob hF
          refine cV (wr := [(q_, .inr (8, [.ref q_now, .ref q_kept, .int u_isKept, .ref q_supposed, .ref q_rings, .ref q_netting, .ref q_text, .ref q_tapes])), (q_tapes, .inl (C 4, 6, .inr (.inr (.inr (.inr u_tapes))))), (qt1_, .inr (6, [.int ut1_sort, .int ut1_length, .ref qt1_items])), (qt1_items, .inl (C 1, 60, .inr (.inl ut1_items))), (qt2_items, .inl (C 1, 60, .inr (.inl ut2_items)))]) (w2 := [(q_, .inr (8, [.ref q_now, .ref q_kept, .int u_isKept, .ref q_supposed, .ref q_rings, .ref q_netting, .ref q_text, .ref q_tapes])), (q_tapes, .inl (C 4, 6, .inr (.inr (.inr (.inr u_tapes))))), (qt1_, .inr (6, [.int ut1_sort, .int ut1_length, .ref qt1_items])), (qt1_items, .inl (C 1, 60, .inr (.inl ut1_items))), (qt2_, .inr (6, [.int ut2_sort, .int ut2_length, .ref qt2_items])), (qt2_items, .inl (C 1, 60, .inr (.inl ut2_items)))]) (st2 := [.int z9, .int z8]) cx (CX6_sort l D C qt2_ qt2_items ut2_sort ut2_length z9 hz9) lk_X8_246 my_X6_sort ml_X6_sort ⟨by decide, by decide⟩ hw [4] [0, 1, 2, 3, 5] [0, 1, 2, 3, 5, 4] rfl rfl (by decide) rfl rfl rfl rfl (Nat.le_of_ble_eq_true rfl) dX8_shift_54 rfl (fun H locs hw => ?_) hl.1
          refine lv_icmp_eq (tgt := 63) hx hb dX8_shift_57 (by decide) (fun c10 => ?_) (fun c10 => ?_)
          · replace hF := oi_t c10 hF
            refine lv_aload hx hb dX8_shift_63 (lv_at hl 1 rfl) ?_
            refine lv_iload_n hx hb dX8_shift_65 rfl (lv_at hl 4 rfl) ?_
            refine lv_iload hx hb dX8_shift_66 (lv_at hl 7 rfl) ?_
            obtain ⟨z11, hz11, hF⟩ := ob hF
            refine cV (wr := [(q_, .inr (8, [.ref q_now, .ref q_kept, .int u_isKept, .ref q_supposed, .ref q_rings, .ref q_netting, .ref q_text, .ref q_tapes])), (q_tapes, .inl (C 4, 6, .inr (.inr (.inr (.inr u_tapes))))), (qt1_items, .inl (C 1, 60, .inr (.inl ut1_items))), (qt2_, .inr (6, [.int ut2_sort, .int ut2_length, .ref qt2_items])), (qt2_items, .inl (C 1, 60, .inr (.inl ut2_items)))]) (w2 := [(q_, .inr (8, [.ref q_now, .ref q_kept, .int u_isKept, .ref q_supposed, .ref q_rings, .ref q_netting, .ref q_text, .ref q_tapes])), (q_tapes, .inl (C 4, 6, .inr (.inr (.inr (.inr u_tapes))))), (qt1_, .inr (6, [.int ut1_sort, .int ut1_length, .ref qt1_items])), (qt1_items, .inl (C 1, 60, .inr (.inl ut1_items))), (qt2_, .inr (6, [.int ut2_sort, .int ut2_length, .ref qt2_items])), (qt2_items, .inl (C 1, 60, .inr (.inl ut2_items)))]) (st2 := [.int z11]) cx (CX6_hasStretch l D C qt1_ qt1_items ut1_sort ut1_length x2 x5 z11 hz11) lk_X8_270 my_X6_hasStretch ml_X6_hasStretch ⟨by decide, by decide⟩ hw [2] [0, 1, 3, 4, 5] [0, 1, 5, 2, 3, 4] rfl rfl (by decide) rfl rfl rfl rfl (Nat.le_of_ble_eq_true rfl) dX8_shift_68 rfl (fun H locs hw => ?_) hl.1
            refine lv_if_eq (tgt := 86) hx hb dX8_shift_71 (by decide) (fun c12 => ?_) (fun c12 => ?_)
            · replace hF := oi_t c12 hF
              refine lv_bipush (v := (-13)) hx hb dX8_shift_86 (by decide) ?_
              obtain rfl := Option.some.inj hF
              exact rt_i hret hw rfl dX8_shift_88
            · replace hF := oi_f c12 hF
              refine lv_aload hx hb dX8_shift_74 (lv_at hl 0 rfl) ?_
              refine lv_iload hx hb dX8_shift_76 (lv_at hl 6 rfl) ?_
              refine lv_iload hx hb dX8_shift_78 (lv_at hl 7 rfl) ?_
              obtain ⟨z13, hz13, hF⟩ := ob hF
              refine cV (wr := [(q_, .inr (8, [.ref q_now, .ref q_kept, .int u_isKept, .ref q_supposed, .ref q_rings, .ref q_netting, .ref q_text, .ref q_tapes])), (q_tapes, .inl (C 4, 6, .inr (.inr (.inr (.inr u_tapes))))), (qt1_, .inr (6, [.int ut1_sort, .int ut1_length, .ref qt1_items])), (qt1_items, .inl (C 1, 60, .inr (.inl ut1_items))), (qt2_items, .inl (C 1, 60, .inr (.inl ut2_items)))]) (w2 := [(q_, .inr (8, [.ref q_now, .ref q_kept, .int u_isKept, .ref q_supposed, .ref q_rings, .ref q_netting, .ref q_text, .ref q_tapes])), (q_tapes, .inl (C 4, 6, .inr (.inr (.inr (.inr u_tapes))))), (qt1_, .inr (6, [.int ut1_sort, .int ut1_length, .ref qt1_items])), (qt1_items, .inl (C 1, 60, .inr (.inl ut1_items))), (qt2_, .inr (6, [.int ut2_sort, .int ut2_length, .ref qt2_items])), (qt2_items, .inl (C 1, 60, .inr (.inl ut2_items)))]) (st2 := [.int z13]) cx (CX6_hasStretch l D C qt2_ qt2_items ut2_sort ut2_length x4 x5 z13 hz13) lk_X8_270 my_X6_hasStretch ml_X6_hasStretch ⟨by decide, by decide⟩ hw [4] [0, 1, 2, 3, 5] [0, 1, 2, 3, 5, 4] rfl rfl (by decide) rfl rfl rfl rfl (Nat.le_of_ble_eq_true rfl) dX8_shift_80 rfl (fun H locs hw => ?_) hl.1
              refine lv_if_ne (tgt := 89) hx hb dX8_shift_83 (by decide) (fun c14 => ?_) (fun c14 => ?_)
              · replace hF := oi_f c14 hF
                refine lv_aload hx hb dX8_shift_89 (lv_at hl 0 rfl) ?_
                refine lv_iload hx hb dX8_shift_91 (lv_at hl 6 rfl) ?_
                refine lv_aload hx hb dX8_shift_93 (lv_at hl 1 rfl) ?_
                refine lv_iload_n hx hb dX8_shift_95 rfl (lv_at hl 4 rfl) ?_
                refine lv_iload hx hb dX8_shift_96 (lv_at hl 7 rfl) ?_
                obtain ⟨z15, hz15, hF⟩ := ob hF
                refine cV (wr := [(q_, .inr (8, [.ref q_now, .ref q_kept, .int u_isKept, .ref q_supposed, .ref q_rings, .ref q_netting, .ref q_text, .ref q_tapes])), (q_tapes, .inl (C 4, 6, .inr (.inr (.inr (.inr u_tapes)))))]) (w2 := [(q_, .inr (8, [.ref q_now, .ref q_kept, .int u_isKept, .ref q_supposed, .ref q_rings, .ref q_netting, .ref q_text, .ref q_tapes])), (q_tapes, .inl (C 4, 6, .inr (.inr (.inr (.inr u_tapes))))), (qt1_, .inr (6, [.int ut1_sort, .int ut1_length, .ref qt1_items])), (qt1_items, .inl (C 1, 60, .inr (.inl ut1_items))), (qt2_, .inr (6, [.int ut2_sort, .int ut2_length, .ref qt2_items])), (qt2_items, .inl (C 1, 60, .inr (.inl z15)))]) (st2 := []) cx (CX6_takeStretch l D C qt2_ qt2_items qt1_ qt1_items ut2_sort ut2_length ut2_items ut1_sort ut1_length ut1_items x4 x2 x5 z15 hz15) lk_X8_273 my_X6_takeStretch ml_X6_takeStretch ⟨by decide, by decide⟩ hw [4, 5, 2, 3] [0, 1] [0, 1, 4, 5, 2, 3] rfl rfl (by decide) rfl rfl rfl rfl (Nat.le_of_ble_eq_true rfl) dX8_shift_98 rfl (fun H locs hw => ?_) hl.1
                refine lv_iload hx hb dX8_shift_101 (lv_at hl 7 rfl) ?_
                obtain rfl := Option.some.inj hF
                exact rt_i hret hw rfl dX8_shift_103
              · replace hF := oi_t c14 hF
                refine lv_bipush (v := (-13)) hx hb dX8_shift_86 (by decide) ?_
                obtain rfl := Option.some.inj hF
                exact rt_i hret hw rfl dX8_shift_88
          · replace hF := oi_f c10 hF
            refine lv_bipush (v := (-12)) hx hb dX8_shift_60 (by decide) ?_
            obtain rfl := Option.some.inj hF
            exact rt_i hret hw rfl dX8_shift_62
        · replace hF := oi_t c7 hF
          refine lv_bipush (v := (-11)) hx hb dX8_shift_44 (by decide) ?_
          obtain rfl := Option.some.inj hF
          exact rt_i hret hw rfl dX8_shift_46
def fX8_shift_s (ut1_sort : Int32) (ut1_length : Int32) (ut1_items : (Nat → Int64)) (x1 : Int32) (x2 : Int32) (x3 : Int32) (x4 : Int32) (x5 : Int32) : Option (Int32 × (Nat → Int64)) := if x1 < 0 ∨ 6 ≤ x1 then (if x3 < 0 ∨ 6 ≤ x3 then (some ((-1), ut1_items)) else (some ((-1), ut1_items))) else (if x3 < 0 ∨ 6 ≤ x3 then (some ((-1), ut1_items)) else ((fX6_sort ut1_sort).bind (fun z4 => if z4 = (-1) then (some ((-11), ut1_items)) else ((fX6_sort ut1_sort).bind (fun z6 => if z6 = (-1) then (some ((-11), ut1_items)) else ((fX6_sort ut1_sort).bind (fun z8 => (fX6_sort ut1_sort).bind (fun z9 => if z8 = z9 then ((fX6_hasStretch ut1_length x2 x5).bind (fun z11 => if z11 = 0 then (some ((-13), ut1_items)) else ((fX6_hasStretch ut1_length x4 x5).bind (fun z13 => if z13 = 0 then (some ((-13), ut1_items)) else ((fX6_takeStretch_s ut1_length ut1_items x4 x2 x5).bind (fun z15 => some (x5, z15))))))) else (some ((-12), ut1_items))))))))))
set_option maxRecDepth 20000 in
theorem CX8_shift_s (l : Launch) (D : va_G) (C : Nat → ClassId) (q_ q_now q_kept q_supposed q_rings q_netting q_text q_tapes qt1_ qt1_items : Nat) (u_isKept : Int32) (u_tapes : (Nat → Option Nat)) (ut1_sort : Int32) (ut1_length : Int32) (ut1_items : (Nat → Int64)) (x1 : Int32) (x2 : Int32) (x3 : Int32) (x4 : Int32) (x5 : Int32) (z : (Int32 × (Nat → Int64))) (hF : fX8_shift_s ut1_sort ut1_length ut1_items x1 x2 x3 x4 x5 = some z) (hT2 : ¬ (x1 < 0 ∨ 6 ≤ x1) → u_tapes (x1).toNatClampNeg = some qt1_) (hT9 : ¬ (x3 < 0 ∨ 6 ≤ x3) → u_tapes (x3).toNatClampNeg = some qt1_) : Ct l yX8_shift cX8_shift 8 (some .int) 3 D C [.ref q_, .int x1, .int x2, .int x3, .int x4, .int x5] [(q_, .inr (8, [.ref q_now, .ref q_kept, .int u_isKept, .ref q_supposed, .ref q_rings, .ref q_netting, .ref q_text, .ref q_tapes])), (q_tapes, .inl (C 4, 6, .inr (.inr (.inr (.inr u_tapes))))), (qt1_, .inr (6, [.int ut1_sort, .int ut1_length, .ref qt1_items])), (qt1_items, .inl (C 1, 60, .inr (.inl ut1_items)))] [(q_, .inr (8, [.ref q_now, .ref q_kept, .int u_isKept, .ref q_supposed, .ref q_rings, .ref q_netting, .ref q_text, .ref q_tapes])), (q_tapes, .inl (C 4, 6, .inr (.inr (.inr (.inr u_tapes))))), (qt1_, .inr (6, [.int ut1_sort, .int ut1_length, .ref qt1_items])), (qt1_items, .inl (C 1, 60, .inr (.inl z.2)))] (some (.int z.1)) := by
  refine Ct_of (by decide) (Nat.le_of_ble_eq_true rfl) ?_
  intro p e R s m args below meth c A Q H locs ls cx hw hl hret
  have cx : CX p m c s args RX8 cX8_shift 8 D C A R 3 := cx
  have hx := cx.1
  have hb := cx.2.1
  have hl : lv_has ls 8 [(0, .ref q_), (1, .int x1), (2, .int x2), (3, .int x3), (4, .int x4), (5, .int x5)] := hl
  rw [fX8_shift_s.eq_1] at hF
  refine lv_aload_n hx hb dX8_shift_0 rfl (lv_at hl 0 rfl) ?_
  refine lv_iload_n hx hb dX8_shift_1 rfl (lv_at hl 1 rfl) ?_
  by_cases c1 : x1 < 0 ∨ 6 ≤ x1
  · replace hF := oi_t c1 hF
    refine cV (wr := [(qt1_, .inr (6, [.int ut1_sort, .int ut1_length, .ref qt1_items])), (qt1_items, .inl (C 1, 60, .inr (.inl ut1_items)))]) (w2 := [(q_, .inr (8, [.ref q_now, .ref q_kept, .int u_isKept, .ref q_supposed, .ref q_rings, .ref q_netting, .ref q_text, .ref q_tapes])), (q_tapes, .inl (C 4, 6, .inr (.inr (.inr (.inr u_tapes))))), (qt1_, .inr (6, [.int ut1_sort, .int ut1_length, .ref qt1_items])), (qt1_items, .inl (C 1, 60, .inr (.inl ut1_items)))]) (st2 := [.null]) cx (CX8_tapeAt_n l D C q_ q_now q_kept q_supposed q_rings q_netting q_text q_tapes u_isKept u_tapes x1 c1) lk_X8_242 my_X8_tapeAt ml_X8_tapeAt ⟨by decide, by decide⟩ hw [0, 1] [2, 3] [2, 3, 0, 1] rfl rfl (by decide) rfl rfl rfl rfl (Nat.le_of_ble_eq_true rfl) dX8_shift_2 rfl (fun H locs hw => ?_) hl.1
    refine lv_astoreN (lv' := [(6, .null), (0, .ref q_), (1, .int x1), (2, .int x2), (3, .int x3), (4, .int x4), (5, .int x5)]) hx hb dX8_shift_5 hl (by decide) rfl (fun ls hl => ?_)
    refine lv_aload_n hx hb dX8_shift_7 rfl (lv_at hl 1 rfl) ?_
    refine lv_iload_n hx hb dX8_shift_8 rfl (lv_at hl 4 rfl) ?_
    by_cases c2 : x3 < 0 ∨ 6 ≤ x3
    · replace hF := oi_t c2 hF
      refine cV (wr := [(qt1_, .inr (6, [.int ut1_sort, .int ut1_length, .ref qt1_items])), (qt1_items, .inl (C 1, 60, .inr (.inl ut1_items)))]) (w2 := [(q_, .inr (8, [.ref q_now, .ref q_kept, .int u_isKept, .ref q_supposed, .ref q_rings, .ref q_netting, .ref q_text, .ref q_tapes])), (q_tapes, .inl (C 4, 6, .inr (.inr (.inr (.inr u_tapes))))), (qt1_, .inr (6, [.int ut1_sort, .int ut1_length, .ref qt1_items])), (qt1_items, .inl (C 1, 60, .inr (.inl ut1_items)))]) (st2 := [.null]) cx (CX8_tapeAt_n l D C q_ q_now q_kept q_supposed q_rings q_netting q_text q_tapes u_isKept u_tapes x3 c2) lk_X8_242 my_X8_tapeAt ml_X8_tapeAt ⟨by decide, by decide⟩ hw [0, 1] [2, 3] [2, 3, 0, 1] rfl rfl (by decide) rfl rfl rfl rfl (Nat.le_of_ble_eq_true rfl) dX8_shift_9 rfl (fun H locs hw => ?_) hl.1
      refine lv_astoreN (lv' := [(7, .null), (6, .null), (0, .ref q_), (1, .int x1), (2, .int x2), (3, .int x3), (4, .int x4), (5, .int x5)]) hx hb dX8_shift_12 hl (by decide) rfl (fun ls hl => ?_)
      refine lv_aloadN hx hb dX8_shift_14 (lv_at hl 1 rfl) ?_
      refine lv_ifnullN (tgt := 24) hx hb dX8_shift_16 (by decide) ?_
      refine lv_iconst (v := (-1)) hx hb dX8_shift_24 (by decide) ?_
      obtain rfl := Option.some.inj hF
      exact rt_i hret hw rfl dX8_shift_25
    · replace hF := oi_f c2 hF
      refine cV (wr := [(qt1_, .inr (6, [.int ut1_sort, .int ut1_length, .ref qt1_items])), (qt1_items, .inl (C 1, 60, .inr (.inl ut1_items)))]) (w2 := [(q_, .inr (8, [.ref q_now, .ref q_kept, .int u_isKept, .ref q_supposed, .ref q_rings, .ref q_netting, .ref q_text, .ref q_tapes])), (q_tapes, .inl (C 4, 6, .inr (.inr (.inr (.inr u_tapes))))), (qt1_, .inr (6, [.int ut1_sort, .int ut1_length, .ref qt1_items])), (qt1_items, .inl (C 1, 60, .inr (.inl ut1_items)))]) (st2 := [.ref qt1_]) cx (CX8_tapeAt_r l D C q_ q_now q_kept q_supposed q_rings q_netting q_text q_tapes u_isKept u_tapes x3 qt1_ c2 (hT9 c2)) lk_X8_242 my_X8_tapeAt ml_X8_tapeAt ⟨by decide, by decide⟩ hw [0, 1] [2, 3] [2, 3, 0, 1] rfl rfl (by decide) rfl rfl rfl rfl (Nat.le_of_ble_eq_true rfl) dX8_shift_9 rfl (fun H locs hw => ?_) hl.1
      refine lv_astore (lv' := [(7, .ref qt1_), (6, .null), (0, .ref q_), (1, .int x1), (2, .int x2), (3, .int x3), (4, .int x4), (5, .int x5)]) hx hb dX8_shift_12 hl (by decide) rfl (fun ls hl => ?_)
      refine lv_aloadN hx hb dX8_shift_14 (lv_at hl 1 rfl) ?_
      refine lv_ifnullN (tgt := 24) hx hb dX8_shift_16 (by decide) ?_
      refine lv_iconst (v := (-1)) hx hb dX8_shift_24 (by decide) ?_
      obtain rfl := Option.some.inj hF
      exact rt_i hret hw rfl dX8_shift_25
  · replace hF := oi_f c1 hF
    refine cV (wr := [(qt1_, .inr (6, [.int ut1_sort, .int ut1_length, .ref qt1_items])), (qt1_items, .inl (C 1, 60, .inr (.inl ut1_items)))]) (w2 := [(q_, .inr (8, [.ref q_now, .ref q_kept, .int u_isKept, .ref q_supposed, .ref q_rings, .ref q_netting, .ref q_text, .ref q_tapes])), (q_tapes, .inl (C 4, 6, .inr (.inr (.inr (.inr u_tapes))))), (qt1_, .inr (6, [.int ut1_sort, .int ut1_length, .ref qt1_items])), (qt1_items, .inl (C 1, 60, .inr (.inl ut1_items)))]) (st2 := [.ref qt1_]) cx (CX8_tapeAt_r l D C q_ q_now q_kept q_supposed q_rings q_netting q_text q_tapes u_isKept u_tapes x1 qt1_ c1 (hT2 c1)) lk_X8_242 my_X8_tapeAt ml_X8_tapeAt ⟨by decide, by decide⟩ hw [0, 1] [2, 3] [2, 3, 0, 1] rfl rfl (by decide) rfl rfl rfl rfl (Nat.le_of_ble_eq_true rfl) dX8_shift_2 rfl (fun H locs hw => ?_) hl.1
    refine lv_astore (lv' := [(6, .ref qt1_), (0, .ref q_), (1, .int x1), (2, .int x2), (3, .int x3), (4, .int x4), (5, .int x5)]) hx hb dX8_shift_5 hl (by decide) rfl (fun ls hl => ?_)
    refine lv_aload_n hx hb dX8_shift_7 rfl (lv_at hl 1 rfl) ?_
    refine lv_iload_n hx hb dX8_shift_8 rfl (lv_at hl 4 rfl) ?_
    by_cases c3 : x3 < 0 ∨ 6 ≤ x3
    · replace hF := oi_t c3 hF
      refine cV (wr := [(qt1_, .inr (6, [.int ut1_sort, .int ut1_length, .ref qt1_items])), (qt1_items, .inl (C 1, 60, .inr (.inl ut1_items)))]) (w2 := [(q_, .inr (8, [.ref q_now, .ref q_kept, .int u_isKept, .ref q_supposed, .ref q_rings, .ref q_netting, .ref q_text, .ref q_tapes])), (q_tapes, .inl (C 4, 6, .inr (.inr (.inr (.inr u_tapes))))), (qt1_, .inr (6, [.int ut1_sort, .int ut1_length, .ref qt1_items])), (qt1_items, .inl (C 1, 60, .inr (.inl ut1_items)))]) (st2 := [.null]) cx (CX8_tapeAt_n l D C q_ q_now q_kept q_supposed q_rings q_netting q_text q_tapes u_isKept u_tapes x3 c3) lk_X8_242 my_X8_tapeAt ml_X8_tapeAt ⟨by decide, by decide⟩ hw [0, 1] [2, 3] [2, 3, 0, 1] rfl rfl (by decide) rfl rfl rfl rfl (Nat.le_of_ble_eq_true rfl) dX8_shift_9 rfl (fun H locs hw => ?_) hl.1
      refine lv_astoreN (lv' := [(7, .null), (6, .ref qt1_), (0, .ref q_), (1, .int x1), (2, .int x2), (3, .int x3), (4, .int x4), (5, .int x5)]) hx hb dX8_shift_12 hl (by decide) rfl (fun ls hl => ?_)
      refine lv_aload hx hb dX8_shift_14 (lv_at hl 1 rfl) ?_
      refine lv_ifnull hx hb dX8_shift_16 ?_
      refine lv_aloadN hx hb dX8_shift_19 (lv_at hl 0 rfl) ?_
      refine lv_ifnonnullN hx hb dX8_shift_21 ?_
      refine lv_iconst (v := (-1)) hx hb dX8_shift_24 (by decide) ?_
      obtain rfl := Option.some.inj hF
      exact rt_i hret hw rfl dX8_shift_25
    · replace hF := oi_f c3 hF
      refine cV (wr := [(qt1_, .inr (6, [.int ut1_sort, .int ut1_length, .ref qt1_items])), (qt1_items, .inl (C 1, 60, .inr (.inl ut1_items)))]) (w2 := [(q_, .inr (8, [.ref q_now, .ref q_kept, .int u_isKept, .ref q_supposed, .ref q_rings, .ref q_netting, .ref q_text, .ref q_tapes])), (q_tapes, .inl (C 4, 6, .inr (.inr (.inr (.inr u_tapes))))), (qt1_, .inr (6, [.int ut1_sort, .int ut1_length, .ref qt1_items])), (qt1_items, .inl (C 1, 60, .inr (.inl ut1_items)))]) (st2 := [.ref qt1_]) cx (CX8_tapeAt_r l D C q_ q_now q_kept q_supposed q_rings q_netting q_text q_tapes u_isKept u_tapes x3 qt1_ c3 (hT9 c3)) lk_X8_242 my_X8_tapeAt ml_X8_tapeAt ⟨by decide, by decide⟩ hw [0, 1] [2, 3] [2, 3, 0, 1] rfl rfl (by decide) rfl rfl rfl rfl (Nat.le_of_ble_eq_true rfl) dX8_shift_9 rfl (fun H locs hw => ?_) hl.1
      refine lv_astore (lv' := [(7, .ref qt1_), (6, .ref qt1_), (0, .ref q_), (1, .int x1), (2, .int x2), (3, .int x3), (4, .int x4), (5, .int x5)]) hx hb dX8_shift_12 hl (by decide) rfl (fun ls hl => ?_)
      refine lv_aload hx hb dX8_shift_14 (lv_at hl 1 rfl) ?_
      refine lv_ifnull hx hb dX8_shift_16 ?_
      refine lv_aload hx hb dX8_shift_19 (lv_at hl 0 rfl) ?_
      refine lv_ifnonnull (tgt := 26) hx hb dX8_shift_21 (by decide) ?_
      refine lv_aload hx hb dX8_shift_26 (lv_at hl 1 rfl) ?_
      obtain ⟨z4, hz4, hF⟩ := ob hF
      refine cV (wr := [(q_, .inr (8, [.ref q_now, .ref q_kept, .int u_isKept, .ref q_supposed, .ref q_rings, .ref q_netting, .ref q_text, .ref q_tapes])), (q_tapes, .inl (C 4, 6, .inr (.inr (.inr (.inr u_tapes))))), (qt1_items, .inl (C 1, 60, .inr (.inl ut1_items)))]) (w2 := [(q_, .inr (8, [.ref q_now, .ref q_kept, .int u_isKept, .ref q_supposed, .ref q_rings, .ref q_netting, .ref q_text, .ref q_tapes])), (q_tapes, .inl (C 4, 6, .inr (.inr (.inr (.inr u_tapes))))), (qt1_, .inr (6, [.int ut1_sort, .int ut1_length, .ref qt1_items])), (qt1_items, .inl (C 1, 60, .inr (.inl ut1_items)))]) (st2 := [.int z4]) cx (CX6_sort l D C qt1_ qt1_items ut1_sort ut1_length z4 hz4) lk_X8_246 my_X6_sort ml_X6_sort ⟨by decide, by decide⟩ hw [2] [0, 1, 3] [0, 1, 3, 2] rfl rfl (by decide) rfl rfl rfl rfl (Nat.le_of_ble_eq_true rfl) dX8_shift_28 rfl (fun H locs hw => ?_) hl.1
      refine lv_iconst (v := (-1)) hx hb dX8_shift_31 (by decide) ?_
      refine lv_icmp_eq (tgt := 44) hx hb dX8_shift_32 (by decide) (fun c5 => ?_) (fun c5 => ?_)
      · replace hF := oi_t c5 hF
        refine lv_bipush (v := (-11)) hx hb dX8_shift_44 (by decide) ?_
        obtain rfl := Option.some.inj hF
        exact rt_i hret hw rfl dX8_shift_46
      · replace hF := oi_f c5 hF
        refine lv_aload hx hb dX8_shift_35 (lv_at hl 0 rfl) ?_
        obtain ⟨z6, hz6, hF⟩ := ob hF
        refine cV (wr := [(q_, .inr (8, [.ref q_now, .ref q_kept, .int u_isKept, .ref q_supposed, .ref q_rings, .ref q_netting, .ref q_text, .ref q_tapes])), (q_tapes, .inl (C 4, 6, .inr (.inr (.inr (.inr u_tapes))))), (qt1_items, .inl (C 1, 60, .inr (.inl ut1_items)))]) (w2 := [(q_, .inr (8, [.ref q_now, .ref q_kept, .int u_isKept, .ref q_supposed, .ref q_rings, .ref q_netting, .ref q_text, .ref q_tapes])), (q_tapes, .inl (C 4, 6, .inr (.inr (.inr (.inr u_tapes))))), (qt1_, .inr (6, [.int ut1_sort, .int ut1_length, .ref qt1_items])), (qt1_items, .inl (C 1, 60, .inr (.inl ut1_items)))]) (st2 := [.int z6]) cx (CX6_sort l D C qt1_ qt1_items ut1_sort ut1_length z6 hz6) lk_X8_246 my_X6_sort ml_X6_sort ⟨by decide, by decide⟩ hw [2] [0, 1, 3] [0, 1, 3, 2] rfl rfl (by decide) rfl rfl rfl rfl (Nat.le_of_ble_eq_true rfl) dX8_shift_37 rfl (fun H locs hw => ?_) hl.1
        refine lv_iconst (v := (-1)) hx hb dX8_shift_40 (by decide) ?_
        refine lv_icmp_ne (tgt := 47) hx hb dX8_shift_41 (by decide) (fun c7 => ?_) (fun c7 => ?_)
        · replace hF := oi_f c7 hF
          refine lv_aload hx hb dX8_shift_47 (lv_at hl 1 rfl) ?_
          obtain ⟨z8, hz8, hF⟩ := ob hF
          refine cV (wr := [(q_, .inr (8, [.ref q_now, .ref q_kept, .int u_isKept, .ref q_supposed, .ref q_rings, .ref q_netting, .ref q_text, .ref q_tapes])), (q_tapes, .inl (C 4, 6, .inr (.inr (.inr (.inr u_tapes))))), (qt1_items, .inl (C 1, 60, .inr (.inl ut1_items)))]) (w2 := [(q_, .inr (8, [.ref q_now, .ref q_kept, .int u_isKept, .ref q_supposed, .ref q_rings, .ref q_netting, .ref q_text, .ref q_tapes])), (q_tapes, .inl (C 4, 6, .inr (.inr (.inr (.inr u_tapes))))), (qt1_, .inr (6, [.int ut1_sort, .int ut1_length, .ref qt1_items])), (qt1_items, .inl (C 1, 60, .inr (.inl ut1_items)))]) (st2 := [.int z8]) cx (CX6_sort l D C qt1_ qt1_items ut1_sort ut1_length z8 hz8) lk_X8_246 my_X6_sort ml_X6_sort ⟨by decide, by decide⟩ hw [2] [0, 1, 3] [0, 1, 3, 2] rfl rfl (by decide) rfl rfl rfl rfl (Nat.le_of_ble_eq_true rfl) dX8_shift_49 rfl (fun H locs hw => ?_) hl.1
          refine lv_aload hx hb dX8_shift_52 (lv_at hl 0 rfl) ?_
          obtain ⟨z9, hz9, hF⟩ := ob hF
          refine cV (wr := [(q_, .inr (8, [.ref q_now, .ref q_kept, .int u_isKept, .ref q_supposed, .ref q_rings, .ref q_netting, .ref q_text, .ref q_tapes])), (q_tapes, .inl (C 4, 6, .inr (.inr (.inr (.inr u_tapes))))), (qt1_items, .inl (C 1, 60, .inr (.inl ut1_items)))]) (w2 := [(q_, .inr (8, [.ref q_now, .ref q_kept, .int u_isKept, .ref q_supposed, .ref q_rings, .ref q_netting, .ref q_text, .ref q_tapes])), (q_tapes, .inl (C 4, 6, .inr (.inr (.inr (.inr u_tapes))))), (qt1_, .inr (6, [.int ut1_sort, .int ut1_length, .ref qt1_items])), (qt1_items, .inl (C 1, 60, .inr (.inl ut1_items)))]) (st2 := [.int z9, .int z8]) cx (CX6_sort l D C qt1_ qt1_items ut1_sort ut1_length z9 hz9) lk_X8_246 my_X6_sort ml_X6_sort ⟨by decide, by decide⟩ hw [2] [0, 1, 3] [0, 1, 3, 2] rfl rfl (by decide) rfl rfl rfl rfl (Nat.le_of_ble_eq_true rfl) dX8_shift_54 rfl (fun H locs hw => ?_) hl.1
          refine lv_icmp_eq (tgt := 63) hx hb dX8_shift_57 (by decide) (fun c10 => ?_) (fun c10 => ?_)
          · replace hF := oi_t c10 hF
            refine lv_aload hx hb dX8_shift_63 (lv_at hl 1 rfl) ?_
            refine lv_iload_n hx hb dX8_shift_65 rfl (lv_at hl 4 rfl) ?_
            refine lv_iload hx hb dX8_shift_66 (lv_at hl 7 rfl) ?_
            obtain ⟨z11, hz11, hF⟩ := ob hF
            refine cV (wr := [(q_, .inr (8, [.ref q_now, .ref q_kept, .int u_isKept, .ref q_supposed, .ref q_rings, .ref q_netting, .ref q_text, .ref q_tapes])), (q_tapes, .inl (C 4, 6, .inr (.inr (.inr (.inr u_tapes))))), (qt1_items, .inl (C 1, 60, .inr (.inl ut1_items)))]) (w2 := [(q_, .inr (8, [.ref q_now, .ref q_kept, .int u_isKept, .ref q_supposed, .ref q_rings, .ref q_netting, .ref q_text, .ref q_tapes])), (q_tapes, .inl (C 4, 6, .inr (.inr (.inr (.inr u_tapes))))), (qt1_, .inr (6, [.int ut1_sort, .int ut1_length, .ref qt1_items])), (qt1_items, .inl (C 1, 60, .inr (.inl ut1_items)))]) (st2 := [.int z11]) cx (CX6_hasStretch l D C qt1_ qt1_items ut1_sort ut1_length x2 x5 z11 hz11) lk_X8_270 my_X6_hasStretch ml_X6_hasStretch ⟨by decide, by decide⟩ hw [2] [0, 1, 3] [0, 1, 3, 2] rfl rfl (by decide) rfl rfl rfl rfl (Nat.le_of_ble_eq_true rfl) dX8_shift_68 rfl (fun H locs hw => ?_) hl.1
            refine lv_if_eq (tgt := 86) hx hb dX8_shift_71 (by decide) (fun c12 => ?_) (fun c12 => ?_)
            · replace hF := oi_t c12 hF
              refine lv_bipush (v := (-13)) hx hb dX8_shift_86 (by decide) ?_
              obtain rfl := Option.some.inj hF
              exact rt_i hret hw rfl dX8_shift_88
            · replace hF := oi_f c12 hF
              refine lv_aload hx hb dX8_shift_74 (lv_at hl 0 rfl) ?_
              refine lv_iload hx hb dX8_shift_76 (lv_at hl 6 rfl) ?_
              refine lv_iload hx hb dX8_shift_78 (lv_at hl 7 rfl) ?_
              obtain ⟨z13, hz13, hF⟩ := ob hF
              refine cV (wr := [(q_, .inr (8, [.ref q_now, .ref q_kept, .int u_isKept, .ref q_supposed, .ref q_rings, .ref q_netting, .ref q_text, .ref q_tapes])), (q_tapes, .inl (C 4, 6, .inr (.inr (.inr (.inr u_tapes))))), (qt1_items, .inl (C 1, 60, .inr (.inl ut1_items)))]) (w2 := [(q_, .inr (8, [.ref q_now, .ref q_kept, .int u_isKept, .ref q_supposed, .ref q_rings, .ref q_netting, .ref q_text, .ref q_tapes])), (q_tapes, .inl (C 4, 6, .inr (.inr (.inr (.inr u_tapes))))), (qt1_, .inr (6, [.int ut1_sort, .int ut1_length, .ref qt1_items])), (qt1_items, .inl (C 1, 60, .inr (.inl ut1_items)))]) (st2 := [.int z13]) cx (CX6_hasStretch l D C qt1_ qt1_items ut1_sort ut1_length x4 x5 z13 hz13) lk_X8_270 my_X6_hasStretch ml_X6_hasStretch ⟨by decide, by decide⟩ hw [2] [0, 1, 3] [0, 1, 3, 2] rfl rfl (by decide) rfl rfl rfl rfl (Nat.le_of_ble_eq_true rfl) dX8_shift_80 rfl (fun H locs hw => ?_) hl.1
              refine lv_if_ne (tgt := 89) hx hb dX8_shift_83 (by decide) (fun c14 => ?_) (fun c14 => ?_)
              · replace hF := oi_f c14 hF
                refine lv_aload hx hb dX8_shift_89 (lv_at hl 0 rfl) ?_
                refine lv_iload hx hb dX8_shift_91 (lv_at hl 6 rfl) ?_
                refine lv_aload hx hb dX8_shift_93 (lv_at hl 1 rfl) ?_
                refine lv_iload_n hx hb dX8_shift_95 rfl (lv_at hl 4 rfl) ?_
                refine lv_iload hx hb dX8_shift_96 (lv_at hl 7 rfl) ?_
                obtain ⟨z15, hz15, hF⟩ := ob hF
                refine cV (wr := [(q_, .inr (8, [.ref q_now, .ref q_kept, .int u_isKept, .ref q_supposed, .ref q_rings, .ref q_netting, .ref q_text, .ref q_tapes])), (q_tapes, .inl (C 4, 6, .inr (.inr (.inr (.inr u_tapes)))))]) (w2 := [(q_, .inr (8, [.ref q_now, .ref q_kept, .int u_isKept, .ref q_supposed, .ref q_rings, .ref q_netting, .ref q_text, .ref q_tapes])), (q_tapes, .inl (C 4, 6, .inr (.inr (.inr (.inr u_tapes))))), (qt1_, .inr (6, [.int ut1_sort, .int ut1_length, .ref qt1_items])), (qt1_items, .inl (C 1, 60, .inr (.inl z15)))]) (st2 := []) cx (CX6_takeStretch_s l D C qt1_ qt1_items ut1_sort ut1_length ut1_items x4 x2 x5 z15 hz15) lk_X8_273 my_X6_takeStretch ml_X6_takeStretch ⟨by decide, by decide⟩ hw [2, 3] [0, 1] [0, 1, 2, 3] rfl rfl (by decide) rfl rfl rfl rfl (Nat.le_of_ble_eq_true rfl) dX8_shift_98 rfl (fun H locs hw => ?_) hl.1
                refine lv_iload hx hb dX8_shift_101 (lv_at hl 7 rfl) ?_
                obtain rfl := Option.some.inj hF
                exact rt_i hret hw rfl dX8_shift_103
              · replace hF := oi_t c14 hF
                refine lv_bipush (v := (-13)) hx hb dX8_shift_86 (by decide) ?_
                obtain rfl := Option.some.inj hF
                exact rt_i hret hw rfl dX8_shift_88
          · replace hF := oi_f c10 hF
            refine lv_bipush (v := (-12)) hx hb dX8_shift_60 (by decide) ?_
            obtain rfl := Option.some.inj hF
            exact rt_i hret hw rfl dX8_shift_62
        · replace hF := oi_t c7 hF
          refine lv_bipush (v := (-11)) hx hb dX8_shift_44 (by decide) ?_
          obtain rfl := Option.some.inj hF
          exact rt_i hret hw rfl dX8_shift_46
