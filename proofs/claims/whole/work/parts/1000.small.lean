theorem dX8_isCell_0 : decode cX8_isCell 0 = .ok (.iload_n 0, 1) := by decide +kernel
theorem dX8_isCell_1 : decode cX8_isCell 1 = .ok (.ifCond .lt 23, 3) := by decide +kernel
theorem dX8_isCell_4 : decode cX8_isCell 4 = .ok (.iload_n 0, 1) := by decide +kernel
theorem dX8_isCell_5 : decode cX8_isCell 5 = .ok (.bipush 6, 2) := by decide +kernel
theorem dX8_isCell_7 : decode cX8_isCell 7 = .ok (.if_icmp .ge 17, 3) := by decide +kernel
theorem dX8_isCell_10 : decode cX8_isCell 10 = .ok (.iload_n 1, 1) := by decide +kernel
theorem dX8_isCell_11 : decode cX8_isCell 11 = .ok (.ifCond .lt 13, 3) := by decide +kernel
theorem dX8_isCell_14 : decode cX8_isCell 14 = .ok (.iload_n 1, 1) := by decide +kernel
theorem dX8_isCell_15 : decode cX8_isCell 15 = .ok (.bipush 6, 2) := by decide +kernel
theorem dX8_isCell_17 : decode cX8_isCell 17 = .ok (.if_icmp .ge 7, 3) := by decide +kernel
theorem dX8_isCell_20 : decode cX8_isCell 20 = .ok (.iconst 1, 1) := by decide +kernel
theorem dX8_isCell_21 : decode cX8_isCell 21 = .ok (.goto 4, 3) := by decide +kernel
theorem dX8_isCell_24 : decode cX8_isCell 24 = .ok (.iconst 0, 1) := by decide +kernel
theorem dX8_isCell_25 : decode cX8_isCell 25 = .ok (.ireturn, 1) := by decide +kernel
def fX8_isCell (x0 : Int32) (x1 : Int32) : Option Int32 := if x0 < 0 then (some 0) else (if 6 ≤ x0 then (some 0) else (if x1 < 0 then (some 0) else (if 6 ≤ x1 then (some 0) else (some 1))))
set_option maxRecDepth 20000 in
theorem CX8_isCell (l : Launch) (D : va_G) (C : Nat → ClassId)  (x0 : Int32) (x1 : Int32) (z : Int32) (hF : fX8_isCell x0 x1 = some z) : Ct l yX8_isCell cX8_isCell 2 (some .boolean) 1 D C [.int x0, .int x1] [] [] (some (.int z)) := by
  refine Ct_of (by decide) (Nat.le_of_ble_eq_true rfl) ?_
  intro p e R s m args below meth c A Q H locs ls cx hw hl hret
  have cx : CX p m c s args RX8 cX8_isCell 2 D C A R 1 := cx
  have hx := cx.1
  have hb := cx.2.1
  have hl : lv_has ls 2 [(0, .int x0), (1, .int x1)] := hl
  rw [fX8_isCell.eq_1] at hF
  refine lv_iload_n hx hb dX8_isCell_0 rfl (lv_at hl 0 rfl) ?_
  refine lv_if_lt (tgt := 24) hx hb dX8_isCell_1 (by decide) (fun c1 => ?_) (fun c1 => ?_)
  · replace hF := oi_t c1 hF
    refine lv_iconst (v := 0) hx hb dX8_isCell_24 (by decide) ?_
    obtain rfl := Option.some.inj hF
    exact rt_z hret hw rfl rfl dX8_isCell_25
  · replace hF := oi_f c1 hF
    refine lv_iload_n hx hb dX8_isCell_4 rfl (lv_at hl 0 rfl) ?_
    refine lv_bipush (v := 6) hx hb dX8_isCell_5 (by decide) ?_
    refine lv_icmp_ge (tgt := 24) hx hb dX8_isCell_7 (by decide) (fun c2 => ?_) (fun c2 => ?_)
    · replace hF := oi_t c2 hF
      refine lv_iconst (v := 0) hx hb dX8_isCell_24 (by decide) ?_
      obtain rfl := Option.some.inj hF
      exact rt_z hret hw rfl rfl dX8_isCell_25
    · replace hF := oi_f c2 hF
      refine lv_iload_n hx hb dX8_isCell_10 rfl (lv_at hl 1 rfl) ?_
      refine lv_if_lt (tgt := 24) hx hb dX8_isCell_11 (by decide) (fun c3 => ?_) (fun c3 => ?_)
      · replace hF := oi_t c3 hF
        refine lv_iconst (v := 0) hx hb dX8_isCell_24 (by decide) ?_
        obtain rfl := Option.some.inj hF
        exact rt_z hret hw rfl rfl dX8_isCell_25
      · replace hF := oi_f c3 hF
        refine lv_iload_n hx hb dX8_isCell_14 rfl (lv_at hl 1 rfl) ?_
        refine lv_bipush (v := 6) hx hb dX8_isCell_15 (by decide) ?_
        refine lv_icmp_ge (tgt := 24) hx hb dX8_isCell_17 (by decide) (fun c4 => ?_) (fun c4 => ?_)
        · replace hF := oi_t c4 hF
          refine lv_iconst (v := 0) hx hb dX8_isCell_24 (by decide) ?_
          obtain rfl := Option.some.inj hF
          exact rt_z hret hw rfl rfl dX8_isCell_25
        · replace hF := oi_f c4 hF
          refine lv_iconst (v := 1) hx hb dX8_isCell_20 (by decide) ?_
          refine lv_goto (tgt := 25) hx hb dX8_isCell_21 (by decide) ?_
          obtain rfl := Option.some.inj hF
          exact rt_z hret hw rfl rfl dX8_isCell_25
theorem wf_X1_9 : Cond.fieldLink RX1 9 (TX1 0).1 (TX1 0).2.1 (TX1 0).2.2.1 ∈ gdt := gdt_of 117 (by decide +kernel) (by decide +kernel)
theorem my_X8_isCell : (yX8_isCell.cls ≠ "java/lang/invoke/MethodHandle" ∧ yX8_isCell.cls ≠ "java/lang/invoke/VarHandle") ∧ Cond.static yX8_isCell ∈ gdt ∧ Cond.initialized yX8_isCell.cls ∈ gdt ∧ Cond.code yX8_isCell cX8_isCell 2 (some .boolean) ∈ gdt := ⟨⟨by decide +kernel, by decide +kernel⟩, gdt_of 309 (by decide +kernel) (by decide +kernel), gdt_of 67 (by decide +kernel) (by decide +kernel), gdt_of 310 (by decide +kernel) (by decide +kernel)⟩
theorem ml_X8_isCell : (parseMethodDescriptor yX8_isCell.desc).map (fun d => d.parameters.length) = some 2 := by decide +kernel
theorem dX1_isGiven_0 : decode cX1_isGiven 0 = .ok (.iload_n 1, 1) := by decide +kernel
theorem dX1_isGiven_1 : decode cX1_isGiven 1 = .ok (.iload_n 2, 1) := by decide +kernel
theorem dX1_isGiven_2 : decode cX1_isGiven 2 = .ok (.invokestatic 15, 3) := by decide +kernel
theorem dX1_isGiven_5 : decode cX1_isGiven 5 = .ok (.ifCond .eq 21, 3) := by decide +kernel
theorem dX1_isGiven_8 : decode cX1_isGiven 8 = .ok (.aload_n 0, 1) := by decide +kernel
theorem dX1_isGiven_9 : decode cX1_isGiven 9 = .ok (.getfield 9, 3) := by decide +kernel
theorem dX1_isGiven_12 : decode cX1_isGiven 12 = .ok (.iload_n 1, 1) := by decide +kernel
theorem dX1_isGiven_13 : decode cX1_isGiven 13 = .ok (.bipush 6, 2) := by decide +kernel
theorem dX1_isGiven_15 : decode cX1_isGiven 15 = .ok (.imul, 1) := by decide +kernel
theorem dX1_isGiven_16 : decode cX1_isGiven 16 = .ok (.iload_n 2, 1) := by decide +kernel
theorem dX1_isGiven_17 : decode cX1_isGiven 17 = .ok (.iadd, 1) := by decide +kernel
theorem dX1_isGiven_18 : decode cX1_isGiven 18 = .ok (.baload, 1) := by decide +kernel
theorem dX1_isGiven_19 : decode cX1_isGiven 19 = .ok (.ifCond .ne 7, 3) := by decide +kernel
theorem dX1_isGiven_22 : decode cX1_isGiven 22 = .ok (.iconst 1, 1) := by decide +kernel
theorem dX1_isGiven_23 : decode cX1_isGiven 23 = .ok (.goto 4, 3) := by decide +kernel
theorem dX1_isGiven_26 : decode cX1_isGiven 26 = .ok (.iconst 0, 1) := by decide +kernel
theorem dX1_isGiven_27 : decode cX1_isGiven 27 = .ok (.ireturn, 1) := by decide +kernel
def fX1_isGiven (u_refused : (Nat → Int32)) (x1 : Int32) (x2 : Int32) : Option Int32 := (fX8_isCell x1 x2).bind (fun z1 => if z1 = 0 then (some 0) else (gA ((x1 * 6) + x2) 36 (if (u_refused ((x1 * 6) + x2).toNatClampNeg) = 0 then (some 1) else (some 0))))
set_option maxRecDepth 20000 in
theorem CX1_isGiven (l : Launch) (D : va_G) (C : Nat → ClassId) (q_ q_refused : Nat) (u_refused : (Nat → Int32)) (x1 : Int32) (x2 : Int32) (z : Int32) (hF : fX1_isGiven u_refused x1 x2 = some z) : Ct l yX1_isGiven cX1_isGiven 3 (some .boolean) 2 D C [.ref q_, .int x1, .int x2] [(q_, .inr (1, [.ref q_refused])), (q_refused, .inl (C 2, 36, .inl u_refused))] [(q_, .inr (1, [.ref q_refused])), (q_refused, .inl (C 2, 36, .inl u_refused))] (some (.int z)) := by
  refine Ct_of (by decide) (Nat.le_of_ble_eq_true rfl) ?_
  intro p e R s m args below meth c A Q H locs ls cx hw hl hret
  have cx : CX p m c s args RX1 cX1_isGiven 3 D C A R 2 := cx
  have hx := cx.1
  have hb := cx.2.1
  have hl : lv_has ls 3 [(0, .ref q_), (1, .int x1), (2, .int x2)] := hl
  rw [fX1_isGiven.eq_1] at hF
  refine lv_iload_n hx hb dX1_isGiven_0 rfl (lv_at hl 1 rfl) ?_
  refine lv_iload_n hx hb dX1_isGiven_1 rfl (lv_at hl 2 rfl) ?_
  obtain ⟨z1, hz1, hF⟩ := ob hF
  refine cN (wr := [(q_, .inr (1, [.ref q_refused])), (q_refused, .inl (C 2, 36, .inl u_refused))]) (w2 := [(q_, .inr (1, [.ref q_refused])), (q_refused, .inl (C 2, 36, .inl u_refused))]) (st2 := [.int z1]) cx (CX8_isCell l D C x1 x2 z1 hz1) cx.2.2.2.2.2.1.2.1 my_X8_isCell ml_X8_isCell ⟨by decide, by decide⟩ hw [] [0, 1] [0, 1] rfl rfl (by decide) rfl rfl (Nat.le_of_ble_eq_true rfl) dX1_isGiven_2 rfl (fun H locs hw => ?_) hl.1
  refine lv_if_eq (tgt := 26) hx hb dX1_isGiven_5 (by decide) (fun c2 => ?_) (fun c2 => ?_)
  · replace hF := oi_t c2 hF
    refine lv_iconst (v := 0) hx hb dX1_isGiven_26 (by decide) ?_
    obtain rfl := Option.some.inj hF
    exact rt_z hret hw rfl rfl dX1_isGiven_27
  · replace hF := oi_f c2 hF
    refine lv_aload_n hx hb dX1_isGiven_8 rfl (lv_at hl 0 rfl) ?_
    refine r_get (ci := 1) (v := .ref q_refused) cx hw iX1 0 0 rfl rfl (by decide) wf_X1_9 rfl dX1_isGiven_9 ?_
    refine lv_iload_n hx hb dX1_isGiven_12 rfl (lv_at hl 1 rfl) ?_
    refine lv_bipush (v := 6) hx hb dX1_isGiven_13 (by decide) ?_
    refine lv_imul hx hb dX1_isGiven_15 ?_
    refine lv_iload_n hx hb dX1_isGiven_16 rfl (lv_at hl 2 rfl) ?_
    refine lv_iadd hx hb dX1_isGiven_17 ?_
    obtain ⟨g3, hF⟩ := gA_s hF
    refine r_zald cx hw 1 rfl g3 dX1_isGiven_18 ?_
    refine lv_if_ne (tgt := 26) hx hb dX1_isGiven_19 (by decide) (fun c4 => ?_) (fun c4 => ?_)
    · replace hF := oi_f c4 hF
      refine lv_iconst (v := 0) hx hb dX1_isGiven_26 (by decide) ?_
      obtain rfl := Option.some.inj hF
      exact rt_z hret hw rfl rfl dX1_isGiven_27
    · replace hF := oi_t c4 hF
      refine lv_iconst (v := 1) hx hb dX1_isGiven_22 (by decide) ?_
      refine lv_goto (tgt := 27) hx hb dX1_isGiven_23 (by decide) ?_
      obtain rfl := Option.some.inj hF
      exact rt_z hret hw rfl rfl dX1_isGiven_27
theorem dX1_put_0 : decode cX1_put 0 = .ok (.iload_n 1, 1) := by decide +kernel
theorem dX1_put_1 : decode cX1_put 1 = .ok (.iload_n 2, 1) := by decide +kernel
theorem dX1_put_2 : decode cX1_put 2 = .ok (.invokestatic 15, 3) := by decide +kernel
theorem dX1_put_5 : decode cX1_put 5 = .ok (.ifCond .eq 23, 3) := by decide +kernel
theorem dX1_put_8 : decode cX1_put 8 = .ok (.aload_n 0, 1) := by decide +kernel
theorem dX1_put_9 : decode cX1_put 9 = .ok (.getfield 9, 3) := by decide +kernel
theorem dX1_put_12 : decode cX1_put 12 = .ok (.iload_n 1, 1) := by decide +kernel
theorem dX1_put_13 : decode cX1_put 13 = .ok (.bipush 6, 2) := by decide +kernel
theorem dX1_put_15 : decode cX1_put 15 = .ok (.imul, 1) := by decide +kernel
theorem dX1_put_16 : decode cX1_put 16 = .ok (.iload_n 2, 1) := by decide +kernel
theorem dX1_put_17 : decode cX1_put 17 = .ok (.iadd, 1) := by decide +kernel
theorem dX1_put_18 : decode cX1_put 18 = .ok (.iload_n 3, 1) := by decide +kernel
theorem dX1_put_19 : decode cX1_put 19 = .ok (.ifCond .ne 7, 3) := by decide +kernel
theorem dX1_put_22 : decode cX1_put 22 = .ok (.iconst 1, 1) := by decide +kernel
theorem dX1_put_23 : decode cX1_put 23 = .ok (.goto 4, 3) := by decide +kernel
theorem dX1_put_26 : decode cX1_put 26 = .ok (.iconst 0, 1) := by decide +kernel
theorem dX1_put_27 : decode cX1_put 27 = .ok (.bastore, 1) := by decide +kernel
theorem dX1_put_28 : decode cX1_put 28 = .ok (.return_, 1) := by decide +kernel
def fX1_put (u_refused : (Nat → Int32)) (x1 : Int32) (x2 : Int32) (x3 : Int32) : Option (Nat → Int32) := (fX8_isCell x1 x2).bind (fun z1 => if z1 = 0 then (some u_refused) else (if x3 = 0 then (gA ((x1 * 6) + x2) 36 (some (upd u_refused ((x1 * 6) + x2 : Int32).toNatClampNeg (vp_nar .boolean 1)))) else (gA ((x1 * 6) + x2) 36 (some (upd u_refused ((x1 * 6) + x2 : Int32).toNatClampNeg (vp_nar .boolean 0))))))
set_option maxRecDepth 20000 in
theorem CX1_put (l : Launch) (D : va_G) (C : Nat → ClassId) (q_ q_refused : Nat) (u_refused : (Nat → Int32)) (x1 : Int32) (x2 : Int32) (x3 : Int32) (z : (Nat → Int32)) (hF : fX1_put u_refused x1 x2 x3 = some z) : Ct l yX1_put cX1_put 4 none 2 D C [.ref q_, .int x1, .int x2, .int x3] [(q_, .inr (1, [.ref q_refused])), (q_refused, .inl (C 2, 36, .inl u_refused))] [(q_, .inr (1, [.ref q_refused])), (q_refused, .inl (C 2, 36, .inl z))] none := by
  refine Ct_of (by decide) (Nat.le_of_ble_eq_true rfl) ?_
  intro p e R s m args below meth c A Q H locs ls cx hw hl hret
  have cx : CX p m c s args RX1 cX1_put 4 D C A R 2 := cx
  have hx := cx.1
  have hb := cx.2.1
  have hl : lv_has ls 4 [(0, .ref q_), (1, .int x1), (2, .int x2), (3, .int x3)] := hl
  rw [fX1_put.eq_1] at hF
  refine lv_iload_n hx hb dX1_put_0 rfl (lv_at hl 1 rfl) ?_
  refine lv_iload_n hx hb dX1_put_1 rfl (lv_at hl 2 rfl) ?_
  obtain ⟨z1, hz1, hF⟩ := ob hF
  refine cN (wr := [(q_, .inr (1, [.ref q_refused])), (q_refused, .inl (C 2, 36, .inl u_refused))]) (w2 := [(q_, .inr (1, [.ref q_refused])), (q_refused, .inl (C 2, 36, .inl u_refused))]) (st2 := [.int z1]) cx (CX8_isCell l D C x1 x2 z1 hz1) cx.2.2.2.2.2.1.2.1 my_X8_isCell ml_X8_isCell ⟨by decide, by decide⟩ hw [] [0, 1] [0, 1] rfl rfl (by decide) rfl rfl (Nat.le_of_ble_eq_true rfl) dX1_put_2 rfl (fun H locs hw => ?_) hl.1
  refine lv_if_eq (tgt := 28) hx hb dX1_put_5 (by decide) (fun c2 => ?_) (fun c2 => ?_)
  · replace hF := oi_t c2 hF
    obtain rfl := Option.some.inj hF
    exact rt_v hret hw rfl dX1_put_28
  · replace hF := oi_f c2 hF
    refine lv_aload_n hx hb dX1_put_8 rfl (lv_at hl 0 rfl) ?_
    refine r_get (ci := 1) (v := .ref q_refused) cx hw iX1 0 0 rfl rfl (by decide) wf_X1_9 rfl dX1_put_9 ?_
    refine lv_iload_n hx hb dX1_put_12 rfl (lv_at hl 1 rfl) ?_
    refine lv_bipush (v := 6) hx hb dX1_put_13 (by decide) ?_
    refine lv_imul hx hb dX1_put_15 ?_
    refine lv_iload_n hx hb dX1_put_16 rfl (lv_at hl 2 rfl) ?_
    refine lv_iadd hx hb dX1_put_17 ?_
    refine lv_iload_n hx hb dX1_put_18 rfl (lv_at hl 3 rfl) ?_
    refine lv_if_ne (tgt := 26) hx hb dX1_put_19 (by decide) (fun c3 => ?_) (fun c3 => ?_)
    · replace hF := oi_f c3 hF
      refine lv_iconst (v := 0) hx hb dX1_put_26 (by decide) ?_
      obtain ⟨g4, hF⟩ := gA_s hF
      refine r_zast (w2 := [(q_, .inr (1, [.ref q_refused])), (q_refused, .inl (C 2, 36, .inl (upd u_refused ((x1 * 6) + x2 : Int32).toNatClampNeg (vp_nar .boolean 0))))]) cx hw 1 rfl g4 dX1_put_27 rfl (fun H locs hw => ?_)
      obtain rfl := Option.some.inj hF
      exact rt_v hret hw rfl dX1_put_28
    · replace hF := oi_t c3 hF
      refine lv_iconst (v := 1) hx hb dX1_put_22 (by decide) ?_
      refine lv_goto (tgt := 27) hx hb dX1_put_23 (by decide) ?_
      obtain ⟨g5, hF⟩ := gA_s hF
      refine r_zast (w2 := [(q_, .inr (1, [.ref q_refused])), (q_refused, .inl (C 2, 36, .inl (upd u_refused ((x1 * 6) + x2 : Int32).toNatClampNeg (vp_nar .boolean 1))))]) cx hw 1 rfl g5 dX1_put_27 rfl (fun H locs hw => ?_)
      obtain rfl := Option.some.inj hF
      exact rt_v hret hw rfl dX1_put_28
theorem dX1_take_0 : decode cX1_take 0 = .ok (.iconst 0, 1) := by decide +kernel
theorem dX1_take_1 : decode cX1_take 1 = .ok (.istore_n 2, 1) := by decide +kernel
theorem dX1_take_2 : decode cX1_take 2 = .ok (.iload_n 2, 1) := by decide +kernel
theorem dX1_take_3 : decode cX1_take 3 = .ok (.bipush 36, 2) := by decide +kernel
theorem dX1_take_5 : decode cX1_take 5 = .ok (.if_icmp .ge 21, 3) := by decide +kernel
theorem dX1_take_8 : decode cX1_take 8 = .ok (.aload_n 0, 1) := by decide +kernel
theorem dX1_take_9 : decode cX1_take 9 = .ok (.getfield 9, 3) := by decide +kernel
theorem dX1_take_12 : decode cX1_take 12 = .ok (.iload_n 2, 1) := by decide +kernel
theorem dX1_take_13 : decode cX1_take 13 = .ok (.aload_n 1, 1) := by decide +kernel
theorem dX1_take_14 : decode cX1_take 14 = .ok (.getfield 9, 3) := by decide +kernel
theorem dX1_take_17 : decode cX1_take 17 = .ok (.iload_n 2, 1) := by decide +kernel
theorem dX1_take_18 : decode cX1_take 18 = .ok (.baload, 1) := by decide +kernel
theorem dX1_take_19 : decode cX1_take 19 = .ok (.bastore, 1) := by decide +kernel
theorem dX1_take_20 : decode cX1_take 20 = .ok (.iinc 2 1, 3) := by decide +kernel
theorem dX1_take_23 : decode cX1_take 23 = .ok (.goto (-21), 3) := by decide +kernel
theorem dX1_take_26 : decode cX1_take 26 = .ok (.return_, 1) := by decide +kernel
def fX1_take_L2 (ua1_refused : (Nat → Int32)) : Nat → Int32 → (Nat → Int32) → Option (Nat → Int32)
  | 0, _, _ => none
  | n + 1, x2, u_refused => if 36 ≤ x2 then (some u_refused) else (gA x2 36 (gA x2 36 (fX1_take_L2 ua1_refused n (x2 + 1) (upd u_refused (x2 : Int32).toNatClampNeg (vp_nar .boolean (ua1_refused (x2).toNatClampNeg))))))
def fX1_take (u_refused : (Nat → Int32)) (ua1_refused : (Nat → Int32)) : Option (Nat → Int32) := fX1_take_L2 ua1_refused 400 0 u_refused
set_option maxRecDepth 20000 in
theorem LX1_take_2 {p : Program} {l : Launch} {e : Env} {R : Room} {s : State} {m : MethodId} {args : Array Value} {below : List Frame} {meth : Method} {c : Code} {Q : State → Prop} {D : va_G} {C : Nat → ClassId} {A : Nat → Prop} (cx : CX p m c s args RX1 cX1_take 3 D C A R 1) {q_ q_refused qa1_ qa1_refused : Nat} {ua1_refused : (Nat → Int32)} {z : (Nat → Int32)} (hret : RT p l e R s m args below meth c Q D A cX1_take none [(q_, .inr (1, [.ref q_refused])), (q_refused, .inl (C 2, 36, .inl z)), (qa1_, .inr (1, [.ref qa1_refused])), (qa1_refused, .inl (C 2, 36, .inl ua1_refused))] none) :
    ∀ (n : Nat) (x2 : Int32) (u_refused : (Nat → Int32)) (H : Heap) (locs : List Loc) (ls : Array Slot), fX1_take_L2 ua1_refused n x2 u_refused = some z → HW D A s.heap H locs [(q_, .inr (1, [.ref q_refused])), (q_refused, .inl (C 2, 36, .inl u_refused)), (qa1_, .inr (1, [.ref qa1_refused])), (qa1_refused, .inl (C 2, 36, .inl ua1_refused))] → lv_has ls 3 [(0, .ref q_), (1, .ref qa1_), (2, .int x2)] → W p l e R s m args below meth c H locs 0 0 Q (F0 m 2 ls []) := by
  have hx := cx.1
  have hb := cx.2.1
  intro n
  induction n with
  | zero => intro x2 u_refused H locs ls hF; cases hF
  | succ n ih =>
    intro x2 u_refused H locs ls hF hw hl
    rw [fX1_take_L2.eq_2] at hF
    refine lv_iload_n hx hb dX1_take_2 rfl (lv_at hl 2 rfl) ?_
    refine lv_bipush (v := 36) hx hb dX1_take_3 (by decide) ?_
    refine lv_icmp_ge (tgt := 26) hx hb dX1_take_5 (by decide) (fun c1 => ?_) (fun c1 => ?_)
    · replace hF := oi_t c1 hF
      obtain rfl := Option.some.inj hF
      exact rt_v hret hw rfl dX1_take_26
    · replace hF := oi_f c1 hF
      refine lv_aload_n hx hb dX1_take_8 rfl (lv_at hl 0 rfl) ?_
      refine r_get (ci := 1) (v := .ref q_refused) cx hw iX1 0 0 rfl rfl (by decide) wf_X1_9 rfl dX1_take_9 ?_
      refine lv_iload_n hx hb dX1_take_12 rfl (lv_at hl 2 rfl) ?_
      refine lv_aload_n hx hb dX1_take_13 rfl (lv_at hl 1 rfl) ?_
      refine r_get (ci := 1) (v := .ref qa1_refused) cx hw iX1 2 0 rfl rfl (by decide) wf_X1_9 rfl dX1_take_14 ?_
      refine lv_iload_n hx hb dX1_take_17 rfl (lv_at hl 2 rfl) ?_
      obtain ⟨g2, hF⟩ := gA_s hF
      refine r_zald cx hw 3 rfl g2 dX1_take_18 ?_
      obtain ⟨g3, hF⟩ := gA_s hF
      refine r_zast (w2 := [(q_, .inr (1, [.ref q_refused])), (q_refused, .inl (C 2, 36, .inl (upd u_refused (x2 : Int32).toNatClampNeg (vp_nar .boolean (ua1_refused (x2).toNatClampNeg))))), (qa1_, .inr (1, [.ref qa1_refused])), (qa1_refused, .inl (C 2, 36, .inl ua1_refused))]) cx hw 1 rfl g3 dX1_take_19 rfl (fun H locs hw => ?_)
      refine lv_iinc (v := x2 + 1) (lv' := [(2, .int (x2 + 1)), (0, .ref q_), (1, .ref qa1_)]) hx hb dX1_take_20 hl (k := 2) rfl rfl (by decide) rfl (fun ls hl => ?_)
      refine lv_goto (tgt := 2) hx hb dX1_take_23 (by decide) ?_
      exact ih (x2 + 1) (upd u_refused (x2 : Int32).toNatClampNeg (vp_nar .boolean (ua1_refused (x2).toNatClampNeg))) H locs ls hF hw (lv_sub hl [1, 2, 0] rfl)
set_option maxRecDepth 20000 in
theorem CX1_take (l : Launch) (D : va_G) (C : Nat → ClassId) (q_ q_refused qa1_ qa1_refused : Nat) (u_refused : (Nat → Int32)) (ua1_refused : (Nat → Int32)) (z : (Nat → Int32)) (hF : fX1_take u_refused ua1_refused = some z) : Ct l yX1_take cX1_take 3 none 1 D C [.ref q_, .ref qa1_] [(q_, .inr (1, [.ref q_refused])), (q_refused, .inl (C 2, 36, .inl u_refused)), (qa1_, .inr (1, [.ref qa1_refused])), (qa1_refused, .inl (C 2, 36, .inl ua1_refused))] [(q_, .inr (1, [.ref q_refused])), (q_refused, .inl (C 2, 36, .inl z)), (qa1_, .inr (1, [.ref qa1_refused])), (qa1_refused, .inl (C 2, 36, .inl ua1_refused))] none := by
  refine Ct_of (by decide) (Nat.le_of_ble_eq_true rfl) ?_
  intro p e R s m args below meth c A Q H locs ls cx hw hl hret
  have cx : CX p m c s args RX1 cX1_take 3 D C A R 1 := cx
  have hx := cx.1
  have hb := cx.2.1
  have hl : lv_has ls 3 [(0, .ref q_), (1, .ref qa1_)] := hl
  rw [fX1_take.eq_1] at hF
  refine lv_iconst (v := 0) hx hb dX1_take_0 (by decide) ?_
  refine lv_istore_n (lv' := [(2, .int 0), (0, .ref q_), (1, .ref qa1_)]) hx hb dX1_take_1 rfl hl (by decide) rfl (fun ls hl => ?_)
  refine LX1_take_2 cx hret 400 0 u_refused H locs ls hF hw (lv_sub hl [1, 2, 0] rfl)
theorem wf_X2_18 : Cond.fieldLink RX2 18 (TX2 2).1 (TX2 2).2.1 (TX2 2).2.2.1 ∈ gdt := gdt_of 102 (by decide +kernel) (by decide +kernel)
theorem dX2_size_0 : decode cX2_size 0 = .ok (.aload_n 0, 1) := by decide +kernel
theorem dX2_size_1 : decode cX2_size 1 = .ok (.getfield 18, 3) := by decide +kernel
theorem dX2_size_4 : decode cX2_size 4 = .ok (.ireturn, 1) := by decide +kernel
def fX2_size (u_size : Int32) : Option Int32 := some u_size
set_option maxRecDepth 20000 in
theorem CX2_size (l : Launch) (D : va_G) (C : Nat → ClassId) (q_ q_owed q_order : Nat) (u_size : Int32) (z : Int32) (hF : fX2_size u_size = some z) : Ct l yX2_size cX2_size 1 (some .int) 1 D C [.ref q_] [(q_, .inr (2, [.ref q_owed, .ref q_order, .int u_size]))] [(q_, .inr (2, [.ref q_owed, .ref q_order, .int u_size]))] (some (.int z)) := by
  refine Ct_of (by decide) (Nat.le_of_ble_eq_true rfl) ?_
  intro p e R s m args below meth c A Q H locs ls cx hw hl hret
  have cx : CX p m c s args RX2 cX2_size 1 D C A R 1 := cx
  have hx := cx.1
  have hb := cx.2.1
  have hl : lv_has ls 1 [(0, .ref q_)] := hl
  rw [fX2_size.eq_1] at hF
  refine lv_aload_n hx hb dX2_size_0 rfl (lv_at hl 0 rfl) ?_
  refine r_get (ci := 2) (v := .int u_size) cx hw iX2 0 2 rfl rfl (by decide) wf_X2_18 rfl dX2_size_1 ?_
  obtain rfl := Option.some.inj hF
  exact rt_i hret hw rfl dX2_size_4
theorem wf_X2_9 : Cond.fieldLink RX2 9 (TX2 0).1 (TX2 0).2.1 (TX2 0).2.2.1 ∈ gdt := gdt_of 100 (by decide +kernel) (by decide +kernel)
theorem dX2_amount_0 : decode cX2_amount 0 = .ok (.iload_n 1, 1) := by decide +kernel
theorem dX2_amount_1 : decode cX2_amount 1 = .ok (.iload_n 2, 1) := by decide +kernel
theorem dX2_amount_2 : decode cX2_amount 2 = .ok (.invokestatic 22, 3) := by decide +kernel
theorem dX2_amount_5 : decode cX2_amount 5 = .ok (.ifCond .eq 17, 3) := by decide +kernel
theorem dX2_amount_8 : decode cX2_amount 8 = .ok (.aload_n 0, 1) := by decide +kernel
theorem dX2_amount_9 : decode cX2_amount 9 = .ok (.getfield 9, 3) := by decide +kernel
theorem dX2_amount_12 : decode cX2_amount 12 = .ok (.iload_n 1, 1) := by decide +kernel
theorem dX2_amount_13 : decode cX2_amount 13 = .ok (.bipush 6, 2) := by decide +kernel
theorem dX2_amount_15 : decode cX2_amount 15 = .ok (.imul, 1) := by decide +kernel
theorem dX2_amount_16 : decode cX2_amount 16 = .ok (.iload_n 2, 1) := by decide +kernel
theorem dX2_amount_17 : decode cX2_amount 17 = .ok (.iadd, 1) := by decide +kernel
theorem dX2_amount_18 : decode cX2_amount 18 = .ok (.iaload, 1) := by decide +kernel
theorem dX2_amount_19 : decode cX2_amount 19 = .ok (.goto 4, 3) := by decide +kernel
theorem dX2_amount_22 : decode cX2_amount 22 = .ok (.iconst 0, 1) := by decide +kernel
theorem dX2_amount_23 : decode cX2_amount 23 = .ok (.ireturn, 1) := by decide +kernel
def fX2_amount (u_owed : (Nat → Int32)) (x1 : Int32) (x2 : Int32) : Option Int32 := (fX8_isCell x1 x2).bind (fun z1 => if z1 = 0 then (some 0) else (gA ((x1 * 6) + x2) 36 (some (u_owed ((x1 * 6) + x2).toNatClampNeg))))
set_option maxRecDepth 20000 in
theorem CX2_amount (l : Launch) (D : va_G) (C : Nat → ClassId) (q_ q_owed q_order : Nat) (u_size : Int32) (u_owed : (Nat → Int32)) (x1 : Int32) (x2 : Int32) (z : Int32) (hF : fX2_amount u_owed x1 x2 = some z) : Ct l yX2_amount cX2_amount 3 (some .int) 2 D C [.ref q_, .int x1, .int x2] [(q_, .inr (2, [.ref q_owed, .ref q_order, .int u_size])), (q_owed, .inl (C 0, 36, .inl u_owed))] [(q_, .inr (2, [.ref q_owed, .ref q_order, .int u_size])), (q_owed, .inl (C 0, 36, .inl u_owed))] (some (.int z)) := by
  refine Ct_of (by decide) (Nat.le_of_ble_eq_true rfl) ?_
  intro p e R s m args below meth c A Q H locs ls cx hw hl hret
  have cx : CX p m c s args RX2 cX2_amount 3 D C A R 2 := cx
  have hx := cx.1
  have hb := cx.2.1
  have hl : lv_has ls 3 [(0, .ref q_), (1, .int x1), (2, .int x2)] := hl
  rw [fX2_amount.eq_1] at hF
  refine lv_iload_n hx hb dX2_amount_0 rfl (lv_at hl 1 rfl) ?_
  refine lv_iload_n hx hb dX2_amount_1 rfl (lv_at hl 2 rfl) ?_
  obtain ⟨z1, hz1, hF⟩ := ob hF
  refine cN (wr := [(q_, .inr (2, [.ref q_owed, .ref q_order, .int u_size])), (q_owed, .inl (C 0, 36, .inl u_owed))]) (w2 := [(q_, .inr (2, [.ref q_owed, .ref q_order, .int u_size])), (q_owed, .inl (C 0, 36, .inl u_owed))]) (st2 := [.int z1]) cx (CX8_isCell l D C x1 x2 z1 hz1) cx.2.2.2.2.2.1.2.2.1 my_X8_isCell ml_X8_isCell ⟨by decide, by decide⟩ hw [] [0, 1] [0, 1] rfl rfl (by decide) rfl rfl (Nat.le_of_ble_eq_true rfl) dX2_amount_2 rfl (fun H locs hw => ?_) hl.1
  refine lv_if_eq (tgt := 22) hx hb dX2_amount_5 (by decide) (fun c2 => ?_) (fun c2 => ?_)
  · replace hF := oi_t c2 hF
    refine lv_iconst (v := 0) hx hb dX2_amount_22 (by decide) ?_
    obtain rfl := Option.some.inj hF
    exact rt_i hret hw rfl dX2_amount_23
  · replace hF := oi_f c2 hF
    refine lv_aload_n hx hb dX2_amount_8 rfl (lv_at hl 0 rfl) ?_
    refine r_get (ci := 2) (v := .ref q_owed) cx hw iX2 0 0 rfl rfl (by decide) wf_X2_9 rfl dX2_amount_9 ?_
    refine lv_iload_n hx hb dX2_amount_12 rfl (lv_at hl 1 rfl) ?_
    refine lv_bipush (v := 6) hx hb dX2_amount_13 (by decide) ?_
    refine lv_imul hx hb dX2_amount_15 ?_
    refine lv_iload_n hx hb dX2_amount_16 rfl (lv_at hl 2 rfl) ?_
    refine lv_iadd hx hb dX2_amount_17 ?_
    obtain ⟨g3, hF⟩ := gA_s hF
    refine r_iald cx hw 1 rfl g3 dX2_amount_18 ?_
    refine lv_goto (tgt := 23) hx hb dX2_amount_19 (by decide) ?_
    obtain rfl := Option.some.inj hF
    exact rt_i hret hw rfl dX2_amount_23
theorem wf_X2_15 : Cond.fieldLink RX2 15 (TX2 1).1 (TX2 1).2.1 (TX2 1).2.2.1 ∈ gdt := gdt_of 101 (by decide +kernel) (by decide +kernel)
theorem dX2_append_0 : decode cX2_append 0 = .ok (.aload_n 0, 1) := by decide +kernel
theorem dX2_append_1 : decode cX2_append 1 = .ok (.getfield 18, 3) := by decide +kernel
theorem dX2_append_4 : decode cX2_append 4 = .ok (.bipush 36, 2) := by decide +kernel
theorem dX2_append_6 : decode cX2_append 6 = .ok (.if_icmp .ge 23, 3) := by decide +kernel
theorem dX2_append_9 : decode cX2_append 9 = .ok (.aload_n 0, 1) := by decide +kernel
theorem dX2_append_10 : decode cX2_append 10 = .ok (.getfield 15, 3) := by decide +kernel
theorem dX2_append_13 : decode cX2_append 13 = .ok (.aload_n 0, 1) := by decide +kernel
theorem dX2_append_14 : decode cX2_append 14 = .ok (.getfield 18, 3) := by decide +kernel
theorem dX2_append_17 : decode cX2_append 17 = .ok (.iload_n 1, 1) := by decide +kernel
theorem dX2_append_18 : decode cX2_append 18 = .ok (.iastore, 1) := by decide +kernel
theorem dX2_append_19 : decode cX2_append 19 = .ok (.aload_n 0, 1) := by decide +kernel
theorem dX2_append_20 : decode cX2_append 20 = .ok (.dup, 1) := by decide +kernel
theorem dX2_append_21 : decode cX2_append 21 = .ok (.getfield 18, 3) := by decide +kernel
theorem dX2_append_24 : decode cX2_append 24 = .ok (.iconst 1, 1) := by decide +kernel
theorem dX2_append_25 : decode cX2_append 25 = .ok (.iadd, 1) := by decide +kernel
theorem dX2_append_26 : decode cX2_append 26 = .ok (.putfield 18, 3) := by decide +kernel
theorem dX2_append_29 : decode cX2_append 29 = .ok (.return_, 1) := by decide +kernel
def fX2_append (u_size : Int32) (u_order : (Nat → Int32)) (x1 : Int32) : Option (Int32 × (Nat → Int32)) := if 36 ≤ u_size then (some (u_size, u_order)) else (gA u_size 36 (some (u_size + 1, upd u_order (u_size : Int32).toNatClampNeg x1)))
set_option maxRecDepth 20000 in
theorem CX2_append (l : Launch) (D : va_G) (C : Nat → ClassId) (q_ q_owed q_order : Nat) (u_size : Int32) (u_order : (Nat → Int32)) (x1 : Int32) (z : (Int32 × (Nat → Int32))) (hF : fX2_append u_size u_order x1 = some z) : Ct l yX2_append cX2_append 2 none 1 D C [.ref q_, .int x1] [(q_, .inr (2, [.ref q_owed, .ref q_order, .int u_size])), (q_order, .inl (C 0, 36, .inl u_order))] [(q_, .inr (2, [.ref q_owed, .ref q_order, .int z.1])), (q_order, .inl (C 0, 36, .inl z.2))] none := by
  refine Ct_of (by decide) (Nat.le_of_ble_eq_true rfl) ?_
  intro p e R s m args below meth c A Q H locs ls cx hw hl hret
  have cx : CX p m c s args RX2 cX2_append 2 D C A R 1 := cx
  have hx := cx.1
  have hb := cx.2.1
  have hl : lv_has ls 2 [(0, .ref q_), (1, .int x1)] := hl
  rw [fX2_append.eq_1] at hF
  refine lv_aload_n hx hb dX2_append_0 rfl (lv_at hl 0 rfl) ?_
  refine r_get (ci := 2) (v := .int u_size) cx hw iX2 0 2 rfl rfl (by decide) wf_X2_18 rfl dX2_append_1 ?_
  refine lv_bipush (v := 36) hx hb dX2_append_4 (by decide) ?_
  refine lv_icmp_ge (tgt := 29) hx hb dX2_append_6 (by decide) (fun c1 => ?_) (fun c1 => ?_)
  · replace hF := oi_t c1 hF
    obtain rfl := Option.some.inj hF
    exact rt_v hret hw rfl dX2_append_29
  · replace hF := oi_f c1 hF
    refine lv_aload_n hx hb dX2_append_9 rfl (lv_at hl 0 rfl) ?_
    refine r_get (ci := 2) (v := .ref q_order) cx hw iX2 0 1 rfl rfl (by decide) wf_X2_15 rfl dX2_append_10 ?_
    refine lv_aload_n hx hb dX2_append_13 rfl (lv_at hl 0 rfl) ?_
    refine r_get (ci := 2) (v := .int u_size) cx hw iX2 0 2 rfl rfl (by decide) wf_X2_18 rfl dX2_append_14 ?_
    refine lv_iload_n hx hb dX2_append_17 rfl (lv_at hl 1 rfl) ?_
    obtain ⟨g2, hF⟩ := gA_s hF
    refine r_iast (w2 := [(q_, .inr (2, [.ref q_owed, .ref q_order, .int u_size])), (q_order, .inl (C 0, 36, .inl (upd u_order (u_size : Int32).toNatClampNeg x1)))]) cx hw 1 rfl g2 dX2_append_18 rfl (fun H locs hw => ?_)
    refine lv_aload_n hx hb dX2_append_19 rfl (lv_at hl 0 rfl) ?_
    refine lv_dup hx hb dX2_append_20 rfl ?_
    refine r_get (ci := 2) (v := .int u_size) cx hw iX2 0 2 rfl rfl (by decide) wf_X2_18 rfl dX2_append_21 ?_
    refine lv_iconst (v := 1) hx hb dX2_append_24 (by decide) ?_
    refine lv_iadd hx hb dX2_append_25 ?_
    refine r_put (ci := 2) (w2 := [(q_, .inr (2, [.ref q_owed, .ref q_order, .int (u_size + 1)])), (q_order, .inl (C 0, 36, .inl (upd u_order (u_size : Int32).toNatClampNeg x1)))]) cx hw iX2 tyX2_ok nmX2 0 2 rfl rfl (by decide) wf_X2_18 rfl rfl rfl rfl (Nat.le_of_ble_eq_true rfl) dX2_append_26 rfl (fun H locs hw => ?_)
    obtain rfl := Option.some.inj hF
    exact rt_v hret hw rfl dX2_append_29
theorem dX2_drop_0 : decode cX2_drop 0 = .ok (.iconst 0, 1) := by decide +kernel
theorem dX2_drop_1 : decode cX2_drop 1 = .ok (.istore_n 2, 1) := by decide +kernel
theorem dX2_drop_2 : decode cX2_drop 2 = .ok (.iconst 0, 1) := by decide +kernel
theorem dX2_drop_3 : decode cX2_drop 3 = .ok (.istore_n 3, 1) := by decide +kernel
theorem dX2_drop_4 : decode cX2_drop 4 = .ok (.iload_n 3, 1) := by decide +kernel
theorem dX2_drop_5 : decode cX2_drop 5 = .ok (.aload_n 0, 1) := by decide +kernel
theorem dX2_drop_6 : decode cX2_drop 6 = .ok (.getfield 18, 3) := by decide +kernel
theorem dX2_drop_9 : decode cX2_drop 9 = .ok (.if_icmp .ge 40, 3) := by decide +kernel
theorem dX2_drop_12 : decode cX2_drop 12 = .ok (.iload_n 3, 1) := by decide +kernel
theorem dX2_drop_13 : decode cX2_drop 13 = .ok (.bipush 36, 2) := by decide +kernel
theorem dX2_drop_15 : decode cX2_drop 15 = .ok (.if_icmp .ge 34, 3) := by decide +kernel
theorem dX2_drop_18 : decode cX2_drop 18 = .ok (.aload_n 0, 1) := by decide +kernel
theorem dX2_drop_19 : decode cX2_drop 19 = .ok (.getfield 15, 3) := by decide +kernel
theorem dX2_drop_22 : decode cX2_drop 22 = .ok (.iload_n 3, 1) := by decide +kernel
theorem dX2_drop_23 : decode cX2_drop 23 = .ok (.iaload, 1) := by decide +kernel
theorem dX2_drop_24 : decode cX2_drop 24 = .ok (.iload_n 1, 1) := by decide +kernel
theorem dX2_drop_25 : decode cX2_drop 25 = .ok (.if_icmp .eq 18, 3) := by decide +kernel
theorem dX2_drop_28 : decode cX2_drop 28 = .ok (.aload_n 0, 1) := by decide +kernel
theorem dX2_drop_29 : decode cX2_drop 29 = .ok (.getfield 15, 3) := by decide +kernel
theorem dX2_drop_32 : decode cX2_drop 32 = .ok (.iload_n 2, 1) := by decide +kernel
theorem dX2_drop_33 : decode cX2_drop 33 = .ok (.aload_n 0, 1) := by decide +kernel
theorem dX2_drop_34 : decode cX2_drop 34 = .ok (.getfield 15, 3) := by decide +kernel
theorem dX2_drop_37 : decode cX2_drop 37 = .ok (.iload_n 3, 1) := by decide +kernel
theorem dX2_drop_38 : decode cX2_drop 38 = .ok (.iaload, 1) := by decide +kernel
theorem dX2_drop_39 : decode cX2_drop 39 = .ok (.iastore, 1) := by decide +kernel
theorem dX2_drop_40 : decode cX2_drop 40 = .ok (.iinc 2 1, 3) := by decide +kernel
theorem dX2_drop_43 : decode cX2_drop 43 = .ok (.iinc 3 1, 3) := by decide +kernel
theorem dX2_drop_46 : decode cX2_drop 46 = .ok (.goto (-42), 3) := by decide +kernel
theorem dX2_drop_49 : decode cX2_drop 49 = .ok (.aload_n 0, 1) := by decide +kernel
theorem dX2_drop_50 : decode cX2_drop 50 = .ok (.iload_n 2, 1) := by decide +kernel
theorem dX2_drop_51 : decode cX2_drop 51 = .ok (.putfield 18, 3) := by decide +kernel
theorem dX2_drop_54 : decode cX2_drop 54 = .ok (.return_, 1) := by decide +kernel
def fX2_drop_L4 (k49 : Int32 → (Nat → Int32) → Option (Int32 × (Nat → Int32))) (u_size : Int32) (x1 : Int32) : Nat → Int32 → Int32 → (Nat → Int32) → Option (Int32 × (Nat → Int32))
  | 0, _, _, _ => none
  | n + 1, x2, x3, u_order => if u_size ≤ x3 then (k49 x2 u_order) else (if 36 ≤ x3 then (k49 x2 u_order) else (gA x3 36 (if (u_order (x3).toNatClampNeg) = x1 then (fX2_drop_L4 k49 u_size x1 n x2 (x3 + 1) u_order) else (gA x3 36 (gA x2 36 (fX2_drop_L4 k49 u_size x1 n (x2 + 1) (x3 + 1) (upd u_order (x2 : Int32).toNatClampNeg (u_order (x3).toNatClampNeg))))))))
def fX2_drop (u_size : Int32) (u_order : (Nat → Int32)) (x1 : Int32) : Option (Int32 × (Nat → Int32)) := fX2_drop_L4 (fun (x2_7 : Int32) (u_order_7 : (Nat → Int32)) => some (x2_7, u_order_7)) u_size x1 400 0 0 u_order
set_option maxRecDepth 20000 in
theorem LX2_drop_4 {p : Program} {l : Launch} {e : Env} {R : Room} {s : State} {m : MethodId} {args : Array Value} {below : List Frame} {meth : Method} {c : Code} {Q : State → Prop} {D : va_G} {C : Nat → ClassId} {A : Nat → Prop} (cx : CX p m c s args RX2 cX2_drop 4 D C A R 1) {q_ q_owed q_order : Nat} {u_size : Int32} {x1 : Int32} {z : (Int32 × (Nat → Int32))} (hret : RT p l e R s m args below meth c Q D A cX2_drop none [(q_, .inr (2, [.ref q_owed, .ref q_order, .int z.1])), (q_order, .inl (C 0, 36, .inl z.2))] none) {k49 : Int32 → (Nat → Int32) → Option (Int32 × (Nat → Int32))} (hk49 : ∀ (x2 : Int32) (u_order : (Nat → Int32)) (H : Heap) (locs : List Loc) (ls : Array Slot), k49 x2 u_order = some z → HW D A s.heap H locs [(q_, .inr (2, [.ref q_owed, .ref q_order, .int u_size])), (q_order, .inl (C 0, 36, .inl u_order))] → lv_has ls 4 [(0, .ref q_), (2, .int x2)] → W p l e R s m args below meth c H locs 0 0 Q (F0 m 49 ls [])) :
    ∀ (n : Nat) (x2 : Int32) (x3 : Int32) (u_order : (Nat → Int32)) (H : Heap) (locs : List Loc) (ls : Array Slot), fX2_drop_L4 k49 u_size x1 n x2 x3 u_order = some z → HW D A s.heap H locs [(q_, .inr (2, [.ref q_owed, .ref q_order, .int u_size])), (q_order, .inl (C 0, 36, .inl u_order))] → lv_has ls 4 [(0, .ref q_), (1, .int x1), (2, .int x2), (3, .int x3)] → W p l e R s m args below meth c H locs 0 0 Q (F0 m 4 ls []) := by
  have hx := cx.1
  have hb := cx.2.1
  intro n
  induction n with
  | zero => intro x2 x3 u_order H locs ls hF; cases hF
  | succ n ih =>
    intro x2 x3 u_order H locs ls hF hw hl
    rw [fX2_drop_L4.eq_2] at hF
    refine lv_iload_n hx hb dX2_drop_4 rfl (lv_at hl 3 rfl) ?_
    refine lv_aload_n hx hb dX2_drop_5 rfl (lv_at hl 0 rfl) ?_
    refine r_get (ci := 2) (v := .int u_size) cx hw iX2 0 2 rfl rfl (by decide) wf_X2_18 rfl dX2_drop_6 ?_
    refine lv_icmp_ge (tgt := 49) hx hb dX2_drop_9 (by decide) (fun c1 => ?_) (fun c1 => ?_)
    · replace hF := oi_t c1 hF
      exact hk49 x2 u_order H locs ls hF hw (lv_sub hl [0, 2] rfl)
    · replace hF := oi_f c1 hF
      refine lv_iload_n hx hb dX2_drop_12 rfl (lv_at hl 3 rfl) ?_
      refine lv_bipush (v := 36) hx hb dX2_drop_13 (by decide) ?_
      refine lv_icmp_ge (tgt := 49) hx hb dX2_drop_15 (by decide) (fun c2 => ?_) (fun c2 => ?_)
      · replace hF := oi_t c2 hF
        exact hk49 x2 u_order H locs ls hF hw (lv_sub hl [0, 2] rfl)
      · replace hF := oi_f c2 hF
        refine lv_aload_n hx hb dX2_drop_18 rfl (lv_at hl 0 rfl) ?_
        refine r_get (ci := 2) (v := .ref q_order) cx hw iX2 0 1 rfl rfl (by decide) wf_X2_15 rfl dX2_drop_19 ?_
        refine lv_iload_n hx hb dX2_drop_22 rfl (lv_at hl 3 rfl) ?_
        obtain ⟨g3, hF⟩ := gA_s hF
        refine r_iald cx hw 1 rfl g3 dX2_drop_23 ?_
        refine lv_iload_n hx hb dX2_drop_24 rfl (lv_at hl 1 rfl) ?_
        refine lv_icmp_eq (tgt := 43) hx hb dX2_drop_25 (by decide) (fun c4 => ?_) (fun c4 => ?_)
        · replace hF := oi_t c4 hF
          refine lv_iinc (v := x3 + 1) (lv' := [(3, .int (x3 + 1)), (0, .ref q_), (1, .int x1), (2, .int x2)]) hx hb dX2_drop_43 hl (k := 3) rfl rfl (by decide) rfl (fun ls hl => ?_)
          refine lv_goto (tgt := 4) hx hb dX2_drop_46 (by decide) ?_
          exact ih x2 (x3 + 1) u_order H locs ls hF hw (lv_sub hl [1, 2, 3, 0] rfl)
        · replace hF := oi_f c4 hF
          refine lv_aload_n hx hb dX2_drop_28 rfl (lv_at hl 0 rfl) ?_
          refine r_get (ci := 2) (v := .ref q_order) cx hw iX2 0 1 rfl rfl (by decide) wf_X2_15 rfl dX2_drop_29 ?_
          refine lv_iload_n hx hb dX2_drop_32 rfl (lv_at hl 2 rfl) ?_
          refine lv_aload_n hx hb dX2_drop_33 rfl (lv_at hl 0 rfl) ?_
          refine r_get (ci := 2) (v := .ref q_order) cx hw iX2 0 1 rfl rfl (by decide) wf_X2_15 rfl dX2_drop_34 ?_
          refine lv_iload_n hx hb dX2_drop_37 rfl (lv_at hl 3 rfl) ?_
          obtain ⟨g5, hF⟩ := gA_s hF
          refine r_iald cx hw 1 rfl g5 dX2_drop_38 ?_
          obtain ⟨g6, hF⟩ := gA_s hF
          refine r_iast (w2 := [(q_, .inr (2, [.ref q_owed, .ref q_order, .int u_size])), (q_order, .inl (C 0, 36, .inl (upd u_order (x2 : Int32).toNatClampNeg (u_order (x3).toNatClampNeg))))]) cx hw 1 rfl g6 dX2_drop_39 rfl (fun H locs hw => ?_)
          refine lv_iinc (v := x2 + 1) (lv' := [(2, .int (x2 + 1)), (0, .ref q_), (1, .int x1), (3, .int x3)]) hx hb dX2_drop_40 hl (k := 2) rfl rfl (by decide) rfl (fun ls hl => ?_)
          refine lv_iinc (v := x3 + 1) (lv' := [(3, .int (x3 + 1)), (2, .int (x2 + 1)), (0, .ref q_), (1, .int x1)]) hx hb dX2_drop_43 hl (k := 3) rfl rfl (by decide) rfl (fun ls hl => ?_)
          refine lv_goto (tgt := 4) hx hb dX2_drop_46 (by decide) ?_
          exact ih (x2 + 1) (x3 + 1) (upd u_order (x2 : Int32).toNatClampNeg (u_order (x3).toNatClampNeg)) H locs ls hF hw (lv_sub hl [2, 3, 1, 0] rfl)
set_option maxRecDepth 20000 in
theorem CX2_drop (l : Launch) (D : va_G) (C : Nat → ClassId) (q_ q_owed q_order : Nat) (u_size : Int32) (u_order : (Nat → Int32)) (x1 : Int32) (z : (Int32 × (Nat → Int32))) (hF : fX2_drop u_size u_order x1 = some z) : Ct l yX2_drop cX2_drop 4 none 1 D C [.ref q_, .int x1] [(q_, .inr (2, [.ref q_owed, .ref q_order, .int u_size])), (q_order, .inl (C 0, 36, .inl u_order))] [(q_, .inr (2, [.ref q_owed, .ref q_order, .int z.1])), (q_order, .inl (C 0, 36, .inl z.2))] none := by
  refine Ct_of (by decide) (Nat.le_of_ble_eq_true rfl) ?_
  intro p e R s m args below meth c A Q H locs ls cx hw hl hret
  have cx : CX p m c s args RX2 cX2_drop 4 D C A R 1 := cx
  have hx := cx.1
  have hb := cx.2.1
  have hl : lv_has ls 4 [(0, .ref q_), (1, .int x1)] := hl
  rw [fX2_drop.eq_1] at hF
  refine lv_iconst (v := 0) hx hb dX2_drop_0 (by decide) ?_
  refine lv_istore_n (lv' := [(2, .int 0), (0, .ref q_), (1, .int x1)]) hx hb dX2_drop_1 rfl hl (by decide) rfl (fun ls hl => ?_)
  refine lv_iconst (v := 0) hx hb dX2_drop_2 (by decide) ?_
  refine lv_istore_n (lv' := [(3, .int 0), (2, .int 0), (0, .ref q_), (1, .int x1)]) hx hb dX2_drop_3 rfl hl (by decide) rfl (fun ls hl => ?_)
  refine LX2_drop_4 cx hret (fun x2_7 u_order_7 H locs ls hF hw hl => ?_) 400 0 0 u_order H locs ls hF hw (lv_sub hl [2, 3, 1, 0] rfl)
  · refine lv_aload_n hx hb dX2_drop_49 rfl (lv_at hl 0 rfl) ?_
    refine lv_iload_n hx hb dX2_drop_50 rfl (lv_at hl 1 rfl) ?_
    refine r_put (ci := 2) (w2 := [(q_, .inr (2, [.ref q_owed, .ref q_order, .int x2_7])), (q_order, .inl (C 0, 36, .inl u_order_7))]) cx hw iX2 tyX2_ok nmX2 0 2 rfl rfl (by decide) wf_X2_18 rfl rfl rfl rfl (Nat.le_of_ble_eq_true rfl) dX2_drop_51 rfl (fun H locs hw => ?_)
    obtain rfl := Option.some.inj hF
    exact rt_v hret hw rfl dX2_drop_54
theorem lk_X2_30 : Cond.methodLink RX2 30 yX2_drop ∈ gdt := gdt_of 319 (by decide +kernel) (by decide +kernel)
theorem lk_X2_26 : Cond.methodLink RX2 26 yX2_append ∈ gdt := gdt_of 315 (by decide +kernel) (by decide +kernel)
theorem my_X2_drop : (yX2_drop.cls ≠ "java/lang/invoke/MethodHandle" ∧ yX2_drop.cls ≠ "java/lang/invoke/VarHandle") ∧ Cond.instanceMethod yX2_drop ∈ gdt ∧ Cond.selects yX2_drop.cls yX2_drop yX2_drop ∈ gdt ∧ Cond.initialized yX2_drop.cls ∈ gdt ∧ Cond.code yX2_drop cX2_drop 4 none ∈ gdt := ⟨⟨by decide +kernel, by decide +kernel⟩, gdt_of 321 (by decide +kernel) (by decide +kernel), gdt_of 3 (by decide +kernel) (by decide +kernel), gdt_of 69 (by decide +kernel) (by decide +kernel), gdt_of 322 (by decide +kernel) (by decide +kernel)⟩
theorem ml_X2_drop : (parseMethodDescriptor yX2_drop.desc).map (fun d => d.parameters.length) = some 1 := by decide +kernel
theorem my_X2_append : (yX2_append.cls ≠ "java/lang/invoke/MethodHandle" ∧ yX2_append.cls ≠ "java/lang/invoke/VarHandle") ∧ Cond.instanceMethod yX2_append ∈ gdt ∧ Cond.selects yX2_append.cls yX2_append yX2_append ∈ gdt ∧ Cond.initialized yX2_append.cls ∈ gdt ∧ Cond.code yX2_append cX2_append 2 none ∈ gdt := ⟨⟨by decide +kernel, by decide +kernel⟩, gdt_of 317 (by decide +kernel) (by decide +kernel), gdt_of 2 (by decide +kernel) (by decide +kernel), gdt_of 69 (by decide +kernel) (by decide +kernel), gdt_of 318 (by decide +kernel) (by decide +kernel)⟩
theorem ml_X2_append : (parseMethodDescriptor yX2_append.desc).map (fun d => d.parameters.length) = some 1 := by decide +kernel
theorem dX2_put_0 : decode cX2_put 0 = .ok (.iload_n 1, 1) := by decide +kernel
theorem dX2_put_1 : decode cX2_put 1 = .ok (.iload_n 2, 1) := by decide +kernel
theorem dX2_put_2 : decode cX2_put 2 = .ok (.invokestatic 22, 3) := by decide +kernel
theorem dX2_put_5 : decode cX2_put 5 = .ok (.ifCond .ne 4, 3) := by decide +kernel
theorem dX2_put_8 : decode cX2_put 8 = .ok (.return_, 1) := by decide +kernel
theorem dX2_put_9 : decode cX2_put 9 = .ok (.iload_n 1, 1) := by decide +kernel
theorem dX2_put_10 : decode cX2_put 10 = .ok (.bipush 6, 2) := by decide +kernel
theorem dX2_put_12 : decode cX2_put 12 = .ok (.imul, 1) := by decide +kernel
theorem dX2_put_13 : decode cX2_put 13 = .ok (.iload_n 2, 1) := by decide +kernel
theorem dX2_put_14 : decode cX2_put 14 = .ok (.iadd, 1) := by decide +kernel
theorem dX2_put_15 : decode cX2_put 15 = .ok (.istore 4, 2) := by decide +kernel
theorem dX2_put_17 : decode cX2_put 17 = .ok (.aload_n 0, 1) := by decide +kernel
theorem dX2_put_18 : decode cX2_put 18 = .ok (.getfield 9, 3) := by decide +kernel
theorem dX2_put_21 : decode cX2_put 21 = .ok (.iload 4, 2) := by decide +kernel
theorem dX2_put_23 : decode cX2_put 23 = .ok (.iaload, 1) := by decide +kernel
theorem dX2_put_24 : decode cX2_put 24 = .ok (.ifCond .ne 16, 3) := by decide +kernel
theorem dX2_put_27 : decode cX2_put 27 = .ok (.iload_n 3, 1) := by decide +kernel
theorem dX2_put_28 : decode cX2_put 28 = .ok (.ifCond .le 12, 3) := by decide +kernel
theorem dX2_put_31 : decode cX2_put 31 = .ok (.aload_n 0, 1) := by decide +kernel
theorem dX2_put_32 : decode cX2_put 32 = .ok (.iload 4, 2) := by decide +kernel
theorem dX2_put_34 : decode cX2_put 34 = .ok (.invokevirtual 26, 3) := by decide +kernel
theorem dX2_put_37 : decode cX2_put 37 = .ok (.goto 23, 3) := by decide +kernel
theorem dX2_put_40 : decode cX2_put 40 = .ok (.aload_n 0, 1) := by decide +kernel
theorem dX2_put_41 : decode cX2_put 41 = .ok (.getfield 9, 3) := by decide +kernel
theorem dX2_put_44 : decode cX2_put 44 = .ok (.iload 4, 2) := by decide +kernel
theorem dX2_put_46 : decode cX2_put 46 = .ok (.iaload, 1) := by decide +kernel
theorem dX2_put_47 : decode cX2_put 47 = .ok (.ifCond .le 13, 3) := by decide +kernel
theorem dX2_put_50 : decode cX2_put 50 = .ok (.iload_n 3, 1) := by decide +kernel
theorem dX2_put_51 : decode cX2_put 51 = .ok (.ifCond .ne 9, 3) := by decide +kernel
theorem dX2_put_54 : decode cX2_put 54 = .ok (.aload_n 0, 1) := by decide +kernel
theorem dX2_put_55 : decode cX2_put 55 = .ok (.iload 4, 2) := by decide +kernel
theorem dX2_put_57 : decode cX2_put 57 = .ok (.invokevirtual 30, 3) := by decide +kernel
theorem dX2_put_60 : decode cX2_put 60 = .ok (.aload_n 0, 1) := by decide +kernel
theorem dX2_put_61 : decode cX2_put 61 = .ok (.getfield 9, 3) := by decide +kernel
theorem dX2_put_64 : decode cX2_put 64 = .ok (.iload 4, 2) := by decide +kernel
theorem dX2_put_66 : decode cX2_put 66 = .ok (.iload_n 3, 1) := by decide +kernel
theorem dX2_put_67 : decode cX2_put 67 = .ok (.iastore, 1) := by decide +kernel
theorem dX2_put_68 : decode cX2_put 68 = .ok (.return_, 1) := by decide +kernel
def fX2_put (u_size : Int32) (u_owed : (Nat → Int32)) (u_order : (Nat → Int32)) (x1 : Int32) (x2 : Int32) (x3 : Int32) : Option (Int32 × (Nat → Int32) × (Nat → Int32)) := (fX8_isCell x1 x2).bind (fun z1 => if z1 = 0 then (some (u_size, u_owed, u_order)) else (gA ((x1 * 6) + x2) 36 (jn (fun (u_size_j40 : Int32) (u_owed_j40 : (Nat → Int32)) (u_order_j40 : (Nat → Int32)) => gA ((x1 * 6) + x2) 36 (if (u_owed_j40 ((x1 * 6) + x2).toNatClampNeg) ≤ 0 then (gA ((x1 * 6) + x2) 36 (some (u_size_j40, upd u_owed_j40 ((x1 * 6) + x2 : Int32).toNatClampNeg x3, u_order_j40))) else (if x3 = 0 then ((fX2_drop u_size_j40 u_order_j40 ((x1 * 6) + x2)).bind (fun z9 => gA ((x1 * 6) + x2) 36 (some (z9.1, upd u_owed_j40 ((x1 * 6) + x2 : Int32).toNatClampNeg x3, z9.2)))) else (gA ((x1 * 6) + x2) 36 (some (u_size_j40, upd u_owed_j40 ((x1 * 6) + x2 : Int32).toNatClampNeg x3, u_order_j40)))))) (fun j40 => if (u_owed ((x1 * 6) + x2).toNatClampNeg) = 0 then (if x3 ≤ 0 then (j40 u_size u_owed u_order) else ((fX2_append u_size u_order ((x1 * 6) + x2)).bind (fun z13 => gA ((x1 * 6) + x2) 36 (some (z13.1, upd u_owed ((x1 * 6) + x2 : Int32).toNatClampNeg x3, z13.2))))) else (j40 u_size u_owed u_order)))))
set_option maxRecDepth 20000 in
theorem CX2_put (l : Launch) (D : va_G) (C : Nat → ClassId) (q_ q_owed q_order : Nat) (u_size : Int32) (u_owed : (Nat → Int32)) (u_order : (Nat → Int32)) (x1 : Int32) (x2 : Int32) (x3 : Int32) (z : (Int32 × (Nat → Int32) × (Nat → Int32))) (hF : fX2_put u_size u_owed u_order x1 x2 x3 = some z) : Ct l yX2_put cX2_put 5 none 2 D C [.ref q_, .int x1, .int x2, .int x3] [(q_, .inr (2, [.ref q_owed, .ref q_order, .int u_size])), (q_owed, .inl (C 0, 36, .inl u_owed)), (q_order, .inl (C 0, 36, .inl u_order))] [(q_, .inr (2, [.ref q_owed, .ref q_order, .int z.1])), (q_owed, .inl (C 0, 36, .inl z.2.1)), (q_order, .inl (C 0, 36, .inl z.2.2))] none := by
  refine Ct_of (by decide) (Nat.le_of_ble_eq_true rfl) ?_
  intro p e R s m args below meth c A Q H locs ls cx hw hl hret
  have cx : CX p m c s args RX2 cX2_put 5 D C A R 2 := cx
  have hx := cx.1
  have hb := cx.2.1
  have hl : lv_has ls 5 [(0, .ref q_), (1, .int x1), (2, .int x2), (3, .int x3)] := hl
  rw [fX2_put.eq_1] at hF
  refine lv_iload_n hx hb dX2_put_0 rfl (lv_at hl 1 rfl) ?_
  refine lv_iload_n hx hb dX2_put_1 rfl (lv_at hl 2 rfl) ?_
  obtain ⟨z1, hz1, hF⟩ := ob hF
  refine cN (wr := [(q_, .inr (2, [.ref q_owed, .ref q_order, .int u_size])), (q_owed, .inl (C 0, 36, .inl u_owed)), (q_order, .inl (C 0, 36, .inl u_order))]) (w2 := [(q_, .inr (2, [.ref q_owed, .ref q_order, .int u_size])), (q_owed, .inl (C 0, 36, .inl u_owed)), (q_order, .inl (C 0, 36, .inl u_order))]) (st2 := [.int z1]) cx (CX8_isCell l D C x1 x2 z1 hz1) cx.2.2.2.2.2.1.2.2.1 my_X8_isCell ml_X8_isCell ⟨by decide, by decide⟩ hw [] [0, 1, 2] [0, 1, 2] rfl rfl (by decide) rfl rfl (Nat.le_of_ble_eq_true rfl) dX2_put_2 rfl (fun H locs hw => ?_) hl.1
  refine lv_if_ne (tgt := 9) hx hb dX2_put_5 (by decide) (fun c2 => ?_) (fun c2 => ?_)
  · replace hF := oi_f c2 hF
    refine lv_iload_n hx hb dX2_put_9 rfl (lv_at hl 1 rfl) ?_
    refine lv_bipush (v := 6) hx hb dX2_put_10 (by decide) ?_
    refine lv_imul hx hb dX2_put_12 ?_
    refine lv_iload_n hx hb dX2_put_13 rfl (lv_at hl 2 rfl) ?_
    refine lv_iadd hx hb dX2_put_14 ?_
    refine lv_istore (lv' := [(4, .int ((x1 * 6) + x2)), (0, .ref q_), (1, .int x1), (2, .int x2), (3, .int x3)]) hx hb dX2_put_15 hl (by decide) rfl (fun ls hl => ?_)
    refine lv_aload_n hx hb dX2_put_17 rfl (lv_at hl 1 rfl) ?_
    refine r_get (ci := 2) (v := .ref q_owed) cx hw iX2 0 0 rfl rfl (by decide) wf_X2_9 rfl dX2_put_18 ?_
    refine lv_iload hx hb dX2_put_21 (lv_at hl 0 rfl) ?_
    obtain ⟨g3, hF⟩ := gA_s hF
    refine r_iald cx hw 1 rfl g3 dX2_put_23 ?_
    obtain ⟨j40, ej40, hF⟩ := jn_s hF
    have J40 : ∀ (u_size_j40 : Int32) (u_owed_j40 : (Nat → Int32)) (u_order_j40 : (Nat → Int32)) (H : Heap) (locs : List Loc) (ls : Array Slot), j40 u_size_j40 u_owed_j40 u_order_j40 = some z → HW D A s.heap H locs [(q_, .inr (2, [.ref q_owed, .ref q_order, .int u_size_j40])), (q_owed, .inl (C 0, 36, .inl u_owed_j40)), (q_order, .inl (C 0, 36, .inl u_order_j40))] → lv_has ls 5 [(0, .ref q_), (3, .int x3), (4, .int ((x1 * 6) + x2))] → W p l e R s m args below meth c H locs 0 0 Q (F0 m 40 ls []) := by
      intro u_size_j40 u_owed_j40 u_order_j40 H locs ls hF hw hl
      rw [ej40] at hF
      refine lv_aload_n hx hb dX2_put_40 rfl (lv_at hl 0 rfl) ?_
      refine r_get (ci := 2) (v := .ref q_owed) cx hw iX2 0 0 rfl rfl (by decide) wf_X2_9 rfl dX2_put_41 ?_
      refine lv_iload hx hb dX2_put_44 (lv_at hl 2 rfl) ?_
      obtain ⟨g4, hF⟩ := gA_s hF
      refine r_iald cx hw 1 rfl g4 dX2_put_46 ?_
      refine lv_if_le (tgt := 60) hx hb dX2_put_47 (by decide) (fun c5 => ?_) (fun c5 => ?_)
      · replace hF := oi_t c5 hF
        refine lv_aload_n hx hb dX2_put_60 rfl (lv_at hl 0 rfl) ?_
        refine r_get (ci := 2) (v := .ref q_owed) cx hw iX2 0 0 rfl rfl (by decide) wf_X2_9 rfl dX2_put_61 ?_
        refine lv_iload hx hb dX2_put_64 (lv_at hl 2 rfl) ?_
        refine lv_iload_n hx hb dX2_put_66 rfl (lv_at hl 1 rfl) ?_
        obtain ⟨g6, hF⟩ := gA_s hF
        refine r_iast (w2 := [(q_, .inr (2, [.ref q_owed, .ref q_order, .int u_size_j40])), (q_owed, .inl (C 0, 36, .inl (upd u_owed_j40 ((x1 * 6) + x2 : Int32).toNatClampNeg x3))), (q_order, .inl (C 0, 36, .inl u_order_j40))]) cx hw 1 rfl g6 dX2_put_67 rfl (fun H locs hw => ?_)
        obtain rfl := Option.some.inj hF
        exact rt_v hret hw rfl dX2_put_68
      · replace hF := oi_f c5 hF
        refine lv_iload_n hx hb dX2_put_50 rfl (lv_at hl 1 rfl) ?_
        refine lv_if_ne (tgt := 60) hx hb dX2_put_51 (by decide) (fun c7 => ?_) (fun c7 => ?_)
        · replace hF := oi_f c7 hF
          refine lv_aload_n hx hb dX2_put_60 rfl (lv_at hl 0 rfl) ?_
          refine r_get (ci := 2) (v := .ref q_owed) cx hw iX2 0 0 rfl rfl (by decide) wf_X2_9 rfl dX2_put_61 ?_
          refine lv_iload hx hb dX2_put_64 (lv_at hl 2 rfl) ?_
          refine lv_iload_n hx hb dX2_put_66 rfl (lv_at hl 1 rfl) ?_
          obtain ⟨g8, hF⟩ := gA_s hF
          refine r_iast (w2 := [(q_, .inr (2, [.ref q_owed, .ref q_order, .int u_size_j40])), (q_owed, .inl (C 0, 36, .inl (upd u_owed_j40 ((x1 * 6) + x2 : Int32).toNatClampNeg x3))), (q_order, .inl (C 0, 36, .inl u_order_j40))]) cx hw 1 rfl g8 dX2_put_67 rfl (fun H locs hw => ?_)
          obtain rfl := Option.some.inj hF
          exact rt_v hret hw rfl dX2_put_68
        · replace hF := oi_t c7 hF
          refine lv_aload_n hx hb dX2_put_54 rfl (lv_at hl 0 rfl) ?_
          refine lv_iload hx hb dX2_put_55 (lv_at hl 2 rfl) ?_
          obtain ⟨z9, hz9, hF⟩ := ob hF
          refine cV (wr := [(q_owed, .inl (C 0, 36, .inl u_owed_j40))]) (w2 := [(q_, .inr (2, [.ref q_owed, .ref q_order, .int z9.1])), (q_owed, .inl (C 0, 36, .inl u_owed_j40)), (q_order, .inl (C 0, 36, .inl z9.2))]) (st2 := []) cx (CX2_drop l D C q_ q_owed q_order u_size_j40 u_order_j40 ((x1 * 6) + x2) z9 hz9) lk_X2_30 my_X2_drop ml_X2_drop ⟨by decide, by decide⟩ hw [0, 2] [1] [1, 0, 2] rfl rfl (by decide) rfl rfl rfl rfl (Nat.le_of_ble_eq_true rfl) dX2_put_57 rfl (fun H locs hw => ?_) hl.1
          refine lv_aload_n hx hb dX2_put_60 rfl (lv_at hl 0 rfl) ?_
          refine r_get (ci := 2) (v := .ref q_owed) cx hw iX2 0 0 rfl rfl (by decide) wf_X2_9 rfl dX2_put_61 ?_
          refine lv_iload hx hb dX2_put_64 (lv_at hl 2 rfl) ?_
          refine lv_iload_n hx hb dX2_put_66 rfl (lv_at hl 1 rfl) ?_
          obtain ⟨g10, hF⟩ := gA_s hF
          refine r_iast (w2 := [(q_, .inr (2, [.ref q_owed, .ref q_order, .int z9.1])), (q_owed, .inl (C 0, 36, .inl (upd u_owed_j40 ((x1 * 6) + x2 : Int32).toNatClampNeg x3))), (q_order, .inl (C 0, 36, .inl z9.2))]) cx hw 1 rfl g10 dX2_put_67 rfl (fun H locs hw => ?_)
          obtain rfl := Option.some.inj hF
          exact rt_v hret hw rfl dX2_put_68
    refine lv_if_ne (tgt := 40) hx hb dX2_put_24 (by decide) (fun c11 => ?_) (fun c11 => ?_)
    · replace hF := oi_f c11 hF
      exact J40 u_size u_owed u_order H locs ls hF hw (lv_sub hl [1, 4, 0] rfl)
    · replace hF := oi_t c11 hF
      refine lv_iload_n hx hb dX2_put_27 rfl (lv_at hl 4 rfl) ?_
      refine lv_if_le (tgt := 40) hx hb dX2_put_28 (by decide) (fun c12 => ?_) (fun c12 => ?_)
      · replace hF := oi_t c12 hF
        exact J40 u_size u_owed u_order H locs ls hF hw (lv_sub hl [1, 4, 0] rfl)
      · replace hF := oi_f c12 hF
        refine lv_aload_n hx hb dX2_put_31 rfl (lv_at hl 1 rfl) ?_
        refine lv_iload hx hb dX2_put_32 (lv_at hl 0 rfl) ?_
        obtain ⟨z13, hz13, hF⟩ := ob hF
        refine cV (wr := [(q_owed, .inl (C 0, 36, .inl u_owed))]) (w2 := [(q_, .inr (2, [.ref q_owed, .ref q_order, .int z13.1])), (q_owed, .inl (C 0, 36, .inl u_owed)), (q_order, .inl (C 0, 36, .inl z13.2))]) (st2 := []) cx (CX2_append l D C q_ q_owed q_order u_size u_order ((x1 * 6) + x2) z13 hz13) lk_X2_26 my_X2_append ml_X2_append ⟨by decide, by decide⟩ hw [0, 2] [1] [1, 0, 2] rfl rfl (by decide) rfl rfl rfl rfl (Nat.le_of_ble_eq_true rfl) dX2_put_34 rfl (fun H locs hw => ?_) hl.1
        refine lv_goto (tgt := 60) hx hb dX2_put_37 (by decide) ?_
        refine lv_aload_n hx hb dX2_put_60 rfl (lv_at hl 1 rfl) ?_
        refine r_get (ci := 2) (v := .ref q_owed) cx hw iX2 0 0 rfl rfl (by decide) wf_X2_9 rfl dX2_put_61 ?_
        refine lv_iload hx hb dX2_put_64 (lv_at hl 0 rfl) ?_
        refine lv_iload_n hx hb dX2_put_66 rfl (lv_at hl 4 rfl) ?_
        obtain ⟨g14, hF⟩ := gA_s hF
        refine r_iast (w2 := [(q_, .inr (2, [.ref q_owed, .ref q_order, .int z13.1])), (q_owed, .inl (C 0, 36, .inl (upd u_owed ((x1 * 6) + x2 : Int32).toNatClampNeg x3))), (q_order, .inl (C 0, 36, .inl z13.2))]) cx hw 1 rfl g14 dX2_put_67 rfl (fun H locs hw => ?_)
        obtain rfl := Option.some.inj hF
        exact rt_v hret hw rfl dX2_put_68
  · replace hF := oi_t c2 hF
    obtain rfl := Option.some.inj hF
    exact rt_v hret hw rfl dX2_put_8
theorem lk_X2_37 : Cond.methodLink RX2 37 yX2_amount ∈ gdt := gdt_of 355 (by decide +kernel) (by decide +kernel)
theorem my_X2_amount : (yX2_amount.cls ≠ "java/lang/invoke/MethodHandle" ∧ yX2_amount.cls ≠ "java/lang/invoke/VarHandle") ∧ Cond.instanceMethod yX2_amount ∈ gdt ∧ Cond.selects yX2_amount.cls yX2_amount yX2_amount ∈ gdt ∧ Cond.initialized yX2_amount.cls ∈ gdt ∧ Cond.code yX2_amount cX2_amount 3 (some .int) ∈ gdt := ⟨⟨by decide +kernel, by decide +kernel⟩, gdt_of 305 (by decide +kernel) (by decide +kernel), gdt_of 306 (by decide +kernel) (by decide +kernel), gdt_of 69 (by decide +kernel) (by decide +kernel), gdt_of 307 (by decide +kernel) (by decide +kernel)⟩
theorem ml_X2_amount : (parseMethodDescriptor yX2_amount.desc).map (fun d => d.parameters.length) = some 2 := by decide +kernel
theorem dX2_at_0 : decode cX2_at 0 = .ok (.iload_n 1, 1) := by decide +kernel
theorem dX2_at_1 : decode cX2_at 1 = .ok (.ifCond .lt 11, 3) := by decide +kernel
theorem dX2_at_4 : decode cX2_at 4 = .ok (.iload_n 1, 1) := by decide +kernel
theorem dX2_at_5 : decode cX2_at 5 = .ok (.aload_n 0, 1) := by decide +kernel
theorem dX2_at_6 : decode cX2_at 6 = .ok (.getfield 18, 3) := by decide +kernel
theorem dX2_at_9 : decode cX2_at 9 = .ok (.if_icmp .lt 5, 3) := by decide +kernel
theorem dX2_at_12 : decode cX2_at 12 = .ok (.iconst (-1), 1) := by decide +kernel
theorem dX2_at_13 : decode cX2_at 13 = .ok (.ireturn, 1) := by decide +kernel
theorem dX2_at_14 : decode cX2_at 14 = .ok (.aload_n 0, 1) := by decide +kernel
theorem dX2_at_15 : decode cX2_at 15 = .ok (.getfield 15, 3) := by decide +kernel
theorem dX2_at_18 : decode cX2_at 18 = .ok (.iload_n 1, 1) := by decide +kernel
theorem dX2_at_19 : decode cX2_at 19 = .ok (.iaload, 1) := by decide +kernel
theorem dX2_at_20 : decode cX2_at 20 = .ok (.bipush 6, 2) := by decide +kernel
theorem dX2_at_22 : decode cX2_at 22 = .ok (.idiv, 1) := by decide +kernel
theorem dX2_at_23 : decode cX2_at 23 = .ok (.istore_n 3, 1) := by decide +kernel
theorem dX2_at_24 : decode cX2_at 24 = .ok (.aload_n 0, 1) := by decide +kernel
theorem dX2_at_25 : decode cX2_at 25 = .ok (.getfield 15, 3) := by decide +kernel
theorem dX2_at_28 : decode cX2_at 28 = .ok (.iload_n 1, 1) := by decide +kernel
theorem dX2_at_29 : decode cX2_at 29 = .ok (.iaload, 1) := by decide +kernel
theorem dX2_at_30 : decode cX2_at 30 = .ok (.bipush 6, 2) := by decide +kernel
theorem dX2_at_32 : decode cX2_at 32 = .ok (.irem, 1) := by decide +kernel
theorem dX2_at_33 : decode cX2_at 33 = .ok (.istore 4, 2) := by decide +kernel
theorem dX2_at_35 : decode cX2_at 35 = .ok (.iload_n 2, 1) := by decide +kernel
theorem dX2_at_36 : decode cX2_at 36 = .ok (.tableswitch 41 0 2 #[28, 30, 33], 28) := by decide +kernel
theorem dX2_at_64 : decode cX2_at 64 = .ok (.iload_n 3, 1) := by decide +kernel
theorem dX2_at_65 : decode cX2_at 65 = .ok (.ireturn, 1) := by decide +kernel
theorem dX2_at_66 : decode cX2_at 66 = .ok (.iload 4, 2) := by decide +kernel
theorem dX2_at_68 : decode cX2_at 68 = .ok (.ireturn, 1) := by decide +kernel
theorem dX2_at_69 : decode cX2_at 69 = .ok (.aload_n 0, 1) := by decide +kernel
theorem dX2_at_70 : decode cX2_at 70 = .ok (.iload_n 3, 1) := by decide +kernel
theorem dX2_at_71 : decode cX2_at 71 = .ok (.iload 4, 2) := by decide +kernel
theorem dX2_at_73 : decode cX2_at 73 = .ok (.invokevirtual 37, 3) := by decide +kernel
theorem dX2_at_76 : decode cX2_at 76 = .ok (.ireturn, 1) := by decide +kernel
theorem dX2_at_77 : decode cX2_at 77 = .ok (.iconst (-1), 1) := by decide +kernel
theorem dX2_at_78 : decode cX2_at 78 = .ok (.ireturn, 1) := by decide +kernel
def fX2_at (u_size : Int32) (u_owed : (Nat → Int32)) (u_order : (Nat → Int32)) (x1 : Int32) (x2 : Int32) : Option Int32 := if x1 < 0 then (some (-1)) else (if x1 < u_size then (gA x1 36 (gA x1 36 (if x2 = 0 then (some ((u_order (x1).toNatClampNeg) / 6)) else (if x2 = 1 then (some ((u_order (x1).toNatClampNeg) - (u_order (x1).toNatClampNeg) / 6 * 6)) else (if x2 = 2 then ((fX2_amount u_owed ((u_order (x1).toNatClampNeg) / 6) ((u_order (x1).toNatClampNeg) - (u_order (x1).toNatClampNeg) / 6 * 6)).bind (fun z10 => some z10)) else (some (-1))))))) else (some (-1)))
set_option maxRecDepth 20000 in
theorem CX2_at (l : Launch) (D : va_G) (C : Nat → ClassId) (q_ q_owed q_order : Nat) (u_size : Int32) (u_owed : (Nat → Int32)) (u_order : (Nat → Int32)) (x1 : Int32) (x2 : Int32) (z : Int32) (hF : fX2_at u_size u_owed u_order x1 x2 = some z) : Ct l yX2_at cX2_at 5 (some .int) 3 D C [.ref q_, .int x1, .int x2] [(q_, .inr (2, [.ref q_owed, .ref q_order, .int u_size])), (q_owed, .inl (C 0, 36, .inl u_owed)), (q_order, .inl (C 0, 36, .inl u_order))] [(q_, .inr (2, [.ref q_owed, .ref q_order, .int u_size])), (q_owed, .inl (C 0, 36, .inl u_owed)), (q_order, .inl (C 0, 36, .inl u_order))] (some (.int z)) := by
  refine Ct_of (by decide) (Nat.le_of_ble_eq_true rfl) ?_
  intro p e R s m args below meth c A Q H locs ls cx hw hl hret
  have cx : CX p m c s args RX2 cX2_at 5 D C A R 3 := cx
  have hx := cx.1
  have hb := cx.2.1
  have hl : lv_has ls 5 [(0, .ref q_), (1, .int x1), (2, .int x2)] := hl
  rw [fX2_at.eq_1] at hF
  refine lv_iload_n hx hb dX2_at_0 rfl (lv_at hl 1 rfl) ?_
  refine lv_if_lt (tgt := 12) hx hb dX2_at_1 (by decide) (fun c1 => ?_) (fun c1 => ?_)
  · replace hF := oi_t c1 hF
    refine lv_iconst (v := (-1)) hx hb dX2_at_12 (by decide) ?_
    obtain rfl := Option.some.inj hF
    exact rt_i hret hw rfl dX2_at_13
  · replace hF := oi_f c1 hF
    refine lv_iload_n hx hb dX2_at_4 rfl (lv_at hl 1 rfl) ?_
    refine lv_aload_n hx hb dX2_at_5 rfl (lv_at hl 0 rfl) ?_
    refine r_get (ci := 2) (v := .int u_size) cx hw iX2 0 2 rfl rfl (by decide) wf_X2_18 rfl dX2_at_6 ?_
    refine lv_icmp_lt (tgt := 14) hx hb dX2_at_9 (by decide) (fun c2 => ?_) (fun c2 => ?_)
    · replace hF := oi_t c2 hF
      refine lv_aload_n hx hb dX2_at_14 rfl (lv_at hl 0 rfl) ?_
      refine r_get (ci := 2) (v := .ref q_order) cx hw iX2 0 1 rfl rfl (by decide) wf_X2_15 rfl dX2_at_15 ?_
      refine lv_iload_n hx hb dX2_at_18 rfl (lv_at hl 1 rfl) ?_
      obtain ⟨g3, hF⟩ := gA_s hF
      refine r_iald cx hw 2 rfl g3 dX2_at_19 ?_
      refine lv_bipush (v := 6) hx hb dX2_at_20 (by decide) ?_
      refine lv_idiv hx hb dX2_at_22 (by decide) ?_
      refine lv_istore_n (lv' := [(3, .int ((u_order (x1).toNatClampNeg) / 6)), (0, .ref q_), (1, .int x1), (2, .int x2)]) hx hb dX2_at_23 rfl hl (by decide) rfl (fun ls hl => ?_)
      refine lv_aload_n hx hb dX2_at_24 rfl (lv_at hl 1 rfl) ?_
      refine r_get (ci := 2) (v := .ref q_order) cx hw iX2 0 1 rfl rfl (by decide) wf_X2_15 rfl dX2_at_25 ?_
      refine lv_iload_n hx hb dX2_at_28 rfl (lv_at hl 2 rfl) ?_
      obtain ⟨g5, hF⟩ := gA_s hF
      refine r_iald cx hw 2 rfl g5 dX2_at_29 ?_
      refine lv_bipush (v := 6) hx hb dX2_at_30 (by decide) ?_
      refine lv_irem hx hb dX2_at_32 (by decide) ?_
      refine lv_istore (lv' := [(4, .int ((u_order (x1).toNatClampNeg) - (u_order (x1).toNatClampNeg) / 6 * 6)), (3, .int ((u_order (x1).toNatClampNeg) / 6)), (0, .ref q_), (1, .int x1), (2, .int x2)]) hx hb dX2_at_33 hl (by decide) rfl (fun ls hl => ?_)
      refine lv_iload_n hx hb dX2_at_35 rfl (lv_at hl 4 rfl) ?_
      by_cases c7 : x2 = 0
      · replace hF := oi_t c7 hF
        refine lv_tableIn (tgt := 64) (off := 28) hx hb dX2_at_36 (by rw [c7]; decide) (by rw [c7]; decide) (by rw [c7]; decide +kernel) (by decide) ?_
        refine lv_iload_n hx hb dX2_at_64 rfl (lv_at hl 1 rfl) ?_
        obtain rfl := Option.some.inj hF
        exact rt_i hret hw rfl dX2_at_65
      replace hF := oi_f c7 hF
      by_cases c8 : x2 = 1
      · replace hF := oi_t c8 hF
        refine lv_tableIn (tgt := 66) (off := 30) hx hb dX2_at_36 (by rw [c8]; decide) (by rw [c8]; decide) (by rw [c8]; decide +kernel) (by decide) ?_
        refine lv_iload hx hb dX2_at_66 (lv_at hl 0 rfl) ?_
        obtain rfl := Option.some.inj hF
        exact rt_i hret hw rfl dX2_at_68
      replace hF := oi_f c8 hF
      by_cases c9 : x2 = 2
      · replace hF := oi_t c9 hF
        refine lv_tableIn (tgt := 69) (off := 33) hx hb dX2_at_36 (by rw [c9]; decide) (by rw [c9]; decide) (by rw [c9]; decide +kernel) (by decide) ?_
        refine lv_aload_n hx hb dX2_at_69 rfl (lv_at hl 2 rfl) ?_
        refine lv_iload_n hx hb dX2_at_70 rfl (lv_at hl 1 rfl) ?_
        refine lv_iload hx hb dX2_at_71 (lv_at hl 0 rfl) ?_
        obtain ⟨z10, hz10, hF⟩ := ob hF
        refine cV (wr := [(q_order, .inl (C 0, 36, .inl u_order))]) (w2 := [(q_, .inr (2, [.ref q_owed, .ref q_order, .int u_size])), (q_owed, .inl (C 0, 36, .inl u_owed)), (q_order, .inl (C 0, 36, .inl u_order))]) (st2 := [.int z10]) cx (CX2_amount l D C q_ q_owed q_order u_size u_owed ((u_order (x1).toNatClampNeg) / 6) ((u_order (x1).toNatClampNeg) - (u_order (x1).toNatClampNeg) / 6 * 6) z10 hz10) lk_X2_37 my_X2_amount ml_X2_amount ⟨by decide, by decide⟩ hw [0, 1] [2] [1, 2, 0] rfl rfl (by decide) rfl rfl rfl rfl (Nat.le_of_ble_eq_true rfl) dX2_at_73 rfl (fun H locs hw => ?_) hl.1
        obtain rfl := Option.some.inj hF
        exact rt_i hret hw rfl dX2_at_76
      replace hF := oi_f c9 hF
      have t7 := ti_ne (n := 0) (by decide) c7
      have t8 := ti_ne (n := 1) (by decide) c8
      have t9 := ti_ne (n := 2) (by decide) c9
      refine lv_tableOut (tgt := 77) hx hb dX2_at_36 (by omega) (by decide) ?_
      refine lv_iconst (v := (-1)) hx hb dX2_at_77 (by decide) ?_
      obtain rfl := Option.some.inj hF
      exact rt_i hret hw rfl dX2_at_78
    · replace hF := oi_f c2 hF
      refine lv_iconst (v := (-1)) hx hb dX2_at_12 (by decide) ?_
      obtain rfl := Option.some.inj hF
      exact rt_i hret hw rfl dX2_at_13
theorem lk_X2_33 : Cond.methodLink RX2 33 yX2_at ∈ gdt := gdt_of 351 (by decide +kernel) (by decide +kernel)
theorem my_X2_at : (yX2_at.cls ≠ "java/lang/invoke/MethodHandle" ∧ yX2_at.cls ≠ "java/lang/invoke/VarHandle") ∧ Cond.instanceMethod yX2_at ∈ gdt ∧ Cond.selects yX2_at.cls yX2_at yX2_at ∈ gdt ∧ Cond.initialized yX2_at.cls ∈ gdt ∧ Cond.code yX2_at cX2_at 5 (some .int) ∈ gdt := ⟨⟨by decide +kernel, by decide +kernel⟩, gdt_of 352 (by decide +kernel) (by decide +kernel), gdt_of 353 (by decide +kernel) (by decide +kernel), gdt_of 69 (by decide +kernel) (by decide +kernel), gdt_of 354 (by decide +kernel) (by decide +kernel)⟩
theorem ml_X2_at : (parseMethodDescriptor yX2_at.desc).map (fun d => d.parameters.length) = some 2 := by decide +kernel
theorem dX2_placeOf_0 : decode cX2_placeOf 0 = .ok (.iconst 0, 1) := by decide +kernel
theorem dX2_placeOf_1 : decode cX2_placeOf 1 = .ok (.istore_n 3, 1) := by decide +kernel
theorem dX2_placeOf_2 : decode cX2_placeOf 2 = .ok (.iload_n 3, 1) := by decide +kernel
theorem dX2_placeOf_3 : decode cX2_placeOf 3 = .ok (.aload_n 0, 1) := by decide +kernel
theorem dX2_placeOf_4 : decode cX2_placeOf 4 = .ok (.getfield 18, 3) := by decide +kernel
theorem dX2_placeOf_7 : decode cX2_placeOf 7 = .ok (.if_icmp .ge 31, 3) := by decide +kernel
theorem dX2_placeOf_10 : decode cX2_placeOf 10 = .ok (.aload_n 0, 1) := by decide +kernel
theorem dX2_placeOf_11 : decode cX2_placeOf 11 = .ok (.iload_n 3, 1) := by decide +kernel
theorem dX2_placeOf_12 : decode cX2_placeOf 12 = .ok (.iconst 0, 1) := by decide +kernel
theorem dX2_placeOf_13 : decode cX2_placeOf 13 = .ok (.invokevirtual 33, 3) := by decide +kernel
theorem dX2_placeOf_16 : decode cX2_placeOf 16 = .ok (.iload_n 1, 1) := by decide +kernel
theorem dX2_placeOf_17 : decode cX2_placeOf 17 = .ok (.if_icmp .ne 15, 3) := by decide +kernel
theorem dX2_placeOf_20 : decode cX2_placeOf 20 = .ok (.aload_n 0, 1) := by decide +kernel
theorem dX2_placeOf_21 : decode cX2_placeOf 21 = .ok (.iload_n 3, 1) := by decide +kernel
theorem dX2_placeOf_22 : decode cX2_placeOf 22 = .ok (.iconst 1, 1) := by decide +kernel
theorem dX2_placeOf_23 : decode cX2_placeOf 23 = .ok (.invokevirtual 33, 3) := by decide +kernel
theorem dX2_placeOf_26 : decode cX2_placeOf 26 = .ok (.iload_n 2, 1) := by decide +kernel
theorem dX2_placeOf_27 : decode cX2_placeOf 27 = .ok (.if_icmp .ne 5, 3) := by decide +kernel
theorem dX2_placeOf_30 : decode cX2_placeOf 30 = .ok (.iload_n 3, 1) := by decide +kernel
theorem dX2_placeOf_31 : decode cX2_placeOf 31 = .ok (.ireturn, 1) := by decide +kernel
theorem dX2_placeOf_32 : decode cX2_placeOf 32 = .ok (.iinc 3 1, 3) := by decide +kernel
theorem dX2_placeOf_35 : decode cX2_placeOf 35 = .ok (.goto (-33), 3) := by decide +kernel
theorem dX2_placeOf_38 : decode cX2_placeOf 38 = .ok (.bipush (-5), 2) := by decide +kernel
theorem dX2_placeOf_40 : decode cX2_placeOf 40 = .ok (.ireturn, 1) := by decide +kernel
def fX2_placeOf_L2 (u_size : Int32) (u_owed : (Nat → Int32)) (u_order : (Nat → Int32)) (x1 : Int32) (x2 : Int32) : Nat → Int32 → Option Int32
  | 0, _ => none
  | n + 1, x3 => if u_size ≤ x3 then (some (-5)) else ((fX2_at u_size u_owed u_order x3 0).bind (fun z2 => if z2 = x1 then ((fX2_at u_size u_owed u_order x3 1).bind (fun z4 => if z4 = x2 then (some x3) else (fX2_placeOf_L2 u_size u_owed u_order x1 x2 n (x3 + 1)))) else (fX2_placeOf_L2 u_size u_owed u_order x1 x2 n (x3 + 1))))
def fX2_placeOf (u_size : Int32) (u_owed : (Nat → Int32)) (u_order : (Nat → Int32)) (x1 : Int32) (x2 : Int32) : Option Int32 := fX2_placeOf_L2 u_size u_owed u_order x1 x2 400 0
set_option maxRecDepth 20000 in
theorem LX2_placeOf_2 {p : Program} {l : Launch} {e : Env} {R : Room} {s : State} {m : MethodId} {args : Array Value} {below : List Frame} {meth : Method} {c : Code} {Q : State → Prop} {D : va_G} {C : Nat → ClassId} {A : Nat → Prop} (cx : CX p m c s args RX2 cX2_placeOf 4 D C A R 4) {q_ q_owed q_order : Nat} {u_size : Int32} {u_owed : (Nat → Int32)} {u_order : (Nat → Int32)} {x1 : Int32} {x2 : Int32} {z : Int32} (hret : RT p l e R s m args below meth c Q D A cX2_placeOf (some .int) [(q_, .inr (2, [.ref q_owed, .ref q_order, .int u_size])), (q_owed, .inl (C 0, 36, .inl u_owed)), (q_order, .inl (C 0, 36, .inl u_order))] (some (.int z))) :
    ∀ (n : Nat) (x3 : Int32) (H : Heap) (locs : List Loc) (ls : Array Slot), fX2_placeOf_L2 u_size u_owed u_order x1 x2 n x3 = some z → HW D A s.heap H locs [(q_, .inr (2, [.ref q_owed, .ref q_order, .int u_size])), (q_owed, .inl (C 0, 36, .inl u_owed)), (q_order, .inl (C 0, 36, .inl u_order))] → lv_has ls 4 [(0, .ref q_), (1, .int x1), (2, .int x2), (3, .int x3)] → W p l e R s m args below meth c H locs 0 0 Q (F0 m 2 ls []) := by
  have hx := cx.1
  have hb := cx.2.1
  intro n
  induction n with
  | zero => intro x3 H locs ls hF; cases hF
  | succ n ih =>
    intro x3 H locs ls hF hw hl
    rw [fX2_placeOf_L2.eq_2] at hF
    refine lv_iload_n hx hb dX2_placeOf_2 rfl (lv_at hl 3 rfl) ?_
    refine lv_aload_n hx hb dX2_placeOf_3 rfl (lv_at hl 0 rfl) ?_
    refine r_get (ci := 2) (v := .int u_size) cx hw iX2 0 2 rfl rfl (by decide) wf_X2_18 rfl dX2_placeOf_4 ?_
    refine lv_icmp_ge (tgt := 38) hx hb dX2_placeOf_7 (by decide) (fun c1 => ?_) (fun c1 => ?_)
    · replace hF := oi_t c1 hF
      refine lv_bipush (v := (-5)) hx hb dX2_placeOf_38 (by decide) ?_
      obtain rfl := Option.some.inj hF
      exact rt_i hret hw rfl dX2_placeOf_40
    · replace hF := oi_f c1 hF
      refine lv_aload_n hx hb dX2_placeOf_10 rfl (lv_at hl 0 rfl) ?_
      refine lv_iload_n hx hb dX2_placeOf_11 rfl (lv_at hl 3 rfl) ?_
      refine lv_iconst (v := 0) hx hb dX2_placeOf_12 (by decide) ?_
      obtain ⟨z2, hz2, hF⟩ := ob hF
      refine cV (wr := []) (w2 := [(q_, .inr (2, [.ref q_owed, .ref q_order, .int u_size])), (q_owed, .inl (C 0, 36, .inl u_owed)), (q_order, .inl (C 0, 36, .inl u_order))]) (st2 := [.int z2]) cx (CX2_at l D C q_ q_owed q_order u_size u_owed u_order x3 0 z2 hz2) lk_X2_33 my_X2_at ml_X2_at ⟨by decide, by decide⟩ hw [0, 1, 2] [] [0, 1, 2] rfl rfl (by decide) rfl rfl rfl rfl (Nat.le_of_ble_eq_true rfl) dX2_placeOf_13 rfl (fun H locs hw => ?_) hl.1
      refine lv_iload_n hx hb dX2_placeOf_16 rfl (lv_at hl 1 rfl) ?_
      refine lv_icmp_ne (tgt := 32) hx hb dX2_placeOf_17 (by decide) (fun c3 => ?_) (fun c3 => ?_)
      · replace hF := oi_f c3 hF
        refine lv_iinc (v := x3 + 1) (lv' := [(3, .int (x3 + 1)), (0, .ref q_), (1, .int x1), (2, .int x2)]) hx hb dX2_placeOf_32 hl (k := 3) rfl rfl (by decide) rfl (fun ls hl => ?_)
        refine lv_goto (tgt := 2) hx hb dX2_placeOf_35 (by decide) ?_
        exact ih (x3 + 1) H locs ls hF hw (lv_sub hl [1, 2, 3, 0] rfl)
      · replace hF := oi_t c3 hF
        refine lv_aload_n hx hb dX2_placeOf_20 rfl (lv_at hl 0 rfl) ?_
        refine lv_iload_n hx hb dX2_placeOf_21 rfl (lv_at hl 3 rfl) ?_
        refine lv_iconst (v := 1) hx hb dX2_placeOf_22 (by decide) ?_
        obtain ⟨z4, hz4, hF⟩ := ob hF
        refine cV (wr := []) (w2 := [(q_, .inr (2, [.ref q_owed, .ref q_order, .int u_size])), (q_owed, .inl (C 0, 36, .inl u_owed)), (q_order, .inl (C 0, 36, .inl u_order))]) (st2 := [.int z4]) cx (CX2_at l D C q_ q_owed q_order u_size u_owed u_order x3 1 z4 hz4) lk_X2_33 my_X2_at ml_X2_at ⟨by decide, by decide⟩ hw [0, 1, 2] [] [0, 1, 2] rfl rfl (by decide) rfl rfl rfl rfl (Nat.le_of_ble_eq_true rfl) dX2_placeOf_23 rfl (fun H locs hw => ?_) hl.1
        refine lv_iload_n hx hb dX2_placeOf_26 rfl (lv_at hl 2 rfl) ?_
        refine lv_icmp_ne (tgt := 32) hx hb dX2_placeOf_27 (by decide) (fun c5 => ?_) (fun c5 => ?_)
        · replace hF := oi_f c5 hF
          refine lv_iinc (v := x3 + 1) (lv' := [(3, .int (x3 + 1)), (0, .ref q_), (1, .int x1), (2, .int x2)]) hx hb dX2_placeOf_32 hl (k := 3) rfl rfl (by decide) rfl (fun ls hl => ?_)
          refine lv_goto (tgt := 2) hx hb dX2_placeOf_35 (by decide) ?_
          exact ih (x3 + 1) H locs ls hF hw (lv_sub hl [1, 2, 3, 0] rfl)
        · replace hF := oi_t c5 hF
          refine lv_iload_n hx hb dX2_placeOf_30 rfl (lv_at hl 3 rfl) ?_
          obtain rfl := Option.some.inj hF
          exact rt_i hret hw rfl dX2_placeOf_31
set_option maxRecDepth 20000 in
theorem CX2_placeOf (l : Launch) (D : va_G) (C : Nat → ClassId) (q_ q_owed q_order : Nat) (u_size : Int32) (u_owed : (Nat → Int32)) (u_order : (Nat → Int32)) (x1 : Int32) (x2 : Int32) (z : Int32) (hF : fX2_placeOf u_size u_owed u_order x1 x2 = some z) : Ct l yX2_placeOf cX2_placeOf 4 (some .int) 4 D C [.ref q_, .int x1, .int x2] [(q_, .inr (2, [.ref q_owed, .ref q_order, .int u_size])), (q_owed, .inl (C 0, 36, .inl u_owed)), (q_order, .inl (C 0, 36, .inl u_order))] [(q_, .inr (2, [.ref q_owed, .ref q_order, .int u_size])), (q_owed, .inl (C 0, 36, .inl u_owed)), (q_order, .inl (C 0, 36, .inl u_order))] (some (.int z)) := by
  refine Ct_of (by decide) (Nat.le_of_ble_eq_true rfl) ?_
  intro p e R s m args below meth c A Q H locs ls cx hw hl hret
  have cx : CX p m c s args RX2 cX2_placeOf 4 D C A R 4 := cx
  have hx := cx.1
  have hb := cx.2.1
  have hl : lv_has ls 4 [(0, .ref q_), (1, .int x1), (2, .int x2)] := hl
  rw [fX2_placeOf.eq_1] at hF
  refine lv_iconst (v := 0) hx hb dX2_placeOf_0 (by decide) ?_
  refine lv_istore_n (lv' := [(3, .int 0), (0, .ref q_), (1, .int x1), (2, .int x2)]) hx hb dX2_placeOf_1 rfl hl (by decide) rfl (fun ls hl => ?_)
  refine LX2_placeOf_2 cx hret 400 0 H locs ls hF hw (lv_sub hl [1, 2, 3, 0] rfl)
theorem dX2_total_0 : decode cX2_total 0 = .ok (.iconst 0, 1) := by decide +kernel
theorem dX2_total_1 : decode cX2_total 1 = .ok (.istore_n 1, 1) := by decide +kernel
theorem dX2_total_2 : decode cX2_total 2 = .ok (.iconst 0, 1) := by decide +kernel
theorem dX2_total_3 : decode cX2_total 3 = .ok (.istore_n 2, 1) := by decide +kernel
theorem dX2_total_4 : decode cX2_total 4 = .ok (.iload_n 2, 1) := by decide +kernel
theorem dX2_total_5 : decode cX2_total 5 = .ok (.bipush 36, 2) := by decide +kernel
theorem dX2_total_7 : decode cX2_total 7 = .ok (.if_icmp .ge 18, 3) := by decide +kernel
theorem dX2_total_10 : decode cX2_total 10 = .ok (.iload_n 1, 1) := by decide +kernel
theorem dX2_total_11 : decode cX2_total 11 = .ok (.aload_n 0, 1) := by decide +kernel
theorem dX2_total_12 : decode cX2_total 12 = .ok (.getfield 9, 3) := by decide +kernel
theorem dX2_total_15 : decode cX2_total 15 = .ok (.iload_n 2, 1) := by decide +kernel
theorem dX2_total_16 : decode cX2_total 16 = .ok (.iaload, 1) := by decide +kernel
theorem dX2_total_17 : decode cX2_total 17 = .ok (.iadd, 1) := by decide +kernel
theorem dX2_total_18 : decode cX2_total 18 = .ok (.istore_n 1, 1) := by decide +kernel
theorem dX2_total_19 : decode cX2_total 19 = .ok (.iinc 2 1, 3) := by decide +kernel
theorem dX2_total_22 : decode cX2_total 22 = .ok (.goto (-18), 3) := by decide +kernel
theorem dX2_total_25 : decode cX2_total 25 = .ok (.iload_n 1, 1) := by decide +kernel
theorem dX2_total_26 : decode cX2_total 26 = .ok (.ireturn, 1) := by decide +kernel
def fX2_total_L4 (u_owed : (Nat → Int32)) : Nat → Int32 → Int32 → Option Int32
  | 0, _, _ => none
  | n + 1, x1, x2 => if 36 ≤ x2 then (some x1) else (gA x2 36 (fX2_total_L4 u_owed n (x1 + (u_owed (x2).toNatClampNeg)) (x2 + 1)))
def fX2_total (u_owed : (Nat → Int32)) : Option Int32 := fX2_total_L4 u_owed 400 0 0
set_option maxRecDepth 20000 in
theorem LX2_total_4 {p : Program} {l : Launch} {e : Env} {R : Room} {s : State} {m : MethodId} {args : Array Value} {below : List Frame} {meth : Method} {c : Code} {Q : State → Prop} {D : va_G} {C : Nat → ClassId} {A : Nat → Prop} (cx : CX p m c s args RX2 cX2_total 3 D C A R 1) {q_ q_owed q_order : Nat} {u_size : Int32} {u_owed : (Nat → Int32)} {z : Int32} (hret : RT p l e R s m args below meth c Q D A cX2_total (some .int) [(q_, .inr (2, [.ref q_owed, .ref q_order, .int u_size])), (q_owed, .inl (C 0, 36, .inl u_owed))] (some (.int z))) :
    ∀ (n : Nat) (x1 : Int32) (x2 : Int32) (H : Heap) (locs : List Loc) (ls : Array Slot), fX2_total_L4 u_owed n x1 x2 = some z → HW D A s.heap H locs [(q_, .inr (2, [.ref q_owed, .ref q_order, .int u_size])), (q_owed, .inl (C 0, 36, .inl u_owed))] → lv_has ls 3 [(0, .ref q_), (1, .int x1), (2, .int x2)] → W p l e R s m args below meth c H locs 0 0 Q (F0 m 4 ls []) := by
  have hx := cx.1
  have hb := cx.2.1
  intro n
  induction n with
  | zero => intro x1 x2 H locs ls hF; cases hF
  | succ n ih =>
    intro x1 x2 H locs ls hF hw hl
    rw [fX2_total_L4.eq_2] at hF
    refine lv_iload_n hx hb dX2_total_4 rfl (lv_at hl 2 rfl) ?_
    refine lv_bipush (v := 36) hx hb dX2_total_5 (by decide) ?_
    refine lv_icmp_ge (tgt := 25) hx hb dX2_total_7 (by decide) (fun c1 => ?_) (fun c1 => ?_)
    · replace hF := oi_t c1 hF
      refine lv_iload_n hx hb dX2_total_25 rfl (lv_at hl 1 rfl) ?_
      obtain rfl := Option.some.inj hF
      exact rt_i hret hw rfl dX2_total_26
    · replace hF := oi_f c1 hF
      refine lv_iload_n hx hb dX2_total_10 rfl (lv_at hl 1 rfl) ?_
      refine lv_aload_n hx hb dX2_total_11 rfl (lv_at hl 0 rfl) ?_
      refine r_get (ci := 2) (v := .ref q_owed) cx hw iX2 0 0 rfl rfl (by decide) wf_X2_9 rfl dX2_total_12 ?_
      refine lv_iload_n hx hb dX2_total_15 rfl (lv_at hl 2 rfl) ?_
      obtain ⟨g2, hF⟩ := gA_s hF
      refine r_iald cx hw 1 rfl g2 dX2_total_16 ?_
      refine lv_iadd hx hb dX2_total_17 ?_
      refine lv_istore_n (lv' := [(1, .int (x1 + (u_owed (x2).toNatClampNeg))), (0, .ref q_), (2, .int x2)]) hx hb dX2_total_18 rfl hl (by decide) rfl (fun ls hl => ?_)
      refine lv_iinc (v := x2 + 1) (lv' := [(2, .int (x2 + 1)), (1, .int (x1 + (u_owed (x2).toNatClampNeg))), (0, .ref q_)]) hx hb dX2_total_19 hl (k := 2) rfl rfl (by decide) rfl (fun ls hl => ?_)
      refine lv_goto (tgt := 4) hx hb dX2_total_22 (by decide) ?_
      exact ih (x1 + (u_owed (x2).toNatClampNeg)) (x2 + 1) H locs ls hF hw (lv_sub hl [2, 1, 0] rfl)
set_option maxRecDepth 20000 in
theorem CX2_total (l : Launch) (D : va_G) (C : Nat → ClassId) (q_ q_owed q_order : Nat) (u_size : Int32) (u_owed : (Nat → Int32)) (z : Int32) (hF : fX2_total u_owed = some z) : Ct l yX2_total cX2_total 3 (some .int) 1 D C [.ref q_] [(q_, .inr (2, [.ref q_owed, .ref q_order, .int u_size])), (q_owed, .inl (C 0, 36, .inl u_owed))] [(q_, .inr (2, [.ref q_owed, .ref q_order, .int u_size])), (q_owed, .inl (C 0, 36, .inl u_owed))] (some (.int z)) := by
  refine Ct_of (by decide) (Nat.le_of_ble_eq_true rfl) ?_
  intro p e R s m args below meth c A Q H locs ls cx hw hl hret
  have cx : CX p m c s args RX2 cX2_total 3 D C A R 1 := cx
  have hx := cx.1
  have hb := cx.2.1
  have hl : lv_has ls 3 [(0, .ref q_)] := hl
  rw [fX2_total.eq_1] at hF
  refine lv_iconst (v := 0) hx hb dX2_total_0 (by decide) ?_
  refine lv_istore_n (lv' := [(1, .int 0), (0, .ref q_)]) hx hb dX2_total_1 rfl hl (by decide) rfl (fun ls hl => ?_)
  refine lv_iconst (v := 0) hx hb dX2_total_2 (by decide) ?_
  refine lv_istore_n (lv' := [(2, .int 0), (1, .int 0), (0, .ref q_)]) hx hb dX2_total_3 rfl hl (by decide) rfl (fun ls hl => ?_)
  refine LX2_total_4 cx hret 400 0 0 H locs ls hF hw (lv_sub hl [2, 1, 0] rfl)
theorem dX2_clear_0 : decode cX2_clear 0 = .ok (.iconst 0, 1) := by decide +kernel
theorem dX2_clear_1 : decode cX2_clear 1 = .ok (.istore_n 1, 1) := by decide +kernel
theorem dX2_clear_2 : decode cX2_clear 2 = .ok (.iload_n 1, 1) := by decide +kernel
theorem dX2_clear_3 : decode cX2_clear 3 = .ok (.bipush 36, 2) := by decide +kernel
theorem dX2_clear_5 : decode cX2_clear 5 = .ok (.if_icmp .ge 16, 3) := by decide +kernel
theorem dX2_clear_8 : decode cX2_clear 8 = .ok (.aload_n 0, 1) := by decide +kernel
theorem dX2_clear_9 : decode cX2_clear 9 = .ok (.getfield 9, 3) := by decide +kernel
theorem dX2_clear_12 : decode cX2_clear 12 = .ok (.iload_n 1, 1) := by decide +kernel
theorem dX2_clear_13 : decode cX2_clear 13 = .ok (.iconst 0, 1) := by decide +kernel
theorem dX2_clear_14 : decode cX2_clear 14 = .ok (.iastore, 1) := by decide +kernel
theorem dX2_clear_15 : decode cX2_clear 15 = .ok (.iinc 1 1, 3) := by decide +kernel
theorem dX2_clear_18 : decode cX2_clear 18 = .ok (.goto (-16), 3) := by decide +kernel
theorem dX2_clear_21 : decode cX2_clear 21 = .ok (.aload_n 0, 1) := by decide +kernel
theorem dX2_clear_22 : decode cX2_clear 22 = .ok (.iconst 0, 1) := by decide +kernel
theorem dX2_clear_23 : decode cX2_clear 23 = .ok (.putfield 18, 3) := by decide +kernel
theorem dX2_clear_26 : decode cX2_clear 26 = .ok (.return_, 1) := by decide +kernel
def fX2_clear_L2 (k21 : (Nat → Int32) → Option (Int32 × (Nat → Int32))) : Nat → Int32 → (Nat → Int32) → Option (Int32 × (Nat → Int32))
  | 0, _, _ => none
  | n + 1, x1, u_owed => if 36 ≤ x1 then (k21 u_owed) else (gA x1 36 (fX2_clear_L2 k21 n (x1 + 1) (upd u_owed (x1 : Int32).toNatClampNeg 0)))
def fX2_clear (u_owed : (Nat → Int32)) : Option (Int32 × (Nat → Int32)) := fX2_clear_L2 (fun (u_owed_3 : (Nat → Int32)) => some (0, u_owed_3)) 400 0 u_owed
set_option maxRecDepth 20000 in
theorem LX2_clear_2 {p : Program} {l : Launch} {e : Env} {R : Room} {s : State} {m : MethodId} {args : Array Value} {below : List Frame} {meth : Method} {c : Code} {Q : State → Prop} {D : va_G} {C : Nat → ClassId} {A : Nat → Prop} (cx : CX p m c s args RX2 cX2_clear 2 D C A R 1) {q_ q_owed q_order : Nat} {u_size : Int32} {z : (Int32 × (Nat → Int32))} (hret : RT p l e R s m args below meth c Q D A cX2_clear none [(q_, .inr (2, [.ref q_owed, .ref q_order, .int z.1])), (q_owed, .inl (C 0, 36, .inl z.2))] none) {k21 : (Nat → Int32) → Option (Int32 × (Nat → Int32))} (hk21 : ∀ (u_owed : (Nat → Int32)) (H : Heap) (locs : List Loc) (ls : Array Slot), k21 u_owed = some z → HW D A s.heap H locs [(q_, .inr (2, [.ref q_owed, .ref q_order, .int u_size])), (q_owed, .inl (C 0, 36, .inl u_owed))] → lv_has ls 2 [(0, .ref q_)] → W p l e R s m args below meth c H locs 0 0 Q (F0 m 21 ls [])) :
    ∀ (n : Nat) (x1 : Int32) (u_owed : (Nat → Int32)) (H : Heap) (locs : List Loc) (ls : Array Slot), fX2_clear_L2 k21 n x1 u_owed = some z → HW D A s.heap H locs [(q_, .inr (2, [.ref q_owed, .ref q_order, .int u_size])), (q_owed, .inl (C 0, 36, .inl u_owed))] → lv_has ls 2 [(0, .ref q_), (1, .int x1)] → W p l e R s m args below meth c H locs 0 0 Q (F0 m 2 ls []) := by
  have hx := cx.1
  have hb := cx.2.1
  intro n
  induction n with
  | zero => intro x1 u_owed H locs ls hF; cases hF
  | succ n ih =>
    intro x1 u_owed H locs ls hF hw hl
    rw [fX2_clear_L2.eq_2] at hF
    refine lv_iload_n hx hb dX2_clear_2 rfl (lv_at hl 1 rfl) ?_
    refine lv_bipush (v := 36) hx hb dX2_clear_3 (by decide) ?_
    refine lv_icmp_ge (tgt := 21) hx hb dX2_clear_5 (by decide) (fun c1 => ?_) (fun c1 => ?_)
    · replace hF := oi_t c1 hF
      exact hk21 u_owed H locs ls hF hw (lv_sub hl [0] rfl)
    · replace hF := oi_f c1 hF
      refine lv_aload_n hx hb dX2_clear_8 rfl (lv_at hl 0 rfl) ?_
      refine r_get (ci := 2) (v := .ref q_owed) cx hw iX2 0 0 rfl rfl (by decide) wf_X2_9 rfl dX2_clear_9 ?_
      refine lv_iload_n hx hb dX2_clear_12 rfl (lv_at hl 1 rfl) ?_
      refine lv_iconst (v := 0) hx hb dX2_clear_13 (by decide) ?_
      obtain ⟨g2, hF⟩ := gA_s hF
      refine r_iast (w2 := [(q_, .inr (2, [.ref q_owed, .ref q_order, .int u_size])), (q_owed, .inl (C 0, 36, .inl (upd u_owed (x1 : Int32).toNatClampNeg 0)))]) cx hw 1 rfl g2 dX2_clear_14 rfl (fun H locs hw => ?_)
      refine lv_iinc (v := x1 + 1) (lv' := [(1, .int (x1 + 1)), (0, .ref q_)]) hx hb dX2_clear_15 hl (k := 1) rfl rfl (by decide) rfl (fun ls hl => ?_)
      refine lv_goto (tgt := 2) hx hb dX2_clear_18 (by decide) ?_
      exact ih (x1 + 1) (upd u_owed (x1 : Int32).toNatClampNeg 0) H locs ls hF hw (lv_sub hl [1, 0] rfl)
set_option maxRecDepth 20000 in
theorem CX2_clear (l : Launch) (D : va_G) (C : Nat → ClassId) (q_ q_owed q_order : Nat) (u_size : Int32) (u_owed : (Nat → Int32)) (z : (Int32 × (Nat → Int32))) (hF : fX2_clear u_owed = some z) : Ct l yX2_clear cX2_clear 2 none 1 D C [.ref q_] [(q_, .inr (2, [.ref q_owed, .ref q_order, .int u_size])), (q_owed, .inl (C 0, 36, .inl u_owed))] [(q_, .inr (2, [.ref q_owed, .ref q_order, .int z.1])), (q_owed, .inl (C 0, 36, .inl z.2))] none := by
  refine Ct_of (by decide) (Nat.le_of_ble_eq_true rfl) ?_
  intro p e R s m args below meth c A Q H locs ls cx hw hl hret
  have cx : CX p m c s args RX2 cX2_clear 2 D C A R 1 := cx
  have hx := cx.1
  have hb := cx.2.1
  have hl : lv_has ls 2 [(0, .ref q_)] := hl
  rw [fX2_clear.eq_1] at hF
  refine lv_iconst (v := 0) hx hb dX2_clear_0 (by decide) ?_
  refine lv_istore_n (lv' := [(1, .int 0), (0, .ref q_)]) hx hb dX2_clear_1 rfl hl (by decide) rfl (fun ls hl => ?_)
  refine LX2_clear_2 cx hret (fun u_owed_3 H locs ls hF hw hl => ?_) 400 0 u_owed H locs ls hF hw (lv_sub hl [1, 0] rfl)
  · refine lv_aload_n hx hb dX2_clear_21 rfl (lv_at hl 0 rfl) ?_
    refine lv_iconst (v := 0) hx hb dX2_clear_22 (by decide) ?_
    refine r_put (ci := 2) (w2 := [(q_, .inr (2, [.ref q_owed, .ref q_order, .int 0])), (q_owed, .inl (C 0, 36, .inl u_owed_3))]) cx hw iX2 tyX2_ok nmX2 0 2 rfl rfl (by decide) wf_X2_18 rfl rfl rfl rfl (Nat.le_of_ble_eq_true rfl) dX2_clear_23 rfl (fun H locs hw => ?_)
    obtain rfl := Option.some.inj hF
    exact rt_v hret hw rfl dX2_clear_26
theorem lk_X2_40 : Cond.methodLink RX2 40 yX2_put ∈ gdt := gdt_of 668 (by decide +kernel) (by decide +kernel)
theorem my_X2_put : (yX2_put.cls ≠ "java/lang/invoke/MethodHandle" ∧ yX2_put.cls ≠ "java/lang/invoke/VarHandle") ∧ Cond.instanceMethod yX2_put ∈ gdt ∧ Cond.selects yX2_put.cls yX2_put yX2_put ∈ gdt ∧ Cond.initialized yX2_put.cls ∈ gdt ∧ Cond.code yX2_put cX2_put 5 none ∈ gdt := ⟨⟨by decide +kernel, by decide +kernel⟩, gdt_of 312 (by decide +kernel) (by decide +kernel), gdt_of 313 (by decide +kernel) (by decide +kernel), gdt_of 69 (by decide +kernel) (by decide +kernel), gdt_of 314 (by decide +kernel) (by decide +kernel)⟩
theorem ml_X2_put : (parseMethodDescriptor yX2_put.desc).map (fun d => d.parameters.length) = some 3 := by decide +kernel
theorem dX2_clearOwedBy_0 : decode cX2_clearOwedBy 0 = .ok (.iconst 0, 1) := by decide +kernel
theorem dX2_clearOwedBy_1 : decode cX2_clearOwedBy 1 = .ok (.istore_n 2, 1) := by decide +kernel
theorem dX2_clearOwedBy_2 : decode cX2_clearOwedBy 2 = .ok (.iload_n 2, 1) := by decide +kernel
theorem dX2_clearOwedBy_3 : decode cX2_clearOwedBy 3 = .ok (.bipush 6, 2) := by decide +kernel
theorem dX2_clearOwedBy_5 : decode cX2_clearOwedBy 5 = .ok (.if_icmp .ge 16, 3) := by decide +kernel
theorem dX2_clearOwedBy_8 : decode cX2_clearOwedBy 8 = .ok (.aload_n 0, 1) := by decide +kernel
theorem dX2_clearOwedBy_9 : decode cX2_clearOwedBy 9 = .ok (.iload_n 1, 1) := by decide +kernel
theorem dX2_clearOwedBy_10 : decode cX2_clearOwedBy 10 = .ok (.iload_n 2, 1) := by decide +kernel
theorem dX2_clearOwedBy_11 : decode cX2_clearOwedBy 11 = .ok (.iconst 0, 1) := by decide +kernel
theorem dX2_clearOwedBy_12 : decode cX2_clearOwedBy 12 = .ok (.invokevirtual 40, 3) := by decide +kernel
theorem dX2_clearOwedBy_15 : decode cX2_clearOwedBy 15 = .ok (.iinc 2 1, 3) := by decide +kernel
theorem dX2_clearOwedBy_18 : decode cX2_clearOwedBy 18 = .ok (.goto (-16), 3) := by decide +kernel
theorem dX2_clearOwedBy_21 : decode cX2_clearOwedBy 21 = .ok (.return_, 1) := by decide +kernel
def fX2_clearOwedBy_L2 (x1 : Int32) : Nat → Int32 → Int32 → (Nat → Int32) → (Nat → Int32) → Option (Int32 × (Nat → Int32) × (Nat → Int32))
  | 0, _, _, _, _ => none
  | n + 1, x2, u_size, u_owed, u_order => if 6 ≤ x2 then (some (u_size, u_owed, u_order)) else ((fX2_put u_size u_owed u_order x1 x2 0).bind (fun z2 => fX2_clearOwedBy_L2 x1 n (x2 + 1) z2.1 z2.2.1 z2.2.2))
def fX2_clearOwedBy (u_size : Int32) (u_owed : (Nat → Int32)) (u_order : (Nat → Int32)) (x1 : Int32) : Option (Int32 × (Nat → Int32) × (Nat → Int32)) := fX2_clearOwedBy_L2 x1 400 0 u_size u_owed u_order
set_option maxRecDepth 20000 in
theorem LX2_clearOwedBy_2 {p : Program} {l : Launch} {e : Env} {R : Room} {s : State} {m : MethodId} {args : Array Value} {below : List Frame} {meth : Method} {c : Code} {Q : State → Prop} {D : va_G} {C : Nat → ClassId} {A : Nat → Prop} (cx : CX p m c s args RX2 cX2_clearOwedBy 3 D C A R 3) {q_ q_owed q_order : Nat} {x1 : Int32} {z : (Int32 × (Nat → Int32) × (Nat → Int32))} (hret : RT p l e R s m args below meth c Q D A cX2_clearOwedBy none [(q_, .inr (2, [.ref q_owed, .ref q_order, .int z.1])), (q_owed, .inl (C 0, 36, .inl z.2.1)), (q_order, .inl (C 0, 36, .inl z.2.2))] none) :
    ∀ (n : Nat) (x2 : Int32) (u_size : Int32) (u_owed : (Nat → Int32)) (u_order : (Nat → Int32)) (H : Heap) (locs : List Loc) (ls : Array Slot), fX2_clearOwedBy_L2 x1 n x2 u_size u_owed u_order = some z → HW D A s.heap H locs [(q_, .inr (2, [.ref q_owed, .ref q_order, .int u_size])), (q_owed, .inl (C 0, 36, .inl u_owed)), (q_order, .inl (C 0, 36, .inl u_order))] → lv_has ls 3 [(0, .ref q_), (1, .int x1), (2, .int x2)] → W p l e R s m args below meth c H locs 0 0 Q (F0 m 2 ls []) := by
  have hx := cx.1
  have hb := cx.2.1
  intro n
  induction n with
  | zero => intro x2 u_size u_owed u_order H locs ls hF; cases hF
  | succ n ih =>
    intro x2 u_size u_owed u_order H locs ls hF hw hl
    rw [fX2_clearOwedBy_L2.eq_2] at hF
    refine lv_iload_n hx hb dX2_clearOwedBy_2 rfl (lv_at hl 2 rfl) ?_
    refine lv_bipush (v := 6) hx hb dX2_clearOwedBy_3 (by decide) ?_
    refine lv_icmp_ge (tgt := 21) hx hb dX2_clearOwedBy_5 (by decide) (fun c1 => ?_) (fun c1 => ?_)
    · replace hF := oi_t c1 hF
      obtain rfl := Option.some.inj hF
      exact rt_v hret hw rfl dX2_clearOwedBy_21
    · replace hF := oi_f c1 hF
      refine lv_aload_n hx hb dX2_clearOwedBy_8 rfl (lv_at hl 0 rfl) ?_
      refine lv_iload_n hx hb dX2_clearOwedBy_9 rfl (lv_at hl 1 rfl) ?_
      refine lv_iload_n hx hb dX2_clearOwedBy_10 rfl (lv_at hl 2 rfl) ?_
      refine lv_iconst (v := 0) hx hb dX2_clearOwedBy_11 (by decide) ?_
      obtain ⟨z2, hz2, hF⟩ := ob hF
      refine cV (wr := []) (w2 := [(q_, .inr (2, [.ref q_owed, .ref q_order, .int z2.1])), (q_owed, .inl (C 0, 36, .inl z2.2.1)), (q_order, .inl (C 0, 36, .inl z2.2.2))]) (st2 := []) cx (CX2_put l D C q_ q_owed q_order u_size u_owed u_order x1 x2 0 z2 hz2) lk_X2_40 my_X2_put ml_X2_put ⟨by decide, by decide⟩ hw [0, 1, 2] [] [0, 1, 2] rfl rfl (by decide) rfl rfl rfl rfl (Nat.le_of_ble_eq_true rfl) dX2_clearOwedBy_12 rfl (fun H locs hw => ?_) hl.1
      refine lv_iinc (v := x2 + 1) (lv' := [(2, .int (x2 + 1)), (0, .ref q_), (1, .int x1)]) hx hb dX2_clearOwedBy_15 hl (k := 2) rfl rfl (by decide) rfl (fun ls hl => ?_)
      refine lv_goto (tgt := 2) hx hb dX2_clearOwedBy_18 (by decide) ?_
      exact ih (x2 + 1) z2.1 z2.2.1 z2.2.2 H locs ls hF hw (lv_sub hl [1, 2, 0] rfl)
set_option maxRecDepth 20000 in
theorem CX2_clearOwedBy (l : Launch) (D : va_G) (C : Nat → ClassId) (q_ q_owed q_order : Nat) (u_size : Int32) (u_owed : (Nat → Int32)) (u_order : (Nat → Int32)) (x1 : Int32) (z : (Int32 × (Nat → Int32) × (Nat → Int32))) (hF : fX2_clearOwedBy u_size u_owed u_order x1 = some z) : Ct l yX2_clearOwedBy cX2_clearOwedBy 3 none 3 D C [.ref q_, .int x1] [(q_, .inr (2, [.ref q_owed, .ref q_order, .int u_size])), (q_owed, .inl (C 0, 36, .inl u_owed)), (q_order, .inl (C 0, 36, .inl u_order))] [(q_, .inr (2, [.ref q_owed, .ref q_order, .int z.1])), (q_owed, .inl (C 0, 36, .inl z.2.1)), (q_order, .inl (C 0, 36, .inl z.2.2))] none := by
  refine Ct_of (by decide) (Nat.le_of_ble_eq_true rfl) ?_
  intro p e R s m args below meth c A Q H locs ls cx hw hl hret
  have cx : CX p m c s args RX2 cX2_clearOwedBy 3 D C A R 3 := cx
  have hx := cx.1
  have hb := cx.2.1
  have hl : lv_has ls 3 [(0, .ref q_), (1, .int x1)] := hl
  rw [fX2_clearOwedBy.eq_1] at hF
  refine lv_iconst (v := 0) hx hb dX2_clearOwedBy_0 (by decide) ?_
  refine lv_istore_n (lv' := [(2, .int 0), (0, .ref q_), (1, .int x1)]) hx hb dX2_clearOwedBy_1 rfl hl (by decide) rfl (fun ls hl => ?_)
  refine LX2_clearOwedBy_2 cx hret 400 0 u_size u_owed u_order H locs ls hF hw (lv_sub hl [1, 2, 0] rfl)
theorem dX2_clearOwedTo_0 : decode cX2_clearOwedTo 0 = .ok (.iconst 0, 1) := by decide +kernel
theorem dX2_clearOwedTo_1 : decode cX2_clearOwedTo 1 = .ok (.istore_n 2, 1) := by decide +kernel
theorem dX2_clearOwedTo_2 : decode cX2_clearOwedTo 2 = .ok (.iload_n 2, 1) := by decide +kernel
theorem dX2_clearOwedTo_3 : decode cX2_clearOwedTo 3 = .ok (.bipush 6, 2) := by decide +kernel
theorem dX2_clearOwedTo_5 : decode cX2_clearOwedTo 5 = .ok (.if_icmp .ge 16, 3) := by decide +kernel
theorem dX2_clearOwedTo_8 : decode cX2_clearOwedTo 8 = .ok (.aload_n 0, 1) := by decide +kernel
theorem dX2_clearOwedTo_9 : decode cX2_clearOwedTo 9 = .ok (.iload_n 2, 1) := by decide +kernel
theorem dX2_clearOwedTo_10 : decode cX2_clearOwedTo 10 = .ok (.iload_n 1, 1) := by decide +kernel
theorem dX2_clearOwedTo_11 : decode cX2_clearOwedTo 11 = .ok (.iconst 0, 1) := by decide +kernel
theorem dX2_clearOwedTo_12 : decode cX2_clearOwedTo 12 = .ok (.invokevirtual 40, 3) := by decide +kernel
theorem dX2_clearOwedTo_15 : decode cX2_clearOwedTo 15 = .ok (.iinc 2 1, 3) := by decide +kernel
theorem dX2_clearOwedTo_18 : decode cX2_clearOwedTo 18 = .ok (.goto (-16), 3) := by decide +kernel
theorem dX2_clearOwedTo_21 : decode cX2_clearOwedTo 21 = .ok (.return_, 1) := by decide +kernel
def fX2_clearOwedTo_L2 (x1 : Int32) : Nat → Int32 → Int32 → (Nat → Int32) → (Nat → Int32) → Option (Int32 × (Nat → Int32) × (Nat → Int32))
  | 0, _, _, _, _ => none
  | n + 1, x2, u_size, u_owed, u_order => if 6 ≤ x2 then (some (u_size, u_owed, u_order)) else ((fX2_put u_size u_owed u_order x2 x1 0).bind (fun z2 => fX2_clearOwedTo_L2 x1 n (x2 + 1) z2.1 z2.2.1 z2.2.2))
def fX2_clearOwedTo (u_size : Int32) (u_owed : (Nat → Int32)) (u_order : (Nat → Int32)) (x1 : Int32) : Option (Int32 × (Nat → Int32) × (Nat → Int32)) := fX2_clearOwedTo_L2 x1 400 0 u_size u_owed u_order
set_option maxRecDepth 20000 in
theorem LX2_clearOwedTo_2 {p : Program} {l : Launch} {e : Env} {R : Room} {s : State} {m : MethodId} {args : Array Value} {below : List Frame} {meth : Method} {c : Code} {Q : State → Prop} {D : va_G} {C : Nat → ClassId} {A : Nat → Prop} (cx : CX p m c s args RX2 cX2_clearOwedTo 3 D C A R 3) {q_ q_owed q_order : Nat} {x1 : Int32} {z : (Int32 × (Nat → Int32) × (Nat → Int32))} (hret : RT p l e R s m args below meth c Q D A cX2_clearOwedTo none [(q_, .inr (2, [.ref q_owed, .ref q_order, .int z.1])), (q_owed, .inl (C 0, 36, .inl z.2.1)), (q_order, .inl (C 0, 36, .inl z.2.2))] none) :
    ∀ (n : Nat) (x2 : Int32) (u_size : Int32) (u_owed : (Nat → Int32)) (u_order : (Nat → Int32)) (H : Heap) (locs : List Loc) (ls : Array Slot), fX2_clearOwedTo_L2 x1 n x2 u_size u_owed u_order = some z → HW D A s.heap H locs [(q_, .inr (2, [.ref q_owed, .ref q_order, .int u_size])), (q_owed, .inl (C 0, 36, .inl u_owed)), (q_order, .inl (C 0, 36, .inl u_order))] → lv_has ls 3 [(0, .ref q_), (1, .int x1), (2, .int x2)] → W p l e R s m args below meth c H locs 0 0 Q (F0 m 2 ls []) := by
  have hx := cx.1
  have hb := cx.2.1
  intro n
  induction n with
  | zero => intro x2 u_size u_owed u_order H locs ls hF; cases hF
  | succ n ih =>
    intro x2 u_size u_owed u_order H locs ls hF hw hl
    rw [fX2_clearOwedTo_L2.eq_2] at hF
    refine lv_iload_n hx hb dX2_clearOwedTo_2 rfl (lv_at hl 2 rfl) ?_
    refine lv_bipush (v := 6) hx hb dX2_clearOwedTo_3 (by decide) ?_
    refine lv_icmp_ge (tgt := 21) hx hb dX2_clearOwedTo_5 (by decide) (fun c1 => ?_) (fun c1 => ?_)
    · replace hF := oi_t c1 hF
      obtain rfl := Option.some.inj hF
      exact rt_v hret hw rfl dX2_clearOwedTo_21
    · replace hF := oi_f c1 hF
      refine lv_aload_n hx hb dX2_clearOwedTo_8 rfl (lv_at hl 0 rfl) ?_
      refine lv_iload_n hx hb dX2_clearOwedTo_9 rfl (lv_at hl 2 rfl) ?_
      refine lv_iload_n hx hb dX2_clearOwedTo_10 rfl (lv_at hl 1 rfl) ?_
      refine lv_iconst (v := 0) hx hb dX2_clearOwedTo_11 (by decide) ?_
      obtain ⟨z2, hz2, hF⟩ := ob hF
      refine cV (wr := []) (w2 := [(q_, .inr (2, [.ref q_owed, .ref q_order, .int z2.1])), (q_owed, .inl (C 0, 36, .inl z2.2.1)), (q_order, .inl (C 0, 36, .inl z2.2.2))]) (st2 := []) cx (CX2_put l D C q_ q_owed q_order u_size u_owed u_order x2 x1 0 z2 hz2) lk_X2_40 my_X2_put ml_X2_put ⟨by decide, by decide⟩ hw [0, 1, 2] [] [0, 1, 2] rfl rfl (by decide) rfl rfl rfl rfl (Nat.le_of_ble_eq_true rfl) dX2_clearOwedTo_12 rfl (fun H locs hw => ?_) hl.1
      refine lv_iinc (v := x2 + 1) (lv' := [(2, .int (x2 + 1)), (0, .ref q_), (1, .int x1)]) hx hb dX2_clearOwedTo_15 hl (k := 2) rfl rfl (by decide) rfl (fun ls hl => ?_)
      refine lv_goto (tgt := 2) hx hb dX2_clearOwedTo_18 (by decide) ?_
      exact ih (x2 + 1) z2.1 z2.2.1 z2.2.2 H locs ls hF hw (lv_sub hl [1, 2, 0] rfl)
set_option maxRecDepth 20000 in
theorem CX2_clearOwedTo (l : Launch) (D : va_G) (C : Nat → ClassId) (q_ q_owed q_order : Nat) (u_size : Int32) (u_owed : (Nat → Int32)) (u_order : (Nat → Int32)) (x1 : Int32) (z : (Int32 × (Nat → Int32) × (Nat → Int32))) (hF : fX2_clearOwedTo u_size u_owed u_order x1 = some z) : Ct l yX2_clearOwedTo cX2_clearOwedTo 3 none 3 D C [.ref q_, .int x1] [(q_, .inr (2, [.ref q_owed, .ref q_order, .int u_size])), (q_owed, .inl (C 0, 36, .inl u_owed)), (q_order, .inl (C 0, 36, .inl u_order))] [(q_, .inr (2, [.ref q_owed, .ref q_order, .int z.1])), (q_owed, .inl (C 0, 36, .inl z.2.1)), (q_order, .inl (C 0, 36, .inl z.2.2))] none := by
  refine Ct_of (by decide) (Nat.le_of_ble_eq_true rfl) ?_
  intro p e R s m args below meth c A Q H locs ls cx hw hl hret
  have cx : CX p m c s args RX2 cX2_clearOwedTo 3 D C A R 3 := cx
  have hx := cx.1
  have hb := cx.2.1
  have hl : lv_has ls 3 [(0, .ref q_), (1, .int x1)] := hl
  rw [fX2_clearOwedTo.eq_1] at hF
  refine lv_iconst (v := 0) hx hb dX2_clearOwedTo_0 (by decide) ?_
  refine lv_istore_n (lv' := [(2, .int 0), (0, .ref q_), (1, .int x1)]) hx hb dX2_clearOwedTo_1 rfl hl (by decide) rfl (fun ls hl => ?_)
  refine LX2_clearOwedTo_2 cx hret 400 0 u_size u_owed u_order H locs ls hF hw (lv_sub hl [1, 2, 0] rfl)
theorem dX2_take_0 : decode cX2_take 0 = .ok (.iconst 0, 1) := by decide +kernel
theorem dX2_take_1 : decode cX2_take 1 = .ok (.istore_n 2, 1) := by decide +kernel
theorem dX2_take_2 : decode cX2_take 2 = .ok (.iload_n 2, 1) := by decide +kernel
theorem dX2_take_3 : decode cX2_take 3 = .ok (.bipush 36, 2) := by decide +kernel
theorem dX2_take_5 : decode cX2_take 5 = .ok (.if_icmp .ge 33, 3) := by decide +kernel
theorem dX2_take_8 : decode cX2_take 8 = .ok (.aload_n 0, 1) := by decide +kernel
theorem dX2_take_9 : decode cX2_take 9 = .ok (.getfield 9, 3) := by decide +kernel
theorem dX2_take_12 : decode cX2_take 12 = .ok (.iload_n 2, 1) := by decide +kernel
theorem dX2_take_13 : decode cX2_take 13 = .ok (.aload_n 1, 1) := by decide +kernel
theorem dX2_take_14 : decode cX2_take 14 = .ok (.getfield 9, 3) := by decide +kernel
theorem dX2_take_17 : decode cX2_take 17 = .ok (.iload_n 2, 1) := by decide +kernel
theorem dX2_take_18 : decode cX2_take 18 = .ok (.iaload, 1) := by decide +kernel
theorem dX2_take_19 : decode cX2_take 19 = .ok (.iastore, 1) := by decide +kernel
theorem dX2_take_20 : decode cX2_take 20 = .ok (.aload_n 0, 1) := by decide +kernel
theorem dX2_take_21 : decode cX2_take 21 = .ok (.getfield 15, 3) := by decide +kernel
theorem dX2_take_24 : decode cX2_take 24 = .ok (.iload_n 2, 1) := by decide +kernel
theorem dX2_take_25 : decode cX2_take 25 = .ok (.aload_n 1, 1) := by decide +kernel
theorem dX2_take_26 : decode cX2_take 26 = .ok (.getfield 15, 3) := by decide +kernel
theorem dX2_take_29 : decode cX2_take 29 = .ok (.iload_n 2, 1) := by decide +kernel
theorem dX2_take_30 : decode cX2_take 30 = .ok (.iaload, 1) := by decide +kernel
theorem dX2_take_31 : decode cX2_take 31 = .ok (.iastore, 1) := by decide +kernel
theorem dX2_take_32 : decode cX2_take 32 = .ok (.iinc 2 1, 3) := by decide +kernel
theorem dX2_take_35 : decode cX2_take 35 = .ok (.goto (-33), 3) := by decide +kernel
theorem dX2_take_38 : decode cX2_take 38 = .ok (.aload_n 0, 1) := by decide +kernel
theorem dX2_take_39 : decode cX2_take 39 = .ok (.aload_n 1, 1) := by decide +kernel
theorem dX2_take_40 : decode cX2_take 40 = .ok (.getfield 18, 3) := by decide +kernel
theorem dX2_take_43 : decode cX2_take 43 = .ok (.putfield 18, 3) := by decide +kernel
theorem dX2_take_46 : decode cX2_take 46 = .ok (.return_, 1) := by decide +kernel
def fX2_take_L2 (k38 : (Nat → Int32) → (Nat → Int32) → Option (Int32 × (Nat → Int32) × (Nat → Int32))) (ua1_owed : (Nat → Int32)) (ua1_order : (Nat → Int32)) : Nat → Int32 → (Nat → Int32) → (Nat → Int32) → Option (Int32 × (Nat → Int32) × (Nat → Int32))
  | 0, _, _, _ => none
  | n + 1, x2, u_owed, u_order => if 36 ≤ x2 then (k38 u_owed u_order) else (gA x2 36 (gA x2 36 (gA x2 36 (gA x2 36 (fX2_take_L2 k38 ua1_owed ua1_order n (x2 + 1) (upd u_owed (x2 : Int32).toNatClampNeg (ua1_owed (x2).toNatClampNeg)) (upd u_order (x2 : Int32).toNatClampNeg (ua1_order (x2).toNatClampNeg)))))))
def fX2_take (u_owed : (Nat → Int32)) (u_order : (Nat → Int32)) (ua1_size : Int32) (ua1_owed : (Nat → Int32)) (ua1_order : (Nat → Int32)) : Option (Int32 × (Nat → Int32) × (Nat → Int32)) := fX2_take_L2 (fun (u_owed_6 : (Nat → Int32)) (u_order_6 : (Nat → Int32)) => some (ua1_size, u_owed_6, u_order_6)) ua1_owed ua1_order 400 0 u_owed u_order
set_option maxRecDepth 20000 in
theorem LX2_take_2 {p : Program} {l : Launch} {e : Env} {R : Room} {s : State} {m : MethodId} {args : Array Value} {below : List Frame} {meth : Method} {c : Code} {Q : State → Prop} {D : va_G} {C : Nat → ClassId} {A : Nat → Prop} (cx : CX p m c s args RX2 cX2_take 3 D C A R 1) {q_ q_owed q_order qa1_ qa1_owed qa1_order : Nat} {u_size : Int32} {ua1_size : Int32} {ua1_owed : (Nat → Int32)} {ua1_order : (Nat → Int32)} {z : (Int32 × (Nat → Int32) × (Nat → Int32))} (hret : RT p l e R s m args below meth c Q D A cX2_take none [(q_, .inr (2, [.ref q_owed, .ref q_order, .int z.1])), (q_owed, .inl (C 0, 36, .inl z.2.1)), (q_order, .inl (C 0, 36, .inl z.2.2)), (qa1_, .inr (2, [.ref qa1_owed, .ref qa1_order, .int ua1_size])), (qa1_owed, .inl (C 0, 36, .inl ua1_owed)), (qa1_order, .inl (C 0, 36, .inl ua1_order))] none) {k38 : (Nat → Int32) → (Nat → Int32) → Option (Int32 × (Nat → Int32) × (Nat → Int32))} (hk38 : ∀ (u_owed : (Nat → Int32)) (u_order : (Nat → Int32)) (H : Heap) (locs : List Loc) (ls : Array Slot), k38 u_owed u_order = some z → HW D A s.heap H locs [(q_, .inr (2, [.ref q_owed, .ref q_order, .int u_size])), (q_owed, .inl (C 0, 36, .inl u_owed)), (q_order, .inl (C 0, 36, .inl u_order)), (qa1_, .inr (2, [.ref qa1_owed, .ref qa1_order, .int ua1_size])), (qa1_owed, .inl (C 0, 36, .inl ua1_owed)), (qa1_order, .inl (C 0, 36, .inl ua1_order))] → lv_has ls 3 [(0, .ref q_), (1, .ref qa1_)] → W p l e R s m args below meth c H locs 0 0 Q (F0 m 38 ls [])) :
    ∀ (n : Nat) (x2 : Int32) (u_owed : (Nat → Int32)) (u_order : (Nat → Int32)) (H : Heap) (locs : List Loc) (ls : Array Slot), fX2_take_L2 k38 ua1_owed ua1_order n x2 u_owed u_order = some z → HW D A s.heap H locs [(q_, .inr (2, [.ref q_owed, .ref q_order, .int u_size])), (q_owed, .inl (C 0, 36, .inl u_owed)), (q_order, .inl (C 0, 36, .inl u_order)), (qa1_, .inr (2, [.ref qa1_owed, .ref qa1_order, .int ua1_size])), (qa1_owed, .inl (C 0, 36, .inl ua1_owed)), (qa1_order, .inl (C 0, 36, .inl ua1_order))] → lv_has ls 3 [(0, .ref q_), (1, .ref qa1_), (2, .int x2)] → W p l e R s m args below meth c H locs 0 0 Q (F0 m 2 ls []) := by
  have hx := cx.1
  have hb := cx.2.1
  intro n
  induction n with
  | zero => intro x2 u_owed u_order H locs ls hF; cases hF
  | succ n ih =>
    intro x2 u_owed u_order H locs ls hF hw hl
    rw [fX2_take_L2.eq_2] at hF
    refine lv_iload_n hx hb dX2_take_2 rfl (lv_at hl 2 rfl) ?_
    refine lv_bipush (v := 36) hx hb dX2_take_3 (by decide) ?_
    refine lv_icmp_ge (tgt := 38) hx hb dX2_take_5 (by decide) (fun c1 => ?_) (fun c1 => ?_)
    · replace hF := oi_t c1 hF
      exact hk38 u_owed u_order H locs ls hF hw (lv_sub hl [0, 1] rfl)
    · replace hF := oi_f c1 hF
      refine lv_aload_n hx hb dX2_take_8 rfl (lv_at hl 0 rfl) ?_
      refine r_get (ci := 2) (v := .ref q_owed) cx hw iX2 0 0 rfl rfl (by decide) wf_X2_9 rfl dX2_take_9 ?_
      refine lv_iload_n hx hb dX2_take_12 rfl (lv_at hl 2 rfl) ?_
      refine lv_aload_n hx hb dX2_take_13 rfl (lv_at hl 1 rfl) ?_
      refine r_get (ci := 2) (v := .ref qa1_owed) cx hw iX2 3 0 rfl rfl (by decide) wf_X2_9 rfl dX2_take_14 ?_
      refine lv_iload_n hx hb dX2_take_17 rfl (lv_at hl 2 rfl) ?_
      obtain ⟨g2, hF⟩ := gA_s hF
      refine r_iald cx hw 4 rfl g2 dX2_take_18 ?_
      obtain ⟨g3, hF⟩ := gA_s hF
      refine r_iast (w2 := [(q_, .inr (2, [.ref q_owed, .ref q_order, .int u_size])), (q_owed, .inl (C 0, 36, .inl (upd u_owed (x2 : Int32).toNatClampNeg (ua1_owed (x2).toNatClampNeg)))), (q_order, .inl (C 0, 36, .inl u_order)), (qa1_, .inr (2, [.ref qa1_owed, .ref qa1_order, .int ua1_size])), (qa1_owed, .inl (C 0, 36, .inl ua1_owed)), (qa1_order, .inl (C 0, 36, .inl ua1_order))]) cx hw 1 rfl g3 dX2_take_19 rfl (fun H locs hw => ?_)
      refine lv_aload_n hx hb dX2_take_20 rfl (lv_at hl 0 rfl) ?_
      refine r_get (ci := 2) (v := .ref q_order) cx hw iX2 0 1 rfl rfl (by decide) wf_X2_15 rfl dX2_take_21 ?_
      refine lv_iload_n hx hb dX2_take_24 rfl (lv_at hl 2 rfl) ?_
      refine lv_aload_n hx hb dX2_take_25 rfl (lv_at hl 1 rfl) ?_
      refine r_get (ci := 2) (v := .ref qa1_order) cx hw iX2 3 1 rfl rfl (by decide) wf_X2_15 rfl dX2_take_26 ?_
      refine lv_iload_n hx hb dX2_take_29 rfl (lv_at hl 2 rfl) ?_
      obtain ⟨g4, hF⟩ := gA_s hF
      refine r_iald cx hw 5 rfl g4 dX2_take_30 ?_
      obtain ⟨g5, hF⟩ := gA_s hF
      refine r_iast (w2 := [(q_, .inr (2, [.ref q_owed, .ref q_order, .int u_size])), (q_owed, .inl (C 0, 36, .inl (upd u_owed (x2 : Int32).toNatClampNeg (ua1_owed (x2).toNatClampNeg)))), (q_order, .inl (C 0, 36, .inl (upd u_order (x2 : Int32).toNatClampNeg (ua1_order (x2).toNatClampNeg)))), (qa1_, .inr (2, [.ref qa1_owed, .ref qa1_order, .int ua1_size])), (qa1_owed, .inl (C 0, 36, .inl ua1_owed)), (qa1_order, .inl (C 0, 36, .inl ua1_order))]) cx hw 2 rfl g5 dX2_take_31 rfl (fun H locs hw => ?_)
      refine lv_iinc (v := x2 + 1) (lv' := [(2, .int (x2 + 1)), (0, .ref q_), (1, .ref qa1_)]) hx hb dX2_take_32 hl (k := 2) rfl rfl (by decide) rfl (fun ls hl => ?_)
      refine lv_goto (tgt := 2) hx hb dX2_take_35 (by decide) ?_
      exact ih (x2 + 1) (upd u_owed (x2 : Int32).toNatClampNeg (ua1_owed (x2).toNatClampNeg)) (upd u_order (x2 : Int32).toNatClampNeg (ua1_order (x2).toNatClampNeg)) H locs ls hF hw (lv_sub hl [1, 2, 0] rfl)
set_option maxRecDepth 20000 in
theorem CX2_take (l : Launch) (D : va_G) (C : Nat → ClassId) (q_ q_owed q_order qa1_ qa1_owed qa1_order : Nat) (u_size : Int32) (u_owed : (Nat → Int32)) (u_order : (Nat → Int32)) (ua1_size : Int32) (ua1_owed : (Nat → Int32)) (ua1_order : (Nat → Int32)) (z : (Int32 × (Nat → Int32) × (Nat → Int32))) (hF : fX2_take u_owed u_order ua1_size ua1_owed ua1_order = some z) : Ct l yX2_take cX2_take 3 none 1 D C [.ref q_, .ref qa1_] [(q_, .inr (2, [.ref q_owed, .ref q_order, .int u_size])), (q_owed, .inl (C 0, 36, .inl u_owed)), (q_order, .inl (C 0, 36, .inl u_order)), (qa1_, .inr (2, [.ref qa1_owed, .ref qa1_order, .int ua1_size])), (qa1_owed, .inl (C 0, 36, .inl ua1_owed)), (qa1_order, .inl (C 0, 36, .inl ua1_order))] [(q_, .inr (2, [.ref q_owed, .ref q_order, .int z.1])), (q_owed, .inl (C 0, 36, .inl z.2.1)), (q_order, .inl (C 0, 36, .inl z.2.2)), (qa1_, .inr (2, [.ref qa1_owed, .ref qa1_order, .int ua1_size])), (qa1_owed, .inl (C 0, 36, .inl ua1_owed)), (qa1_order, .inl (C 0, 36, .inl ua1_order))] none := by
  refine Ct_of (by decide) (Nat.le_of_ble_eq_true rfl) ?_
  intro p e R s m args below meth c A Q H locs ls cx hw hl hret
  have cx : CX p m c s args RX2 cX2_take 3 D C A R 1 := cx
  have hx := cx.1
  have hb := cx.2.1
  have hl : lv_has ls 3 [(0, .ref q_), (1, .ref qa1_)] := hl
  rw [fX2_take.eq_1] at hF
  refine lv_iconst (v := 0) hx hb dX2_take_0 (by decide) ?_
  refine lv_istore_n (lv' := [(2, .int 0), (0, .ref q_), (1, .ref qa1_)]) hx hb dX2_take_1 rfl hl (by decide) rfl (fun ls hl => ?_)
  refine LX2_take_2 cx hret (fun u_owed_6 u_order_6 H locs ls hF hw hl => ?_) 400 0 u_owed u_order H locs ls hF hw (lv_sub hl [1, 2, 0] rfl)
  · refine lv_aload_n hx hb dX2_take_38 rfl (lv_at hl 0 rfl) ?_
    refine lv_aload_n hx hb dX2_take_39 rfl (lv_at hl 1 rfl) ?_
    refine r_get (ci := 2) (v := .int ua1_size) cx hw iX2 3 2 rfl rfl (by decide) wf_X2_18 rfl dX2_take_40 ?_
    refine r_put (ci := 2) (w2 := [(q_, .inr (2, [.ref q_owed, .ref q_order, .int ua1_size])), (q_owed, .inl (C 0, 36, .inl u_owed_6)), (q_order, .inl (C 0, 36, .inl u_order_6)), (qa1_, .inr (2, [.ref qa1_owed, .ref qa1_order, .int ua1_size])), (qa1_owed, .inl (C 0, 36, .inl ua1_owed)), (qa1_order, .inl (C 0, 36, .inl ua1_order))]) cx hw iX2 tyX2_ok nmX2 0 2 rfl rfl (by decide) wf_X2_18 rfl rfl rfl rfl (Nat.le_of_ble_eq_true rfl) dX2_take_43 rfl (fun H locs hw => ?_)
    obtain rfl := Option.some.inj hF
    exact rt_v hret hw rfl dX2_take_46
theorem wf_X5_25 : Cond.fieldLink RX5 25 (TX5 2).1 (TX5 2).2.1 (TX5 2).2.2.1 ∈ gdt := gdt_of 133 (by decide +kernel) (by decide +kernel)
theorem dX5_size_0 : decode cX5_size 0 = .ok (.aload_n 0, 1) := by decide +kernel
theorem dX5_size_1 : decode cX5_size 1 = .ok (.getfield 25, 3) := by decide +kernel
theorem dX5_size_4 : decode cX5_size 4 = .ok (.ireturn, 1) := by decide +kernel
def fX5_size (u_size : Int32) : Option Int32 := some u_size
set_option maxRecDepth 20000 in
theorem CX5_size (l : Launch) (D : va_G) (C : Nat → ClassId) (q_ q_numbers : Nat) (u_room : Int32) (u_size : Int32) (z : Int32) (hF : fX5_size u_size = some z) : Ct l yX5_size cX5_size 1 (some .int) 1 D C [.ref q_] [(q_, .inr (5, [.ref q_numbers, .int u_room, .int u_size]))] [(q_, .inr (5, [.ref q_numbers, .int u_room, .int u_size]))] (some (.int z)) := by
  refine Ct_of (by decide) (Nat.le_of_ble_eq_true rfl) ?_
  intro p e R s m args below meth c A Q H locs ls cx hw hl hret
  have cx : CX p m c s args RX5 cX5_size 1 D C A R 1 := cx
  have hx := cx.1
  have hb := cx.2.1
  have hl : lv_has ls 1 [(0, .ref q_)] := hl
  rw [fX5_size.eq_1] at hF
  refine lv_aload_n hx hb dX5_size_0 rfl (lv_at hl 0 rfl) ?_
  refine r_get (ci := 5) (v := .int u_size) cx hw iX5 0 2 rfl rfl (by decide) wf_X5_25 rfl dX5_size_1 ?_
  obtain rfl := Option.some.inj hF
  exact rt_i hret hw rfl dX5_size_4
theorem wf_X5_15 : Cond.fieldLink RX5 15 (TX5 1).1 (TX5 1).2.1 (TX5 1).2.2.1 ∈ gdt := gdt_of 132 (by decide +kernel) (by decide +kernel)
theorem dX5_isFull_0 : decode cX5_isFull 0 = .ok (.aload_n 0, 1) := by decide +kernel
theorem dX5_isFull_1 : decode cX5_isFull 1 = .ok (.getfield 25, 3) := by decide +kernel
theorem dX5_isFull_4 : decode cX5_isFull 4 = .ok (.aload_n 0, 1) := by decide +kernel
theorem dX5_isFull_5 : decode cX5_isFull 5 = .ok (.getfield 15, 3) := by decide +kernel
theorem dX5_isFull_8 : decode cX5_isFull 8 = .ok (.if_icmp .lt 7, 3) := by decide +kernel
theorem dX5_isFull_11 : decode cX5_isFull 11 = .ok (.iconst 1, 1) := by decide +kernel
theorem dX5_isFull_12 : decode cX5_isFull 12 = .ok (.goto 4, 3) := by decide +kernel
theorem dX5_isFull_15 : decode cX5_isFull 15 = .ok (.iconst 0, 1) := by decide +kernel
theorem dX5_isFull_16 : decode cX5_isFull 16 = .ok (.ireturn, 1) := by decide +kernel
def fX5_isFull (u_room : Int32) (u_size : Int32) : Option Int32 := if u_size < u_room then (some 0) else (some 1)
set_option maxRecDepth 20000 in
theorem CX5_isFull (l : Launch) (D : va_G) (C : Nat → ClassId) (q_ q_numbers : Nat) (u_room : Int32) (u_size : Int32) (z : Int32) (hF : fX5_isFull u_room u_size = some z) : Ct l yX5_isFull cX5_isFull 1 (some .boolean) 1 D C [.ref q_] [(q_, .inr (5, [.ref q_numbers, .int u_room, .int u_size]))] [(q_, .inr (5, [.ref q_numbers, .int u_room, .int u_size]))] (some (.int z)) := by
  refine Ct_of (by decide) (Nat.le_of_ble_eq_true rfl) ?_
  intro p e R s m args below meth c A Q H locs ls cx hw hl hret
  have cx : CX p m c s args RX5 cX5_isFull 1 D C A R 1 := cx
  have hx := cx.1
  have hb := cx.2.1
  have hl : lv_has ls 1 [(0, .ref q_)] := hl
  rw [fX5_isFull.eq_1] at hF
  refine lv_aload_n hx hb dX5_isFull_0 rfl (lv_at hl 0 rfl) ?_
  refine r_get (ci := 5) (v := .int u_size) cx hw iX5 0 2 rfl rfl (by decide) wf_X5_25 rfl dX5_isFull_1 ?_
  refine lv_aload_n hx hb dX5_isFull_4 rfl (lv_at hl 0 rfl) ?_
  refine r_get (ci := 5) (v := .int u_room) cx hw iX5 0 1 rfl rfl (by decide) wf_X5_15 rfl dX5_isFull_5 ?_
  refine lv_icmp_lt (tgt := 15) hx hb dX5_isFull_8 (by decide) (fun c1 => ?_) (fun c1 => ?_)
  · replace hF := oi_t c1 hF
    refine lv_iconst (v := 0) hx hb dX5_isFull_15 (by decide) ?_
    obtain rfl := Option.some.inj hF
    exact rt_z hret hw rfl rfl dX5_isFull_16
  · replace hF := oi_f c1 hF
    refine lv_iconst (v := 1) hx hb dX5_isFull_11 (by decide) ?_
    refine lv_goto (tgt := 16) hx hb dX5_isFull_12 (by decide) ?_
    obtain rfl := Option.some.inj hF
    exact rt_z hret hw rfl rfl dX5_isFull_16
theorem dX5_clear_0 : decode cX5_clear 0 = .ok (.aload_n 0, 1) := by decide +kernel
theorem dX5_clear_1 : decode cX5_clear 1 = .ok (.iconst 0, 1) := by decide +kernel
theorem dX5_clear_2 : decode cX5_clear 2 = .ok (.putfield 25, 3) := by decide +kernel
theorem dX5_clear_5 : decode cX5_clear 5 = .ok (.return_, 1) := by decide +kernel
def fX5_clear : Option Int32 := some 0
set_option maxRecDepth 20000 in
theorem CX5_clear (l : Launch) (D : va_G) (C : Nat → ClassId) (q_ q_numbers : Nat) (u_room : Int32) (u_size : Int32) (z : Int32) (hF : fX5_clear = some z) : Ct l yX5_clear cX5_clear 1 none 1 D C [.ref q_] [(q_, .inr (5, [.ref q_numbers, .int u_room, .int u_size]))] [(q_, .inr (5, [.ref q_numbers, .int u_room, .int z]))] none := by
  refine Ct_of (by decide) (Nat.le_of_ble_eq_true rfl) ?_
  intro p e R s m args below meth c A Q H locs ls cx hw hl hret
  have cx : CX p m c s args RX5 cX5_clear 1 D C A R 1 := cx
  have hx := cx.1
  have hb := cx.2.1
  have hl : lv_has ls 1 [(0, .ref q_)] := hl
  rw [fX5_clear.eq_1] at hF
  refine lv_aload_n hx hb dX5_clear_0 rfl (lv_at hl 0 rfl) ?_
  refine lv_iconst (v := 0) hx hb dX5_clear_1 (by decide) ?_
  refine r_put (ci := 5) (w2 := [(q_, .inr (5, [.ref q_numbers, .int u_room, .int 0]))]) cx hw iX5 tyX5_ok nmX5 0 2 rfl rfl (by decide) wf_X5_25 rfl rfl rfl rfl (Nat.le_of_ble_eq_true rfl) dX5_clear_2 rfl (fun H locs hw => ?_)
  obtain rfl := Option.some.inj hF
  exact rt_v hret hw rfl dX5_clear_5
theorem wf_X5_21 : Cond.fieldLink RX5 21 (TX5 0).1 (TX5 0).2.1 (TX5 0).2.2.1 ∈ gdt := gdt_of 131 (by decide +kernel) (by decide +kernel)
theorem dX5_add_0 : decode cX5_add 0 = .ok (.aload_n 0, 1) := by decide +kernel
theorem dX5_add_1 : decode cX5_add 1 = .ok (.getfield 25, 3) := by decide +kernel
theorem dX5_add_4 : decode cX5_add 4 = .ok (.aload_n 0, 1) := by decide +kernel
theorem dX5_add_5 : decode cX5_add 5 = .ok (.getfield 15, 3) := by decide +kernel
theorem dX5_add_8 : decode cX5_add 8 = .ok (.if_icmp .lt 6, 3) := by decide +kernel
theorem dX5_add_11 : decode cX5_add 11 = .ok (.bipush (-4), 2) := by decide +kernel
theorem dX5_add_13 : decode cX5_add 13 = .ok (.ireturn, 1) := by decide +kernel
theorem dX5_add_14 : decode cX5_add 14 = .ok (.aload_n 0, 1) := by decide +kernel
theorem dX5_add_15 : decode cX5_add 15 = .ok (.getfield 21, 3) := by decide +kernel
theorem dX5_add_18 : decode cX5_add 18 = .ok (.iconst 3, 1) := by decide +kernel
theorem dX5_add_19 : decode cX5_add 19 = .ok (.aload_n 0, 1) := by decide +kernel
theorem dX5_add_20 : decode cX5_add 20 = .ok (.getfield 25, 3) := by decide +kernel
theorem dX5_add_23 : decode cX5_add 23 = .ok (.imul, 1) := by decide +kernel
theorem dX5_add_24 : decode cX5_add 24 = .ok (.iload_n 1, 1) := by decide +kernel
theorem dX5_add_25 : decode cX5_add 25 = .ok (.iastore, 1) := by decide +kernel
theorem dX5_add_26 : decode cX5_add 26 = .ok (.aload_n 0, 1) := by decide +kernel
theorem dX5_add_27 : decode cX5_add 27 = .ok (.getfield 21, 3) := by decide +kernel
theorem dX5_add_30 : decode cX5_add 30 = .ok (.iconst 3, 1) := by decide +kernel
theorem dX5_add_31 : decode cX5_add 31 = .ok (.aload_n 0, 1) := by decide +kernel
theorem dX5_add_32 : decode cX5_add 32 = .ok (.getfield 25, 3) := by decide +kernel
theorem dX5_add_35 : decode cX5_add 35 = .ok (.imul, 1) := by decide +kernel
theorem dX5_add_36 : decode cX5_add 36 = .ok (.iconst 1, 1) := by decide +kernel
theorem dX5_add_37 : decode cX5_add 37 = .ok (.iadd, 1) := by decide +kernel
theorem dX5_add_38 : decode cX5_add 38 = .ok (.iload_n 2, 1) := by decide +kernel
theorem dX5_add_39 : decode cX5_add 39 = .ok (.iastore, 1) := by decide +kernel
theorem dX5_add_40 : decode cX5_add 40 = .ok (.aload_n 0, 1) := by decide +kernel
theorem dX5_add_41 : decode cX5_add 41 = .ok (.getfield 21, 3) := by decide +kernel
theorem dX5_add_44 : decode cX5_add 44 = .ok (.iconst 3, 1) := by decide +kernel
theorem dX5_add_45 : decode cX5_add 45 = .ok (.aload_n 0, 1) := by decide +kernel
theorem dX5_add_46 : decode cX5_add 46 = .ok (.getfield 25, 3) := by decide +kernel
theorem dX5_add_49 : decode cX5_add 49 = .ok (.imul, 1) := by decide +kernel
theorem dX5_add_50 : decode cX5_add 50 = .ok (.iconst 2, 1) := by decide +kernel
theorem dX5_add_51 : decode cX5_add 51 = .ok (.iadd, 1) := by decide +kernel
theorem dX5_add_52 : decode cX5_add 52 = .ok (.iload_n 3, 1) := by decide +kernel
theorem dX5_add_53 : decode cX5_add 53 = .ok (.iastore, 1) := by decide +kernel
theorem dX5_add_54 : decode cX5_add 54 = .ok (.aload_n 0, 1) := by decide +kernel
theorem dX5_add_55 : decode cX5_add 55 = .ok (.dup, 1) := by decide +kernel
theorem dX5_add_56 : decode cX5_add 56 = .ok (.getfield 25, 3) := by decide +kernel
theorem dX5_add_59 : decode cX5_add 59 = .ok (.iconst 1, 1) := by decide +kernel
theorem dX5_add_60 : decode cX5_add 60 = .ok (.iadd, 1) := by decide +kernel
theorem dX5_add_61 : decode cX5_add 61 = .ok (.putfield 25, 3) := by decide +kernel
theorem dX5_add_64 : decode cX5_add 64 = .ok (.aload_n 0, 1) := by decide +kernel
theorem dX5_add_65 : decode cX5_add 65 = .ok (.getfield 25, 3) := by decide +kernel
theorem dX5_add_68 : decode cX5_add 68 = .ok (.ireturn, 1) := by decide +kernel
def fX5_add (n_numbers : Nat) (u_room : Int32) (u_size : Int32) (u_numbers : (Nat → Int32)) (x1 : Int32) (x2 : Int32) (x3 : Int32) : Option (Int32 × Int32 × (Nat → Int32)) := if u_size < u_room then (gA (3 * u_size) n_numbers (gA ((3 * u_size) + 1) n_numbers (gA ((3 * u_size) + 2) n_numbers (some (u_size + 1, u_size + 1, upd (upd (upd u_numbers (3 * u_size : Int32).toNatClampNeg x1) ((3 * u_size) + 1 : Int32).toNatClampNeg x2) ((3 * u_size) + 2 : Int32).toNatClampNeg x3))))) else (some ((-4), u_size, u_numbers))
set_option maxRecDepth 20000 in
theorem CX5_add (l : Launch) (D : va_G) (C : Nat → ClassId) (q_ q_numbers n_numbers : Nat) (u_room : Int32) (u_size : Int32) (u_numbers : (Nat → Int32)) (x1 : Int32) (x2 : Int32) (x3 : Int32) (z : (Int32 × Int32 × (Nat → Int32))) (hF : fX5_add n_numbers u_room u_size u_numbers x1 x2 x3 = some z) : Ct l yX5_add cX5_add 4 (some .int) 1 D C [.ref q_, .int x1, .int x2, .int x3] [(q_, .inr (5, [.ref q_numbers, .int u_room, .int u_size])), (q_numbers, .inl (C 0, n_numbers, .inl u_numbers))] [(q_, .inr (5, [.ref q_numbers, .int u_room, .int z.2.1])), (q_numbers, .inl (C 0, n_numbers, .inl z.2.2))] (some (.int z.1)) := by
  refine Ct_of (by decide) (Nat.le_of_ble_eq_true rfl) ?_
  intro p e R s m args below meth c A Q H locs ls cx hw hl hret
  have cx : CX p m c s args RX5 cX5_add 4 D C A R 1 := cx
  have hx := cx.1
  have hb := cx.2.1
  have hl : lv_has ls 4 [(0, .ref q_), (1, .int x1), (2, .int x2), (3, .int x3)] := hl
  rw [fX5_add.eq_1] at hF
  refine lv_aload_n hx hb dX5_add_0 rfl (lv_at hl 0 rfl) ?_
  refine r_get (ci := 5) (v := .int u_size) cx hw iX5 0 2 rfl rfl (by decide) wf_X5_25 rfl dX5_add_1 ?_
  refine lv_aload_n hx hb dX5_add_4 rfl (lv_at hl 0 rfl) ?_
  refine r_get (ci := 5) (v := .int u_room) cx hw iX5 0 1 rfl rfl (by decide) wf_X5_15 rfl dX5_add_5 ?_
  refine lv_icmp_lt (tgt := 14) hx hb dX5_add_8 (by decide) (fun c1 => ?_) (fun c1 => ?_)
  · replace hF := oi_t c1 hF
    refine lv_aload_n hx hb dX5_add_14 rfl (lv_at hl 0 rfl) ?_
    refine r_get (ci := 5) (v := .ref q_numbers) cx hw iX5 0 0 rfl rfl (by decide) wf_X5_21 rfl dX5_add_15 ?_
    refine lv_iconst (v := 3) hx hb dX5_add_18 (by decide) ?_
    refine lv_aload_n hx hb dX5_add_19 rfl (lv_at hl 0 rfl) ?_
    refine r_get (ci := 5) (v := .int u_size) cx hw iX5 0 2 rfl rfl (by decide) wf_X5_25 rfl dX5_add_20 ?_
    refine lv_imul hx hb dX5_add_23 ?_
    refine lv_iload_n hx hb dX5_add_24 rfl (lv_at hl 1 rfl) ?_
    obtain ⟨g2, hF⟩ := gA_s hF
    refine r_iast (w2 := [(q_, .inr (5, [.ref q_numbers, .int u_room, .int u_size])), (q_numbers, .inl (C 0, n_numbers, .inl (upd u_numbers (3 * u_size : Int32).toNatClampNeg x1)))]) cx hw 1 rfl g2 dX5_add_25 rfl (fun H locs hw => ?_)
    refine lv_aload_n hx hb dX5_add_26 rfl (lv_at hl 0 rfl) ?_
    refine r_get (ci := 5) (v := .ref q_numbers) cx hw iX5 0 0 rfl rfl (by decide) wf_X5_21 rfl dX5_add_27 ?_
    refine lv_iconst (v := 3) hx hb dX5_add_30 (by decide) ?_
    refine lv_aload_n hx hb dX5_add_31 rfl (lv_at hl 0 rfl) ?_
    refine r_get (ci := 5) (v := .int u_size) cx hw iX5 0 2 rfl rfl (by decide) wf_X5_25 rfl dX5_add_32 ?_
    refine lv_imul hx hb dX5_add_35 ?_
    refine lv_iconst (v := 1) hx hb dX5_add_36 (by decide) ?_
    refine lv_iadd hx hb dX5_add_37 ?_
    refine lv_iload_n hx hb dX5_add_38 rfl (lv_at hl 2 rfl) ?_
    obtain ⟨g3, hF⟩ := gA_s hF
    refine r_iast (w2 := [(q_, .inr (5, [.ref q_numbers, .int u_room, .int u_size])), (q_numbers, .inl (C 0, n_numbers, .inl (upd (upd u_numbers (3 * u_size : Int32).toNatClampNeg x1) ((3 * u_size) + 1 : Int32).toNatClampNeg x2)))]) cx hw 1 rfl g3 dX5_add_39 rfl (fun H locs hw => ?_)
    refine lv_aload_n hx hb dX5_add_40 rfl (lv_at hl 0 rfl) ?_
    refine r_get (ci := 5) (v := .ref q_numbers) cx hw iX5 0 0 rfl rfl (by decide) wf_X5_21 rfl dX5_add_41 ?_
    refine lv_iconst (v := 3) hx hb dX5_add_44 (by decide) ?_
    refine lv_aload_n hx hb dX5_add_45 rfl (lv_at hl 0 rfl) ?_
    refine r_get (ci := 5) (v := .int u_size) cx hw iX5 0 2 rfl rfl (by decide) wf_X5_25 rfl dX5_add_46 ?_
    refine lv_imul hx hb dX5_add_49 ?_
    refine lv_iconst (v := 2) hx hb dX5_add_50 (by decide) ?_
    refine lv_iadd hx hb dX5_add_51 ?_
    refine lv_iload_n hx hb dX5_add_52 rfl (lv_at hl 3 rfl) ?_
    obtain ⟨g4, hF⟩ := gA_s hF
    refine r_iast (w2 := [(q_, .inr (5, [.ref q_numbers, .int u_room, .int u_size])), (q_numbers, .inl (C 0, n_numbers, .inl (upd (upd (upd u_numbers (3 * u_size : Int32).toNatClampNeg x1) ((3 * u_size) + 1 : Int32).toNatClampNeg x2) ((3 * u_size) + 2 : Int32).toNatClampNeg x3)))]) cx hw 1 rfl g4 dX5_add_53 rfl (fun H locs hw => ?_)
    refine lv_aload_n hx hb dX5_add_54 rfl (lv_at hl 0 rfl) ?_
    refine lv_dup hx hb dX5_add_55 rfl ?_
    refine r_get (ci := 5) (v := .int u_size) cx hw iX5 0 2 rfl rfl (by decide) wf_X5_25 rfl dX5_add_56 ?_
    refine lv_iconst (v := 1) hx hb dX5_add_59 (by decide) ?_
    refine lv_iadd hx hb dX5_add_60 ?_
    refine r_put (ci := 5) (w2 := [(q_, .inr (5, [.ref q_numbers, .int u_room, .int (u_size + 1)])), (q_numbers, .inl (C 0, n_numbers, .inl (upd (upd (upd u_numbers (3 * u_size : Int32).toNatClampNeg x1) ((3 * u_size) + 1 : Int32).toNatClampNeg x2) ((3 * u_size) + 2 : Int32).toNatClampNeg x3)))]) cx hw iX5 tyX5_ok nmX5 0 2 rfl rfl (by decide) wf_X5_25 rfl rfl rfl rfl (Nat.le_of_ble_eq_true rfl) dX5_add_61 rfl (fun H locs hw => ?_)
    refine lv_aload_n hx hb dX5_add_64 rfl (lv_at hl 0 rfl) ?_
    refine r_get (ci := 5) (v := .int (u_size + 1)) cx hw iX5 0 2 rfl rfl (by decide) wf_X5_25 rfl dX5_add_65 ?_
    obtain rfl := Option.some.inj hF
    exact rt_i hret hw rfl dX5_add_68
  · replace hF := oi_f c1 hF
    refine lv_bipush (v := (-4)) hx hb dX5_add_11 (by decide) ?_
    obtain rfl := Option.some.inj hF
    exact rt_i hret hw rfl dX5_add_13
theorem dX5_at_0 : decode cX5_at 0 = .ok (.iload_n 1, 1) := by decide +kernel
theorem dX5_at_1 : decode cX5_at 1 = .ok (.ifCond .lt 20, 3) := by decide +kernel
theorem dX5_at_4 : decode cX5_at 4 = .ok (.iload_n 1, 1) := by decide +kernel
theorem dX5_at_5 : decode cX5_at 5 = .ok (.aload_n 0, 1) := by decide +kernel
theorem dX5_at_6 : decode cX5_at 6 = .ok (.getfield 25, 3) := by decide +kernel
theorem dX5_at_9 : decode cX5_at 9 = .ok (.if_icmp .ge 12, 3) := by decide +kernel
theorem dX5_at_12 : decode cX5_at 12 = .ok (.iload_n 2, 1) := by decide +kernel
theorem dX5_at_13 : decode cX5_at 13 = .ok (.ifCond .lt 8, 3) := by decide +kernel
theorem dX5_at_16 : decode cX5_at 16 = .ok (.iload_n 2, 1) := by decide +kernel
theorem dX5_at_17 : decode cX5_at 17 = .ok (.iconst 2, 1) := by decide +kernel
theorem dX5_at_18 : decode cX5_at 18 = .ok (.if_icmp .le 5, 3) := by decide +kernel
theorem dX5_at_21 : decode cX5_at 21 = .ok (.iconst (-1), 1) := by decide +kernel
theorem dX5_at_22 : decode cX5_at 22 = .ok (.ireturn, 1) := by decide +kernel
theorem dX5_at_23 : decode cX5_at 23 = .ok (.aload_n 0, 1) := by decide +kernel
theorem dX5_at_24 : decode cX5_at 24 = .ok (.getfield 21, 3) := by decide +kernel
theorem dX5_at_27 : decode cX5_at 27 = .ok (.iconst 3, 1) := by decide +kernel
theorem dX5_at_28 : decode cX5_at 28 = .ok (.iload_n 1, 1) := by decide +kernel
theorem dX5_at_29 : decode cX5_at 29 = .ok (.imul, 1) := by decide +kernel
theorem dX5_at_30 : decode cX5_at 30 = .ok (.iload_n 2, 1) := by decide +kernel
theorem dX5_at_31 : decode cX5_at 31 = .ok (.iadd, 1) := by decide +kernel
theorem dX5_at_32 : decode cX5_at 32 = .ok (.iaload, 1) := by decide +kernel
theorem dX5_at_33 : decode cX5_at 33 = .ok (.ireturn, 1) := by decide +kernel
def fX5_at (n_numbers : Nat) (u_size : Int32) (u_numbers : (Nat → Int32)) (x1 : Int32) (x2 : Int32) : Option Int32 := if x1 < 0 then (some (-1)) else (if u_size ≤ x1 then (some (-1)) else (if x2 < 0 then (some (-1)) else (if x2 ≤ 2 then (gA ((3 * x1) + x2) n_numbers (some (u_numbers ((3 * x1) + x2).toNatClampNeg))) else (some (-1)))))
set_option maxRecDepth 20000 in
theorem CX5_at (l : Launch) (D : va_G) (C : Nat → ClassId) (q_ q_numbers n_numbers : Nat) (u_room : Int32) (u_size : Int32) (u_numbers : (Nat → Int32)) (x1 : Int32) (x2 : Int32) (z : Int32) (hF : fX5_at n_numbers u_size u_numbers x1 x2 = some z) : Ct l yX5_at cX5_at 3 (some .int) 1 D C [.ref q_, .int x1, .int x2] [(q_, .inr (5, [.ref q_numbers, .int u_room, .int u_size])), (q_numbers, .inl (C 0, n_numbers, .inl u_numbers))] [(q_, .inr (5, [.ref q_numbers, .int u_room, .int u_size])), (q_numbers, .inl (C 0, n_numbers, .inl u_numbers))] (some (.int z)) := by
  refine Ct_of (by decide) (Nat.le_of_ble_eq_true rfl) ?_
  intro p e R s m args below meth c A Q H locs ls cx hw hl hret
  have cx : CX p m c s args RX5 cX5_at 3 D C A R 1 := cx
  have hx := cx.1
  have hb := cx.2.1
  have hl : lv_has ls 3 [(0, .ref q_), (1, .int x1), (2, .int x2)] := hl
  rw [fX5_at.eq_1] at hF
  refine lv_iload_n hx hb dX5_at_0 rfl (lv_at hl 1 rfl) ?_
  refine lv_if_lt (tgt := 21) hx hb dX5_at_1 (by decide) (fun c1 => ?_) (fun c1 => ?_)
  · replace hF := oi_t c1 hF
    refine lv_iconst (v := (-1)) hx hb dX5_at_21 (by decide) ?_
    obtain rfl := Option.some.inj hF
    exact rt_i hret hw rfl dX5_at_22
  · replace hF := oi_f c1 hF
    refine lv_iload_n hx hb dX5_at_4 rfl (lv_at hl 1 rfl) ?_
    refine lv_aload_n hx hb dX5_at_5 rfl (lv_at hl 0 rfl) ?_
    refine r_get (ci := 5) (v := .int u_size) cx hw iX5 0 2 rfl rfl (by decide) wf_X5_25 rfl dX5_at_6 ?_
    refine lv_icmp_ge (tgt := 21) hx hb dX5_at_9 (by decide) (fun c2 => ?_) (fun c2 => ?_)
    · replace hF := oi_t c2 hF
      refine lv_iconst (v := (-1)) hx hb dX5_at_21 (by decide) ?_
      obtain rfl := Option.some.inj hF
      exact rt_i hret hw rfl dX5_at_22
    · replace hF := oi_f c2 hF
      refine lv_iload_n hx hb dX5_at_12 rfl (lv_at hl 2 rfl) ?_
      refine lv_if_lt (tgt := 21) hx hb dX5_at_13 (by decide) (fun c3 => ?_) (fun c3 => ?_)
      · replace hF := oi_t c3 hF
        refine lv_iconst (v := (-1)) hx hb dX5_at_21 (by decide) ?_
        obtain rfl := Option.some.inj hF
        exact rt_i hret hw rfl dX5_at_22
      · replace hF := oi_f c3 hF
        refine lv_iload_n hx hb dX5_at_16 rfl (lv_at hl 2 rfl) ?_
        refine lv_iconst (v := 2) hx hb dX5_at_17 (by decide) ?_
        refine lv_icmp_le (tgt := 23) hx hb dX5_at_18 (by decide) (fun c4 => ?_) (fun c4 => ?_)
        · replace hF := oi_t c4 hF
          refine lv_aload_n hx hb dX5_at_23 rfl (lv_at hl 0 rfl) ?_
          refine r_get (ci := 5) (v := .ref q_numbers) cx hw iX5 0 0 rfl rfl (by decide) wf_X5_21 rfl dX5_at_24 ?_
          refine lv_iconst (v := 3) hx hb dX5_at_27 (by decide) ?_
          refine lv_iload_n hx hb dX5_at_28 rfl (lv_at hl 1 rfl) ?_
          refine lv_imul hx hb dX5_at_29 ?_
          refine lv_iload_n hx hb dX5_at_30 rfl (lv_at hl 2 rfl) ?_
          refine lv_iadd hx hb dX5_at_31 ?_
          obtain ⟨g5, hF⟩ := gA_s hF
          refine r_iald cx hw 1 rfl g5 dX5_at_32 ?_
          obtain rfl := Option.some.inj hF
          exact rt_i hret hw rfl dX5_at_33
        · replace hF := oi_f c4 hF
          refine lv_iconst (v := (-1)) hx hb dX5_at_21 (by decide) ?_
          obtain rfl := Option.some.inj hF
          exact rt_i hret hw rfl dX5_at_22
theorem lk_X5_28 : Cond.methodLink RX5 28 yX5_at ∈ gdt := gdt_of 697 (by decide +kernel) (by decide +kernel)
theorem my_X5_at : (yX5_at.cls ≠ "java/lang/invoke/MethodHandle" ∧ yX5_at.cls ≠ "java/lang/invoke/VarHandle") ∧ Cond.instanceMethod yX5_at ∈ gdt ∧ Cond.selects yX5_at.cls yX5_at yX5_at ∈ gdt ∧ Cond.initialized yX5_at.cls ∈ gdt ∧ Cond.code yX5_at cX5_at 3 (some .int) ∈ gdt := ⟨⟨by decide +kernel, by decide +kernel⟩, gdt_of 498 (by decide +kernel) (by decide +kernel), gdt_of 499 (by decide +kernel) (by decide +kernel), gdt_of 71 (by decide +kernel) (by decide +kernel), gdt_of 500 (by decide +kernel) (by decide +kernel)⟩
theorem ml_X5_at : (parseMethodDescriptor yX5_at.desc).map (fun d => d.parameters.length) = some 2 := by decide +kernel
theorem dX5_has_0 : decode cX5_has 0 = .ok (.iconst 0, 1) := by decide +kernel
theorem dX5_has_1 : decode cX5_has 1 = .ok (.istore 4, 2) := by decide +kernel
theorem dX5_has_3 : decode cX5_has 3 = .ok (.iload 4, 2) := by decide +kernel
theorem dX5_has_5 : decode cX5_has 5 = .ok (.aload_n 0, 1) := by decide +kernel
theorem dX5_has_6 : decode cX5_has 6 = .ok (.getfield 25, 3) := by decide +kernel
theorem dX5_has_9 : decode cX5_has 9 = .ok (.if_icmp .ge 44, 3) := by decide +kernel
theorem dX5_has_12 : decode cX5_has 12 = .ok (.aload_n 0, 1) := by decide +kernel
theorem dX5_has_13 : decode cX5_has 13 = .ok (.iload 4, 2) := by decide +kernel
theorem dX5_has_15 : decode cX5_has 15 = .ok (.iconst 0, 1) := by decide +kernel
theorem dX5_has_16 : decode cX5_has 16 = .ok (.invokevirtual 28, 3) := by decide +kernel
theorem dX5_has_19 : decode cX5_has 19 = .ok (.iload_n 1, 1) := by decide +kernel
theorem dX5_has_20 : decode cX5_has 20 = .ok (.if_icmp .ne 27, 3) := by decide +kernel
theorem dX5_has_23 : decode cX5_has 23 = .ok (.aload_n 0, 1) := by decide +kernel
theorem dX5_has_24 : decode cX5_has 24 = .ok (.iload 4, 2) := by decide +kernel
theorem dX5_has_26 : decode cX5_has 26 = .ok (.iconst 1, 1) := by decide +kernel
theorem dX5_has_27 : decode cX5_has 27 = .ok (.invokevirtual 28, 3) := by decide +kernel
theorem dX5_has_30 : decode cX5_has 30 = .ok (.iload_n 2, 1) := by decide +kernel
theorem dX5_has_31 : decode cX5_has 31 = .ok (.if_icmp .ne 16, 3) := by decide +kernel
theorem dX5_has_34 : decode cX5_has 34 = .ok (.aload_n 0, 1) := by decide +kernel
theorem dX5_has_35 : decode cX5_has 35 = .ok (.iload 4, 2) := by decide +kernel
theorem dX5_has_37 : decode cX5_has 37 = .ok (.iconst 2, 1) := by decide +kernel
theorem dX5_has_38 : decode cX5_has 38 = .ok (.invokevirtual 28, 3) := by decide +kernel
theorem dX5_has_41 : decode cX5_has 41 = .ok (.iload_n 3, 1) := by decide +kernel
theorem dX5_has_42 : decode cX5_has 42 = .ok (.if_icmp .ne 5, 3) := by decide +kernel
theorem dX5_has_45 : decode cX5_has 45 = .ok (.iconst 1, 1) := by decide +kernel
theorem dX5_has_46 : decode cX5_has 46 = .ok (.ireturn, 1) := by decide +kernel
theorem dX5_has_47 : decode cX5_has 47 = .ok (.iinc 4 1, 3) := by decide +kernel
theorem dX5_has_50 : decode cX5_has 50 = .ok (.goto (-47), 3) := by decide +kernel
theorem dX5_has_53 : decode cX5_has 53 = .ok (.iconst 0, 1) := by decide +kernel
theorem dX5_has_54 : decode cX5_has 54 = .ok (.ireturn, 1) := by decide +kernel
def fX5_has_L3 (n_numbers : Nat) (u_size : Int32) (u_numbers : (Nat → Int32)) (x1 : Int32) (x2 : Int32) (x3 : Int32) : Nat → Int32 → Option Int32
  | 0, _ => none
  | n + 1, x4 => if u_size ≤ x4 then (some 0) else ((fX5_at n_numbers u_size u_numbers x4 0).bind (fun z2 => if z2 = x1 then ((fX5_at n_numbers u_size u_numbers x4 1).bind (fun z4 => if z4 = x2 then ((fX5_at n_numbers u_size u_numbers x4 2).bind (fun z6 => if z6 = x3 then (some 1) else (fX5_has_L3 n_numbers u_size u_numbers x1 x2 x3 n (x4 + 1)))) else (fX5_has_L3 n_numbers u_size u_numbers x1 x2 x3 n (x4 + 1)))) else (fX5_has_L3 n_numbers u_size u_numbers x1 x2 x3 n (x4 + 1))))
def fX5_has (n_numbers : Nat) (u_size : Int32) (u_numbers : (Nat → Int32)) (x1 : Int32) (x2 : Int32) (x3 : Int32) : Option Int32 := fX5_has_L3 n_numbers u_size u_numbers x1 x2 x3 400 0
set_option maxRecDepth 20000 in
theorem LX5_has_3 {p : Program} {l : Launch} {e : Env} {R : Room} {s : State} {m : MethodId} {args : Array Value} {below : List Frame} {meth : Method} {c : Code} {Q : State → Prop} {D : va_G} {C : Nat → ClassId} {A : Nat → Prop} (cx : CX p m c s args RX5 cX5_has 5 D C A R 2) {q_ q_numbers n_numbers : Nat} {u_room : Int32} {u_size : Int32} {u_numbers : (Nat → Int32)} {x1 : Int32} {x2 : Int32} {x3 : Int32} {z : Int32} (hret : RT p l e R s m args below meth c Q D A cX5_has (some .boolean) [(q_, .inr (5, [.ref q_numbers, .int u_room, .int u_size])), (q_numbers, .inl (C 0, n_numbers, .inl u_numbers))] (some (.int z))) :
    ∀ (n : Nat) (x4 : Int32) (H : Heap) (locs : List Loc) (ls : Array Slot), fX5_has_L3 n_numbers u_size u_numbers x1 x2 x3 n x4 = some z → HW D A s.heap H locs [(q_, .inr (5, [.ref q_numbers, .int u_room, .int u_size])), (q_numbers, .inl (C 0, n_numbers, .inl u_numbers))] → lv_has ls 5 [(0, .ref q_), (1, .int x1), (2, .int x2), (3, .int x3), (4, .int x4)] → W p l e R s m args below meth c H locs 0 0 Q (F0 m 3 ls []) := by
  have hx := cx.1
  have hb := cx.2.1
  intro n
  induction n with
  | zero => intro x4 H locs ls hF; cases hF
  | succ n ih =>
    intro x4 H locs ls hF hw hl
    rw [fX5_has_L3.eq_2] at hF
    refine lv_iload hx hb dX5_has_3 (lv_at hl 4 rfl) ?_
    refine lv_aload_n hx hb dX5_has_5 rfl (lv_at hl 0 rfl) ?_
    refine r_get (ci := 5) (v := .int u_size) cx hw iX5 0 2 rfl rfl (by decide) wf_X5_25 rfl dX5_has_6 ?_
    refine lv_icmp_ge (tgt := 53) hx hb dX5_has_9 (by decide) (fun c1 => ?_) (fun c1 => ?_)
    · replace hF := oi_t c1 hF
      refine lv_iconst (v := 0) hx hb dX5_has_53 (by decide) ?_
      obtain rfl := Option.some.inj hF
      exact rt_z hret hw rfl rfl dX5_has_54
    · replace hF := oi_f c1 hF
      refine lv_aload_n hx hb dX5_has_12 rfl (lv_at hl 0 rfl) ?_
      refine lv_iload hx hb dX5_has_13 (lv_at hl 4 rfl) ?_
      refine lv_iconst (v := 0) hx hb dX5_has_15 (by decide) ?_
      obtain ⟨z2, hz2, hF⟩ := ob hF
      refine cV (wr := []) (w2 := [(q_, .inr (5, [.ref q_numbers, .int u_room, .int u_size])), (q_numbers, .inl (C 0, n_numbers, .inl u_numbers))]) (st2 := [.int z2]) cx (CX5_at l D C q_ q_numbers n_numbers u_room u_size u_numbers x4 0 z2 hz2) lk_X5_28 my_X5_at ml_X5_at ⟨by decide, by decide⟩ hw [0, 1] [] [0, 1] rfl rfl (by decide) rfl rfl rfl rfl (Nat.le_of_ble_eq_true rfl) dX5_has_16 rfl (fun H locs hw => ?_) hl.1
      refine lv_iload_n hx hb dX5_has_19 rfl (lv_at hl 1 rfl) ?_
      refine lv_icmp_ne (tgt := 47) hx hb dX5_has_20 (by decide) (fun c3 => ?_) (fun c3 => ?_)
      · replace hF := oi_f c3 hF
        refine lv_iinc (v := x4 + 1) (lv' := [(4, .int (x4 + 1)), (0, .ref q_), (1, .int x1), (2, .int x2), (3, .int x3)]) hx hb dX5_has_47 hl (k := 4) rfl rfl (by decide) rfl (fun ls hl => ?_)
        refine lv_goto (tgt := 3) hx hb dX5_has_50 (by decide) ?_
        exact ih (x4 + 1) H locs ls hF hw (lv_sub hl [1, 2, 3, 4, 0] rfl)
      · replace hF := oi_t c3 hF
        refine lv_aload_n hx hb dX5_has_23 rfl (lv_at hl 0 rfl) ?_
        refine lv_iload hx hb dX5_has_24 (lv_at hl 4 rfl) ?_
        refine lv_iconst (v := 1) hx hb dX5_has_26 (by decide) ?_
        obtain ⟨z4, hz4, hF⟩ := ob hF
        refine cV (wr := []) (w2 := [(q_, .inr (5, [.ref q_numbers, .int u_room, .int u_size])), (q_numbers, .inl (C 0, n_numbers, .inl u_numbers))]) (st2 := [.int z4]) cx (CX5_at l D C q_ q_numbers n_numbers u_room u_size u_numbers x4 1 z4 hz4) lk_X5_28 my_X5_at ml_X5_at ⟨by decide, by decide⟩ hw [0, 1] [] [0, 1] rfl rfl (by decide) rfl rfl rfl rfl (Nat.le_of_ble_eq_true rfl) dX5_has_27 rfl (fun H locs hw => ?_) hl.1
        refine lv_iload_n hx hb dX5_has_30 rfl (lv_at hl 2 rfl) ?_
        refine lv_icmp_ne (tgt := 47) hx hb dX5_has_31 (by decide) (fun c5 => ?_) (fun c5 => ?_)
        · replace hF := oi_f c5 hF
          refine lv_iinc (v := x4 + 1) (lv' := [(4, .int (x4 + 1)), (0, .ref q_), (1, .int x1), (2, .int x2), (3, .int x3)]) hx hb dX5_has_47 hl (k := 4) rfl rfl (by decide) rfl (fun ls hl => ?_)
          refine lv_goto (tgt := 3) hx hb dX5_has_50 (by decide) ?_
          exact ih (x4 + 1) H locs ls hF hw (lv_sub hl [1, 2, 3, 4, 0] rfl)
        · replace hF := oi_t c5 hF
          refine lv_aload_n hx hb dX5_has_34 rfl (lv_at hl 0 rfl) ?_
          refine lv_iload hx hb dX5_has_35 (lv_at hl 4 rfl) ?_
          refine lv_iconst (v := 2) hx hb dX5_has_37 (by decide) ?_
          obtain ⟨z6, hz6, hF⟩ := ob hF
          refine cV (wr := []) (w2 := [(q_, .inr (5, [.ref q_numbers, .int u_room, .int u_size])), (q_numbers, .inl (C 0, n_numbers, .inl u_numbers))]) (st2 := [.int z6]) cx (CX5_at l D C q_ q_numbers n_numbers u_room u_size u_numbers x4 2 z6 hz6) lk_X5_28 my_X5_at ml_X5_at ⟨by decide, by decide⟩ hw [0, 1] [] [0, 1] rfl rfl (by decide) rfl rfl rfl rfl (Nat.le_of_ble_eq_true rfl) dX5_has_38 rfl (fun H locs hw => ?_) hl.1
          refine lv_iload_n hx hb dX5_has_41 rfl (lv_at hl 3 rfl) ?_
          refine lv_icmp_ne (tgt := 47) hx hb dX5_has_42 (by decide) (fun c7 => ?_) (fun c7 => ?_)
          · replace hF := oi_f c7 hF
            refine lv_iinc (v := x4 + 1) (lv' := [(4, .int (x4 + 1)), (0, .ref q_), (1, .int x1), (2, .int x2), (3, .int x3)]) hx hb dX5_has_47 hl (k := 4) rfl rfl (by decide) rfl (fun ls hl => ?_)
            refine lv_goto (tgt := 3) hx hb dX5_has_50 (by decide) ?_
            exact ih (x4 + 1) H locs ls hF hw (lv_sub hl [1, 2, 3, 4, 0] rfl)
          · replace hF := oi_t c7 hF
            refine lv_iconst (v := 1) hx hb dX5_has_45 (by decide) ?_
            obtain rfl := Option.some.inj hF
            exact rt_z hret hw rfl rfl dX5_has_46
set_option maxRecDepth 20000 in
theorem CX5_has (l : Launch) (D : va_G) (C : Nat → ClassId) (q_ q_numbers n_numbers : Nat) (u_room : Int32) (u_size : Int32) (u_numbers : (Nat → Int32)) (x1 : Int32) (x2 : Int32) (x3 : Int32) (z : Int32) (hF : fX5_has n_numbers u_size u_numbers x1 x2 x3 = some z) : Ct l yX5_has cX5_has 5 (some .boolean) 2 D C [.ref q_, .int x1, .int x2, .int x3] [(q_, .inr (5, [.ref q_numbers, .int u_room, .int u_size])), (q_numbers, .inl (C 0, n_numbers, .inl u_numbers))] [(q_, .inr (5, [.ref q_numbers, .int u_room, .int u_size])), (q_numbers, .inl (C 0, n_numbers, .inl u_numbers))] (some (.int z)) := by
  refine Ct_of (by decide) (Nat.le_of_ble_eq_true rfl) ?_
  intro p e R s m args below meth c A Q H locs ls cx hw hl hret
  have cx : CX p m c s args RX5 cX5_has 5 D C A R 2 := cx
  have hx := cx.1
  have hb := cx.2.1
  have hl : lv_has ls 5 [(0, .ref q_), (1, .int x1), (2, .int x2), (3, .int x3)] := hl
  rw [fX5_has.eq_1] at hF
  refine lv_iconst (v := 0) hx hb dX5_has_0 (by decide) ?_
  refine lv_istore (lv' := [(4, .int 0), (0, .ref q_), (1, .int x1), (2, .int x2), (3, .int x3)]) hx hb dX5_has_1 hl (by decide) rfl (fun ls hl => ?_)
  refine LX5_has_3 cx hret 400 0 H locs ls hF hw (lv_sub hl [1, 2, 3, 4, 0] rfl)
theorem lk_X5_31 : Cond.methodLink RX5 31 yX5_clear ∈ gdt := gdt_of 783 (by decide +kernel) (by decide +kernel)
theorem lk_X5_34 : Cond.methodLink RX5 34 yX5_add ∈ gdt := gdt_of 784 (by decide +kernel) (by decide +kernel)
theorem my_X5_clear : (yX5_clear.cls ≠ "java/lang/invoke/MethodHandle" ∧ yX5_clear.cls ≠ "java/lang/invoke/VarHandle") ∧ Cond.instanceMethod yX5_clear ∈ gdt ∧ Cond.selects yX5_clear.cls yX5_clear yX5_clear ∈ gdt ∧ Cond.initialized yX5_clear.cls ∈ gdt ∧ Cond.code yX5_clear cX5_clear 1 none ∈ gdt := ⟨⟨by decide +kernel, by decide +kernel⟩, gdt_of 510 (by decide +kernel) (by decide +kernel), gdt_of 511 (by decide +kernel) (by decide +kernel), gdt_of 71 (by decide +kernel) (by decide +kernel), gdt_of 512 (by decide +kernel) (by decide +kernel)⟩
theorem ml_X5_clear : (parseMethodDescriptor yX5_clear.desc).map (fun d => d.parameters.length) = some 0 := by decide +kernel
theorem my_X5_add : (yX5_add.cls ≠ "java/lang/invoke/MethodHandle" ∧ yX5_add.cls ≠ "java/lang/invoke/VarHandle") ∧ Cond.instanceMethod yX5_add ∈ gdt ∧ Cond.selects yX5_add.cls yX5_add yX5_add ∈ gdt ∧ Cond.initialized yX5_add.cls ∈ gdt ∧ Cond.code yX5_add cX5_add 4 (some .int) ∈ gdt := ⟨⟨by decide +kernel, by decide +kernel⟩, gdt_of 476 (by decide +kernel) (by decide +kernel), gdt_of 477 (by decide +kernel) (by decide +kernel), gdt_of 71 (by decide +kernel) (by decide +kernel), gdt_of 478 (by decide +kernel) (by decide +kernel)⟩
theorem ml_X5_add : (parseMethodDescriptor yX5_add.desc).map (fun d => d.parameters.length) = some 3 := by decide +kernel
theorem dX5_take_0 : decode cX5_take 0 = .ok (.aload_n 0, 1) := by decide +kernel
theorem dX5_take_1 : decode cX5_take 1 = .ok (.invokevirtual 31, 3) := by decide +kernel
theorem dX5_take_4 : decode cX5_take 4 = .ok (.iconst 0, 1) := by decide +kernel
theorem dX5_take_5 : decode cX5_take 5 = .ok (.istore_n 2, 1) := by decide +kernel
theorem dX5_take_6 : decode cX5_take 6 = .ok (.iload_n 2, 1) := by decide +kernel
theorem dX5_take_7 : decode cX5_take 7 = .ok (.aload_n 1, 1) := by decide +kernel
theorem dX5_take_8 : decode cX5_take 8 = .ok (.getfield 25, 3) := by decide +kernel
theorem dX5_take_11 : decode cX5_take 11 = .ok (.if_icmp .ge 32, 3) := by decide +kernel
theorem dX5_take_14 : decode cX5_take 14 = .ok (.aload_n 0, 1) := by decide +kernel
theorem dX5_take_15 : decode cX5_take 15 = .ok (.aload_n 1, 1) := by decide +kernel
theorem dX5_take_16 : decode cX5_take 16 = .ok (.iload_n 2, 1) := by decide +kernel
theorem dX5_take_17 : decode cX5_take 17 = .ok (.iconst 0, 1) := by decide +kernel
theorem dX5_take_18 : decode cX5_take 18 = .ok (.invokevirtual 28, 3) := by decide +kernel
theorem dX5_take_21 : decode cX5_take 21 = .ok (.aload_n 1, 1) := by decide +kernel
theorem dX5_take_22 : decode cX5_take 22 = .ok (.iload_n 2, 1) := by decide +kernel
theorem dX5_take_23 : decode cX5_take 23 = .ok (.iconst 1, 1) := by decide +kernel
theorem dX5_take_24 : decode cX5_take 24 = .ok (.invokevirtual 28, 3) := by decide +kernel
theorem dX5_take_27 : decode cX5_take 27 = .ok (.aload_n 1, 1) := by decide +kernel
theorem dX5_take_28 : decode cX5_take 28 = .ok (.iload_n 2, 1) := by decide +kernel
theorem dX5_take_29 : decode cX5_take 29 = .ok (.iconst 2, 1) := by decide +kernel
theorem dX5_take_30 : decode cX5_take 30 = .ok (.invokevirtual 28, 3) := by decide +kernel
theorem dX5_take_33 : decode cX5_take 33 = .ok (.invokevirtual 34, 3) := by decide +kernel
theorem dX5_take_36 : decode cX5_take 36 = .ok (.pop, 1) := by decide +kernel
theorem dX5_take_37 : decode cX5_take 37 = .ok (.iinc 2 1, 3) := by decide +kernel
theorem dX5_take_40 : decode cX5_take 40 = .ok (.goto (-34), 3) := by decide +kernel
theorem dX5_take_43 : decode cX5_take 43 = .ok (.return_, 1) := by decide +kernel
def fX5_take_L6 (n_numbers : Nat) (na1_numbers : Nat) (u_room : Int32) (ua1_size : Int32) (ua1_numbers : (Nat → Int32)) : Nat → Int32 → Int32 → (Nat → Int32) → Option (Int32 × (Nat → Int32))
  | 0, _, _, _ => none
  | n + 1, x2, u_size, u_numbers => if ua1_size ≤ x2 then (some (u_size, u_numbers)) else ((fX5_at na1_numbers ua1_size ua1_numbers x2 0).bind (fun z3 => (fX5_at na1_numbers ua1_size ua1_numbers x2 1).bind (fun z4 => (fX5_at na1_numbers ua1_size ua1_numbers x2 2).bind (fun z5 => (fX5_add n_numbers u_room u_size u_numbers z3 z4 z5).bind (fun z6 => fX5_take_L6 n_numbers na1_numbers u_room ua1_size ua1_numbers n (x2 + 1) z6.2.1 z6.2.2)))))
def fX5_take (n_numbers : Nat) (na1_numbers : Nat) (u_room : Int32) (u_numbers : (Nat → Int32)) (ua1_size : Int32) (ua1_numbers : (Nat → Int32)) : Option (Int32 × (Nat → Int32)) := (fX5_clear).bind (fun z1 => fX5_take_L6 n_numbers na1_numbers u_room ua1_size ua1_numbers 400 0 z1 u_numbers)
set_option maxRecDepth 20000 in
theorem LX5_take_6 {p : Program} {l : Launch} {e : Env} {R : Room} {s : State} {m : MethodId} {args : Array Value} {below : List Frame} {meth : Method} {c : Code} {Q : State → Prop} {D : va_G} {C : Nat → ClassId} {A : Nat → Prop} (cx : CX p m c s args RX5 cX5_take 3 D C A R 2) {q_ q_numbers qa1_ qa1_numbers n_numbers na1_numbers : Nat} {u_room : Int32} {ua1_room : Int32} {ua1_size : Int32} {ua1_numbers : (Nat → Int32)} {z : (Int32 × (Nat → Int32))} (hret : RT p l e R s m args below meth c Q D A cX5_take none [(q_, .inr (5, [.ref q_numbers, .int u_room, .int z.1])), (q_numbers, .inl (C 0, n_numbers, .inl z.2)), (qa1_, .inr (5, [.ref qa1_numbers, .int ua1_room, .int ua1_size])), (qa1_numbers, .inl (C 0, na1_numbers, .inl ua1_numbers))] none) :
    ∀ (n : Nat) (x2 : Int32) (u_size : Int32) (u_numbers : (Nat → Int32)) (H : Heap) (locs : List Loc) (ls : Array Slot), fX5_take_L6 n_numbers na1_numbers u_room ua1_size ua1_numbers n x2 u_size u_numbers = some z → HW D A s.heap H locs [(q_, .inr (5, [.ref q_numbers, .int u_room, .int u_size])), (q_numbers, .inl (C 0, n_numbers, .inl u_numbers)), (qa1_, .inr (5, [.ref qa1_numbers, .int ua1_room, .int ua1_size])), (qa1_numbers, .inl (C 0, na1_numbers, .inl ua1_numbers))] → lv_has ls 3 [(0, .ref q_), (1, .ref qa1_), (2, .int x2)] → W p l e R s m args below meth c H locs 0 0 Q (F0 m 6 ls []) := by
  have hx := cx.1
  have hb := cx.2.1
  intro n
  induction n with
  | zero => intro x2 u_size u_numbers H locs ls hF; cases hF
  | succ n ih =>
    intro x2 u_size u_numbers H locs ls hF hw hl
    rw [fX5_take_L6.eq_2] at hF
    refine lv_iload_n hx hb dX5_take_6 rfl (lv_at hl 2 rfl) ?_
    refine lv_aload_n hx hb dX5_take_7 rfl (lv_at hl 1 rfl) ?_
    refine r_get (ci := 5) (v := .int ua1_size) cx hw iX5 2 2 rfl rfl (by decide) wf_X5_25 rfl dX5_take_8 ?_
    refine lv_icmp_ge (tgt := 43) hx hb dX5_take_11 (by decide) (fun c2 => ?_) (fun c2 => ?_)
    · replace hF := oi_t c2 hF
      obtain rfl := Option.some.inj hF
      exact rt_v hret hw rfl dX5_take_43
    · replace hF := oi_f c2 hF
      refine lv_aload_n hx hb dX5_take_14 rfl (lv_at hl 0 rfl) ?_
      refine lv_aload_n hx hb dX5_take_15 rfl (lv_at hl 1 rfl) ?_
      refine lv_iload_n hx hb dX5_take_16 rfl (lv_at hl 2 rfl) ?_
      refine lv_iconst (v := 0) hx hb dX5_take_17 (by decide) ?_
      obtain ⟨z3, hz3, hF⟩ := ob hF
      refine cV (wr := [(q_, .inr (5, [.ref q_numbers, .int u_room, .int u_size])), (q_numbers, .inl (C 0, n_numbers, .inl u_numbers))]) (w2 := [(q_, .inr (5, [.ref q_numbers, .int u_room, .int u_size])), (q_numbers, .inl (C 0, n_numbers, .inl u_numbers)), (qa1_, .inr (5, [.ref qa1_numbers, .int ua1_room, .int ua1_size])), (qa1_numbers, .inl (C 0, na1_numbers, .inl ua1_numbers))]) (st2 := [.int z3, .ref q_]) cx (CX5_at l D C qa1_ qa1_numbers na1_numbers ua1_room ua1_size ua1_numbers x2 0 z3 hz3) lk_X5_28 my_X5_at ml_X5_at ⟨by decide, by decide⟩ hw [2, 3] [0, 1] [0, 1, 2, 3] rfl rfl (by decide) rfl rfl rfl rfl (Nat.le_of_ble_eq_true rfl) dX5_take_18 rfl (fun H locs hw => ?_) hl.1
      refine lv_aload_n hx hb dX5_take_21 rfl (lv_at hl 1 rfl) ?_
      refine lv_iload_n hx hb dX5_take_22 rfl (lv_at hl 2 rfl) ?_
      refine lv_iconst (v := 1) hx hb dX5_take_23 (by decide) ?_
      obtain ⟨z4, hz4, hF⟩ := ob hF
      refine cV (wr := [(q_, .inr (5, [.ref q_numbers, .int u_room, .int u_size])), (q_numbers, .inl (C 0, n_numbers, .inl u_numbers))]) (w2 := [(q_, .inr (5, [.ref q_numbers, .int u_room, .int u_size])), (q_numbers, .inl (C 0, n_numbers, .inl u_numbers)), (qa1_, .inr (5, [.ref qa1_numbers, .int ua1_room, .int ua1_size])), (qa1_numbers, .inl (C 0, na1_numbers, .inl ua1_numbers))]) (st2 := [.int z4, .int z3, .ref q_]) cx (CX5_at l D C qa1_ qa1_numbers na1_numbers ua1_room ua1_size ua1_numbers x2 1 z4 hz4) lk_X5_28 my_X5_at ml_X5_at ⟨by decide, by decide⟩ hw [2, 3] [0, 1] [0, 1, 2, 3] rfl rfl (by decide) rfl rfl rfl rfl (Nat.le_of_ble_eq_true rfl) dX5_take_24 rfl (fun H locs hw => ?_) hl.1
      refine lv_aload_n hx hb dX5_take_27 rfl (lv_at hl 1 rfl) ?_
      refine lv_iload_n hx hb dX5_take_28 rfl (lv_at hl 2 rfl) ?_
      refine lv_iconst (v := 2) hx hb dX5_take_29 (by decide) ?_
      obtain ⟨z5, hz5, hF⟩ := ob hF
      refine cV (wr := [(q_, .inr (5, [.ref q_numbers, .int u_room, .int u_size])), (q_numbers, .inl (C 0, n_numbers, .inl u_numbers))]) (w2 := [(q_, .inr (5, [.ref q_numbers, .int u_room, .int u_size])), (q_numbers, .inl (C 0, n_numbers, .inl u_numbers)), (qa1_, .inr (5, [.ref qa1_numbers, .int ua1_room, .int ua1_size])), (qa1_numbers, .inl (C 0, na1_numbers, .inl ua1_numbers))]) (st2 := [.int z5, .int z4, .int z3, .ref q_]) cx (CX5_at l D C qa1_ qa1_numbers na1_numbers ua1_room ua1_size ua1_numbers x2 2 z5 hz5) lk_X5_28 my_X5_at ml_X5_at ⟨by decide, by decide⟩ hw [2, 3] [0, 1] [0, 1, 2, 3] rfl rfl (by decide) rfl rfl rfl rfl (Nat.le_of_ble_eq_true rfl) dX5_take_30 rfl (fun H locs hw => ?_) hl.1
      obtain ⟨z6, hz6, hF⟩ := ob hF
      refine cV (wr := [(qa1_, .inr (5, [.ref qa1_numbers, .int ua1_room, .int ua1_size])), (qa1_numbers, .inl (C 0, na1_numbers, .inl ua1_numbers))]) (w2 := [(q_, .inr (5, [.ref q_numbers, .int u_room, .int z6.2.1])), (q_numbers, .inl (C 0, n_numbers, .inl z6.2.2)), (qa1_, .inr (5, [.ref qa1_numbers, .int ua1_room, .int ua1_size])), (qa1_numbers, .inl (C 0, na1_numbers, .inl ua1_numbers))]) (st2 := [.int z6.1]) cx (CX5_add l D C q_ q_numbers n_numbers u_room u_size u_numbers z3 z4 z5 z6 hz6) lk_X5_34 my_X5_add ml_X5_add ⟨by decide, by decide⟩ hw [0, 1] [2, 3] [2, 3, 0, 1] rfl rfl (by decide) rfl rfl rfl rfl (Nat.le_of_ble_eq_true rfl) dX5_take_33 rfl (fun H locs hw => ?_) hl.1
      refine lv_pop hx hb dX5_take_36 rfl ?_
      refine lv_iinc (v := x2 + 1) (lv' := [(2, .int (x2 + 1)), (0, .ref q_), (1, .ref qa1_)]) hx hb dX5_take_37 hl (k := 2) rfl rfl (by decide) rfl (fun ls hl => ?_)
      refine lv_goto (tgt := 6) hx hb dX5_take_40 (by decide) ?_
      exact ih (x2 + 1) z6.2.1 z6.2.2 H locs ls hF hw (lv_sub hl [1, 2, 0] rfl)
set_option maxRecDepth 20000 in
theorem CX5_take (l : Launch) (D : va_G) (C : Nat → ClassId) (q_ q_numbers qa1_ qa1_numbers n_numbers na1_numbers : Nat) (u_room : Int32) (u_size : Int32) (u_numbers : (Nat → Int32)) (ua1_room : Int32) (ua1_size : Int32) (ua1_numbers : (Nat → Int32)) (z : (Int32 × (Nat → Int32))) (hF : fX5_take n_numbers na1_numbers u_room u_numbers ua1_size ua1_numbers = some z) : Ct l yX5_take cX5_take 3 none 2 D C [.ref q_, .ref qa1_] [(q_, .inr (5, [.ref q_numbers, .int u_room, .int u_size])), (q_numbers, .inl (C 0, n_numbers, .inl u_numbers)), (qa1_, .inr (5, [.ref qa1_numbers, .int ua1_room, .int ua1_size])), (qa1_numbers, .inl (C 0, na1_numbers, .inl ua1_numbers))] [(q_, .inr (5, [.ref q_numbers, .int u_room, .int z.1])), (q_numbers, .inl (C 0, n_numbers, .inl z.2)), (qa1_, .inr (5, [.ref qa1_numbers, .int ua1_room, .int ua1_size])), (qa1_numbers, .inl (C 0, na1_numbers, .inl ua1_numbers))] none := by
  refine Ct_of (by decide) (Nat.le_of_ble_eq_true rfl) ?_
  intro p e R s m args below meth c A Q H locs ls cx hw hl hret
  have cx : CX p m c s args RX5 cX5_take 3 D C A R 2 := cx
  have hx := cx.1
  have hb := cx.2.1
  have hl : lv_has ls 3 [(0, .ref q_), (1, .ref qa1_)] := hl
  rw [fX5_take.eq_1] at hF
  refine lv_aload_n hx hb dX5_take_0 rfl (lv_at hl 0 rfl) ?_
  obtain ⟨z1, hz1, hF⟩ := ob hF
  refine cV (wr := [(q_numbers, .inl (C 0, n_numbers, .inl u_numbers)), (qa1_, .inr (5, [.ref qa1_numbers, .int ua1_room, .int ua1_size])), (qa1_numbers, .inl (C 0, na1_numbers, .inl ua1_numbers))]) (w2 := [(q_, .inr (5, [.ref q_numbers, .int u_room, .int z1])), (q_numbers, .inl (C 0, n_numbers, .inl u_numbers)), (qa1_, .inr (5, [.ref qa1_numbers, .int ua1_room, .int ua1_size])), (qa1_numbers, .inl (C 0, na1_numbers, .inl ua1_numbers))]) (st2 := []) cx (CX5_clear l D C q_ q_numbers u_room u_size z1 hz1) lk_X5_31 my_X5_clear ml_X5_clear ⟨by decide, by decide⟩ hw [0] [1, 2, 3] [3, 0, 1, 2] rfl rfl (by decide) rfl rfl rfl rfl (Nat.le_of_ble_eq_true rfl) dX5_take_1 rfl (fun H locs hw => ?_) hl.1
  refine lv_iconst (v := 0) hx hb dX5_take_4 (by decide) ?_
  refine lv_istore_n (lv' := [(2, .int 0), (0, .ref q_), (1, .ref qa1_)]) hx hb dX5_take_5 rfl hl (by decide) rfl (fun ls hl => ?_)
  refine LX5_take_6 cx hret 400 0 z1 u_numbers H locs ls hF hw (lv_sub hl [1, 2, 0] rfl)
