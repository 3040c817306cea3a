theorem dX9_bits_0 : decode cX9_bits 0 = .ok (.iload_n 0, 1) := by decide +kernel
theorem dX9_bits_1 : decode cX9_bits 1 = .ok (.tableswitch 47 0 3 #[31, 36, 41, 45], 31) := by decide +kernel
theorem dX9_bits_32 : decode cX9_bits 32 = .ok (.lload_n 1, 1) := by decide +kernel
theorem dX9_bits_33 : decode cX9_bits 33 = .ok (.l2i, 1) := by decide +kernel
theorem dX9_bits_34 : decode cX9_bits 34 = .ok (.i2b, 1) := by decide +kernel
theorem dX9_bits_35 : decode cX9_bits 35 = .ok (.i2l, 1) := by decide +kernel
theorem dX9_bits_36 : decode cX9_bits 36 = .ok (.lreturn, 1) := by decide +kernel
theorem dX9_bits_37 : decode cX9_bits 37 = .ok (.lload_n 1, 1) := by decide +kernel
theorem dX9_bits_38 : decode cX9_bits 38 = .ok (.l2i, 1) := by decide +kernel
theorem dX9_bits_39 : decode cX9_bits 39 = .ok (.i2s, 1) := by decide +kernel
theorem dX9_bits_40 : decode cX9_bits 40 = .ok (.i2l, 1) := by decide +kernel
theorem dX9_bits_41 : decode cX9_bits 41 = .ok (.lreturn, 1) := by decide +kernel
theorem dX9_bits_42 : decode cX9_bits 42 = .ok (.lload_n 1, 1) := by decide +kernel
theorem dX9_bits_43 : decode cX9_bits 43 = .ok (.l2i, 1) := by decide +kernel
theorem dX9_bits_44 : decode cX9_bits 44 = .ok (.i2l, 1) := by decide +kernel
theorem dX9_bits_45 : decode cX9_bits 45 = .ok (.lreturn, 1) := by decide +kernel
theorem dX9_bits_46 : decode cX9_bits 46 = .ok (.lload_n 1, 1) := by decide +kernel
theorem dX9_bits_47 : decode cX9_bits 47 = .ok (.lreturn, 1) := by decide +kernel
theorem dX9_bits_48 : decode cX9_bits 48 = .ok (.lload_n 1, 1) := by decide +kernel
theorem dX9_bits_49 : decode cX9_bits 49 = .ok (.lconst 0, 1) := by decide +kernel
theorem dX9_bits_50 : decode cX9_bits 50 = .ok (.lcmp, 1) := by decide +kernel
theorem dX9_bits_51 : decode cX9_bits 51 = .ok (.ifCond .eq 7, 3) := by decide +kernel
theorem dX9_bits_54 : decode cX9_bits 54 = .ok (.lconst 1, 1) := by decide +kernel
theorem dX9_bits_55 : decode cX9_bits 55 = .ok (.goto 4, 3) := by decide +kernel
theorem dX9_bits_58 : decode cX9_bits 58 = .ok (.lconst 0, 1) := by decide +kernel
theorem dX9_bits_59 : decode cX9_bits 59 = .ok (.lreturn, 1) := by decide +kernel
def fX9_bits (x0 : Int32) (x1 : Int64) : Option Int64 := if x0 = 0 then (some ((((x1 : Int64).toInt32 : Int32).toInt8.toInt32 : Int32).toInt64)) else (if x0 = 1 then (some ((((x1 : Int64).toInt32 : Int32).toInt16.toInt32 : Int32).toInt64)) else (if x0 = 2 then (some (((x1 : Int64).toInt32 : Int32).toInt64)) else (if x0 = 3 then (some x1) else (if (lg_cmp x1 0) = 0 then (some 0) else (some 1)))))
set_option maxRecDepth 20000 in
theorem CX9_bits (l : Launch) (D : va_G) (C : Nat → ClassId)  (x0 : Int32) (x1 : Int64) (z : Int64) (hF : fX9_bits x0 x1 = some z) : Ct l yX9_bits cX9_bits 3 (some .long) 1 D C [.int x0, .long x1] [] [] (some (.long z)) := by
  refine Ct_of (by decide) (Nat.le_of_ble_eq_true rfl) ?_
  intro p e R s m args below meth c A Q H locs ls cx hw hl hret
  have cx : CX p m c s args RX9 cX9_bits 3 D C A R 1 := cx
  have hx := cx.1
  have hb := cx.2.1
  have hl : lv_has ls 3 [(0, .int x0), (1, .long x1)] := hl
  rw [fX9_bits.eq_1] at hF
  refine lv_iload_n hx hb dX9_bits_0 rfl (lv_at hl 0 rfl) ?_
  by_cases c1 : x0 = 0
  · replace hF := oi_t c1 hF
    refine lv_tableIn (tgt := 32) (off := 31) hx hb dX9_bits_1 (by rw [c1]; decide) (by rw [c1]; decide) (by rw [c1]; decide +kernel) (by decide) ?_
    refine lv_lload_n hx hb dX9_bits_32 rfl (lv_at hl 1 rfl) ?_
    refine lv_l2i (v := (x1 : Int64).toInt32) hx hb dX9_bits_33 rfl ?_
    refine lv_i2b (v := ((x1 : Int64).toInt32 : Int32).toInt8.toInt32) hx hb dX9_bits_34 rfl ?_
    refine lv_i2l (v := (((x1 : Int64).toInt32 : Int32).toInt8.toInt32 : Int32).toInt64) hx hb dX9_bits_35 rfl ?_
    obtain rfl := Option.some.inj hF
    exact rt_l hret hw rfl dX9_bits_36
  replace hF := oi_f c1 hF
  by_cases c2 : x0 = 1
  · replace hF := oi_t c2 hF
    refine lv_tableIn (tgt := 37) (off := 36) hx hb dX9_bits_1 (by rw [c2]; decide) (by rw [c2]; decide) (by rw [c2]; decide +kernel) (by decide) ?_
    refine lv_lload_n hx hb dX9_bits_37 rfl (lv_at hl 1 rfl) ?_
    refine lv_l2i (v := (x1 : Int64).toInt32) hx hb dX9_bits_38 rfl ?_
    refine lv_i2s (v := ((x1 : Int64).toInt32 : Int32).toInt16.toInt32) hx hb dX9_bits_39 rfl ?_
    refine lv_i2l (v := (((x1 : Int64).toInt32 : Int32).toInt16.toInt32 : Int32).toInt64) hx hb dX9_bits_40 rfl ?_
    obtain rfl := Option.some.inj hF
    exact rt_l hret hw rfl dX9_bits_41
  replace hF := oi_f c2 hF
  by_cases c3 : x0 = 2
  · replace hF := oi_t c3 hF
    refine lv_tableIn (tgt := 42) (off := 41) hx hb dX9_bits_1 (by rw [c3]; decide) (by rw [c3]; decide) (by rw [c3]; decide +kernel) (by decide) ?_
    refine lv_lload_n hx hb dX9_bits_42 rfl (lv_at hl 1 rfl) ?_
    refine lv_l2i (v := (x1 : Int64).toInt32) hx hb dX9_bits_43 rfl ?_
    refine lv_i2l (v := ((x1 : Int64).toInt32 : Int32).toInt64) hx hb dX9_bits_44 rfl ?_
    obtain rfl := Option.some.inj hF
    exact rt_l hret hw rfl dX9_bits_45
  replace hF := oi_f c3 hF
  by_cases c4 : x0 = 3
  · replace hF := oi_t c4 hF
    refine lv_tableIn (tgt := 46) (off := 45) hx hb dX9_bits_1 (by rw [c4]; decide) (by rw [c4]; decide) (by rw [c4]; decide +kernel) (by decide) ?_
    refine lv_lload_n hx hb dX9_bits_46 rfl (lv_at hl 1 rfl) ?_
    obtain rfl := Option.some.inj hF
    exact rt_l hret hw rfl dX9_bits_47
  replace hF := oi_f c4 hF
  have t1 := ti_ne (n := 0) (by decide) c1
  have t2 := ti_ne (n := 1) (by decide) c2
  have t3 := ti_ne (n := 2) (by decide) c3
  have t4 := ti_ne (n := 3) (by decide) c4
  refine lv_tableOut (tgt := 48) hx hb dX9_bits_1 (by omega) (by decide) ?_
  refine lv_lload_n hx hb dX9_bits_48 rfl (lv_at hl 1 rfl) ?_
  refine lv_lconst (v := 0) hx hb dX9_bits_49 (by decide) ?_
  refine W.lcmp hx hb dX9_bits_50 ?_
  refine lv_if_eq (tgt := 58) hx hb dX9_bits_51 (by decide) (fun c5 => ?_) (fun c5 => ?_)
  · replace hF := oi_t c5 hF
    refine lv_lconst (v := 0) hx hb dX9_bits_58 (by decide) ?_
    obtain rfl := Option.some.inj hF
    exact rt_l hret hw rfl dX9_bits_59
  · replace hF := oi_f c5 hF
    refine lv_lconst (v := 1) hx hb dX9_bits_54 (by decide) ?_
    refine lv_goto (tgt := 59) hx hb dX9_bits_55 (by decide) ?_
    obtain rfl := Option.some.inj hF
    exact rt_l hret hw rfl dX9_bits_59
theorem lk_X9_275 : Cond.methodLink RX9 275 yX9_bits ∈ gdt := gdt_of 1243 (by decide +kernel) (by decide +kernel)
theorem my_X9_bits : (yX9_bits.cls ≠ "java/lang/invoke/MethodHandle" ∧ yX9_bits.cls ≠ "java/lang/invoke/VarHandle") ∧ Cond.static yX9_bits ∈ gdt ∧ Cond.initialized yX9_bits.cls ∈ gdt ∧ Cond.code yX9_bits cX9_bits 3 (some .long) ∈ gdt := ⟨⟨by decide +kernel, by decide +kernel⟩, gdt_of 1244 (by decide +kernel) (by decide +kernel), gdt_of 77 (by decide +kernel) (by decide +kernel), gdt_of 1245 (by decide +kernel) (by decide +kernel)⟩
theorem ml_X9_bits : (parseMethodDescriptor yX9_bits.desc).map (fun d => d.parameters.length) = some 2 := by decide +kernel
theorem dX9_item_0 : decode cX9_item 0 = .ok (.iload_n 1, 1) := by decide +kernel
theorem dX9_item_1 : decode cX9_item 1 = .ok (.invokestatic 264, 3) := by decide +kernel
theorem dX9_item_4 : decode cX9_item 4 = .ok (.ifCond .ne 5, 3) := by decide +kernel
theorem dX9_item_7 : decode cX9_item 7 = .ok (.iconst (-1), 1) := by decide +kernel
theorem dX9_item_8 : decode cX9_item 8 = .ok (.ireturn, 1) := by decide +kernel
theorem dX9_item_9 : decode cX9_item 9 = .ok (.aload_n 0, 1) := by decide +kernel
theorem dX9_item_10 : decode cX9_item 10 = .ok (.getfield 66, 3) := by decide +kernel
theorem dX9_item_13 : decode cX9_item 13 = .ok (.iload_n 1, 1) := by decide +kernel
theorem dX9_item_14 : decode cX9_item 14 = .ok (.iaload, 1) := by decide +kernel
theorem dX9_item_15 : decode cX9_item 15 = .ok (.ifCond .ge 6, 3) := by decide +kernel
theorem dX9_item_18 : decode cX9_item 18 = .ok (.bipush (-11), 2) := by decide +kernel
theorem dX9_item_20 : decode cX9_item 20 = .ok (.ireturn, 1) := by decide +kernel
theorem dX9_item_21 : decode cX9_item 21 = .ok (.iload_n 2, 1) := by decide +kernel
theorem dX9_item_22 : decode cX9_item 22 = .ok (.iconst 0, 1) := by decide +kernel
theorem dX9_item_23 : decode cX9_item 23 = .ok (.aload_n 0, 1) := by decide +kernel
theorem dX9_item_24 : decode cX9_item 24 = .ok (.getfield 69, 3) := by decide +kernel
theorem dX9_item_27 : decode cX9_item 27 = .ok (.iload_n 1, 1) := by decide +kernel
theorem dX9_item_28 : decode cX9_item 28 = .ok (.iaload, 1) := by decide +kernel
theorem dX9_item_29 : decode cX9_item 29 = .ok (.iconst 1, 1) := by decide +kernel
theorem dX9_item_30 : decode cX9_item 30 = .ok (.isub, 1) := by decide +kernel
theorem dX9_item_31 : decode cX9_item 31 = .ok (.invokestatic 80, 3) := by decide +kernel
theorem dX9_item_34 : decode cX9_item 34 = .ok (.ifCond .ne 6, 3) := by decide +kernel
theorem dX9_item_37 : decode cX9_item 37 = .ok (.bipush (-13), 2) := by decide +kernel
theorem dX9_item_39 : decode cX9_item 39 = .ok (.ireturn, 1) := by decide +kernel
theorem dX9_item_40 : decode cX9_item 40 = .ok (.aload_n 0, 1) := by decide +kernel
theorem dX9_item_41 : decode cX9_item 41 = .ok (.getfield 72, 3) := by decide +kernel
theorem dX9_item_44 : decode cX9_item 44 = .ok (.bipush 60, 2) := by decide +kernel
theorem dX9_item_46 : decode cX9_item 46 = .ok (.iload_n 1, 1) := by decide +kernel
theorem dX9_item_47 : decode cX9_item 47 = .ok (.imul, 1) := by decide +kernel
theorem dX9_item_48 : decode cX9_item 48 = .ok (.iload_n 2, 1) := by decide +kernel
theorem dX9_item_49 : decode cX9_item 49 = .ok (.iadd, 1) := by decide +kernel
theorem dX9_item_50 : decode cX9_item 50 = .ok (.aload_n 0, 1) := by decide +kernel
theorem dX9_item_51 : decode cX9_item 51 = .ok (.getfield 66, 3) := by decide +kernel
theorem dX9_item_54 : decode cX9_item 54 = .ok (.iload_n 1, 1) := by decide +kernel
theorem dX9_item_55 : decode cX9_item 55 = .ok (.iaload, 1) := by decide +kernel
theorem dX9_item_56 : decode cX9_item 56 = .ok (.lload_n 3, 1) := by decide +kernel
theorem dX9_item_57 : decode cX9_item 57 = .ok (.invokestatic 275, 3) := by decide +kernel
theorem dX9_item_60 : decode cX9_item 60 = .ok (.lastore, 1) := by decide +kernel
theorem dX9_item_61 : decode cX9_item 61 = .ok (.iconst 1, 1) := by decide +kernel
theorem dX9_item_62 : decode cX9_item 62 = .ok (.ireturn, 1) := by decide +kernel
def fX9_item (u_tapeSort : (Nat → Int32)) (u_tapeSize : (Nat → Int32)) (u_items : (Nat → Int64)) (x1 : Int32) (x2 : Int32) (x3 : Int64) : Option (Int32 × (Nat → Int64)) := (fX9_isTape x1).bind (fun z1 => if z1 = 0 then (some ((-1), u_items)) else (gA x1 6 (if 0 ≤ (u_tapeSort (x1).toNatClampNeg) then (gA x1 6 ((fX9_within x2 0 ((u_tapeSize (x1).toNatClampNeg) - 1)).bind (fun z6 => if z6 = 0 then (some ((-13), u_items)) else (gA x1 6 ((fX9_bits (u_tapeSort (x1).toNatClampNeg) x3).bind (fun z9 => gA ((60 * x1) + x2) 360 (some (1, vp_updL u_items ((60 * x1) + x2 : Int32).toNatClampNeg z9)))))))) else (some ((-11), u_items)))))
set_option maxRecDepth 20000 in
theorem CX9_item (l : Launch) (D : va_G) (C : Nat → ClassId) (q_ q_owes q_denies q_debt q_cut q_sight q_event q_book q_text q_path q_ring q_balance q_left q_sum q_parts q_group q_payment q_then q_image q_tapeSort q_tapeSize q_items : Nat) (u_people : Int32) (u_debts : Int32) (u_cuts : Int32) (u_seen : Int32) (u_events : Int32) (u_inBook : Int32) (u_texted : Int32) (u_rule : Int32) (u_rings : Int32) (u_size : Int32) (u_least : Int32) (u_worth : Int64) (u_groups : Int32) (u_paid : Int32) (u_imaged : Int32) (u_tapeSort : (Nat → Int32)) (u_tapeSize : (Nat → Int32)) (u_items : (Nat → Int64)) (x1 : Int32) (x2 : Int32) (x3 : Int64) (z : (Int32 × (Nat → Int64))) (hF : fX9_item u_tapeSort u_tapeSize u_items x1 x2 x3 = some z) : Ct l yX9_item cX9_item 5 (some .int) 3 D C [.ref q_, .int x1, .int x2, .long x3] [(q_, .inr (9, [.int u_people, .ref q_owes, .ref q_denies, .int u_debts, .ref q_debt, .int u_cuts, .ref q_cut, .int u_seen, .ref q_sight, .int u_events, .ref q_event, .int u_inBook, .ref q_book, .int u_texted, .ref q_text, .ref q_path, .int u_rule, .int u_rings, .int u_size, .int u_least, .long u_worth, .ref q_ring, .ref q_balance, .ref q_left, .ref q_sum, .ref q_parts, .int u_groups, .ref q_group, .int u_paid, .ref q_payment, .ref q_then, .int u_imaged, .ref q_image, .ref q_tapeSort, .ref q_tapeSize, .ref q_items])), (q_tapeSort, .inl (C 0, 6, .inl u_tapeSort)), (q_tapeSize, .inl (C 0, 6, .inl u_tapeSize)), (q_items, .inl (C 1, 360, .inr (.inl u_items)))] [(q_, .inr (9, [.int u_people, .ref q_owes, .ref q_denies, .int u_debts, .ref q_debt, .int u_cuts, .ref q_cut, .int u_seen, .ref q_sight, .int u_events, .ref q_event, .int u_inBook, .ref q_book, .int u_texted, .ref q_text, .ref q_path, .int u_rule, .int u_rings, .int u_size, .int u_least, .long u_worth, .ref q_ring, .ref q_balance, .ref q_left, .ref q_sum, .ref q_parts, .int u_groups, .ref q_group, .int u_paid, .ref q_payment, .ref q_then, .int u_imaged, .ref q_image, .ref q_tapeSort, .ref q_tapeSize, .ref q_items])), (q_tapeSort, .inl (C 0, 6, .inl u_tapeSort)), (q_tapeSize, .inl (C 0, 6, .inl u_tapeSize)), (q_items, .inl (C 1, 360, .inr (.inl z.2)))] (some (.int z.1)) := by
  refine Ct_of (by decide) (Nat.le_of_ble_eq_true rfl) ?_
  intro p e R s m args below meth c A Q H locs ls cx hw hl hret
  have cx : CX p m c s args RX9 cX9_item 5 D C A R 3 := cx
  have hx := cx.1
  have hb := cx.2.1
  have hl : lv_has ls 5 [(0, .ref q_), (1, .int x1), (2, .int x2), (3, .long x3)] := hl
  rw [fX9_item.eq_1] at hF
  refine lv_iload_n hx hb dX9_item_0 rfl (lv_at hl 1 rfl) ?_
  obtain ⟨z1, hz1, hF⟩ := ob hF
  refine cS (wr := [(q_, .inr (9, [.int u_people, .ref q_owes, .ref q_denies, .int u_debts, .ref q_debt, .int u_cuts, .ref q_cut, .int u_seen, .ref q_sight, .int u_events, .ref q_event, .int u_inBook, .ref q_book, .int u_texted, .ref q_text, .ref q_path, .int u_rule, .int u_rings, .int u_size, .int u_least, .long u_worth, .ref q_ring, .ref q_balance, .ref q_left, .ref q_sum, .ref q_parts, .int u_groups, .ref q_group, .int u_paid, .ref q_payment, .ref q_then, .int u_imaged, .ref q_image, .ref q_tapeSort, .ref q_tapeSize, .ref q_items])), (q_tapeSort, .inl (C 0, 6, .inl u_tapeSort)), (q_tapeSize, .inl (C 0, 6, .inl u_tapeSize)), (q_items, .inl (C 1, 360, .inr (.inl u_items)))]) (w2 := [(q_, .inr (9, [.int u_people, .ref q_owes, .ref q_denies, .int u_debts, .ref q_debt, .int u_cuts, .ref q_cut, .int u_seen, .ref q_sight, .int u_events, .ref q_event, .int u_inBook, .ref q_book, .int u_texted, .ref q_text, .ref q_path, .int u_rule, .int u_rings, .int u_size, .int u_least, .long u_worth, .ref q_ring, .ref q_balance, .ref q_left, .ref q_sum, .ref q_parts, .int u_groups, .ref q_group, .int u_paid, .ref q_payment, .ref q_then, .int u_imaged, .ref q_image, .ref q_tapeSort, .ref q_tapeSize, .ref q_items])), (q_tapeSort, .inl (C 0, 6, .inl u_tapeSort)), (q_tapeSize, .inl (C 0, 6, .inl u_tapeSize)), (q_items, .inl (C 1, 360, .inr (.inl u_items)))]) (st2 := [.int z1]) cx (CX9_isTape l D C x1 z1 hz1) lk_X9_264 my_X9_isTape ml_X9_isTape ⟨by decide, by decide⟩ hw [] [0, 1, 2, 3] [0, 1, 2, 3] rfl rfl (by decide) rfl rfl (Nat.le_of_ble_eq_true rfl) dX9_item_1 rfl (fun H locs hw => ?_) hl.1
  refine lv_if_ne (tgt := 9) hx hb dX9_item_4 (by decide) (fun c2 => ?_) (fun c2 => ?_)
  · replace hF := oi_f c2 hF
    refine lv_aload_n hx hb dX9_item_9 rfl (lv_at hl 0 rfl) ?_
    refine r_get (ci := 9) (v := .ref q_tapeSort) cx hw iX9 0 33 rfl rfl (by decide) wf_X9_66 rfl dX9_item_10 ?_
    refine lv_iload_n hx hb dX9_item_13 rfl (lv_at hl 1 rfl) ?_
    obtain ⟨g3, hF⟩ := gA_s hF
    refine r_iald cx hw 1 rfl g3 dX9_item_14 ?_
    refine lv_if_ge (tgt := 21) hx hb dX9_item_15 (by decide) (fun c4 => ?_) (fun c4 => ?_)
    · replace hF := oi_t c4 hF
      refine lv_iload_n hx hb dX9_item_21 rfl (lv_at hl 2 rfl) ?_
      refine lv_iconst (v := 0) hx hb dX9_item_22 (by decide) ?_
      refine lv_aload_n hx hb dX9_item_23 rfl (lv_at hl 0 rfl) ?_
      refine r_get (ci := 9) (v := .ref q_tapeSize) cx hw iX9 0 34 rfl rfl (by decide) wf_X9_69 rfl dX9_item_24 ?_
      refine lv_iload_n hx hb dX9_item_27 rfl (lv_at hl 1 rfl) ?_
      obtain ⟨g5, hF⟩ := gA_s hF
      refine r_iald cx hw 2 rfl g5 dX9_item_28 ?_
      refine lv_iconst (v := 1) hx hb dX9_item_29 (by decide) ?_
      refine lv_isub hx hb dX9_item_30 ?_
      obtain ⟨z6, hz6, hF⟩ := ob hF
      refine cS (wr := [(q_, .inr (9, [.int u_people, .ref q_owes, .ref q_denies, .int u_debts, .ref q_debt, .int u_cuts, .ref q_cut, .int u_seen, .ref q_sight, .int u_events, .ref q_event, .int u_inBook, .ref q_book, .int u_texted, .ref q_text, .ref q_path, .int u_rule, .int u_rings, .int u_size, .int u_least, .long u_worth, .ref q_ring, .ref q_balance, .ref q_left, .ref q_sum, .ref q_parts, .int u_groups, .ref q_group, .int u_paid, .ref q_payment, .ref q_then, .int u_imaged, .ref q_image, .ref q_tapeSort, .ref q_tapeSize, .ref q_items])), (q_tapeSort, .inl (C 0, 6, .inl u_tapeSort)), (q_tapeSize, .inl (C 0, 6, .inl u_tapeSize)), (q_items, .inl (C 1, 360, .inr (.inl u_items)))]) (w2 := [(q_, .inr (9, [.int u_people, .ref q_owes, .ref q_denies, .int u_debts, .ref q_debt, .int u_cuts, .ref q_cut, .int u_seen, .ref q_sight, .int u_events, .ref q_event, .int u_inBook, .ref q_book, .int u_texted, .ref q_text, .ref q_path, .int u_rule, .int u_rings, .int u_size, .int u_least, .long u_worth, .ref q_ring, .ref q_balance, .ref q_left, .ref q_sum, .ref q_parts, .int u_groups, .ref q_group, .int u_paid, .ref q_payment, .ref q_then, .int u_imaged, .ref q_image, .ref q_tapeSort, .ref q_tapeSize, .ref q_items])), (q_tapeSort, .inl (C 0, 6, .inl u_tapeSort)), (q_tapeSize, .inl (C 0, 6, .inl u_tapeSize)), (q_items, .inl (C 1, 360, .inr (.inl u_items)))]) (st2 := [.int z6]) cx (CX9_within l D C x2 0 ((u_tapeSize (x1).toNatClampNeg) - 1) z6 hz6) lk_X9_80 my_X9_within ml_X9_within ⟨by decide, by decide⟩ hw [] [0, 1, 2, 3] [0, 1, 2, 3] rfl rfl (by decide) rfl rfl (Nat.le_of_ble_eq_true rfl) dX9_item_31 rfl (fun H locs hw => ?_) hl.1
      refine lv_if_ne (tgt := 40) hx hb dX9_item_34 (by decide) (fun c7 => ?_) (fun c7 => ?_)
      · replace hF := oi_f c7 hF
        refine lv_aload_n hx hb dX9_item_40 rfl (lv_at hl 0 rfl) ?_
        refine r_get (ci := 9) (v := .ref q_items) cx hw iX9 0 35 rfl rfl (by decide) wf_X9_72 rfl dX9_item_41 ?_
        refine lv_bipush (v := 60) hx hb dX9_item_44 (by decide) ?_
        refine lv_iload_n hx hb dX9_item_46 rfl (lv_at hl 1 rfl) ?_
        refine lv_imul hx hb dX9_item_47 ?_
        refine lv_iload_n hx hb dX9_item_48 rfl (lv_at hl 2 rfl) ?_
        refine lv_iadd hx hb dX9_item_49 ?_
        refine lv_aload_n hx hb dX9_item_50 rfl (lv_at hl 0 rfl) ?_
        refine r_get (ci := 9) (v := .ref q_tapeSort) cx hw iX9 0 33 rfl rfl (by decide) wf_X9_66 rfl dX9_item_51 ?_
        refine lv_iload_n hx hb dX9_item_54 rfl (lv_at hl 1 rfl) ?_
        obtain ⟨g8, hF⟩ := gA_s hF
        refine r_iald cx hw 1 rfl g8 dX9_item_55 ?_
        refine lv_lload_n hx hb dX9_item_56 rfl (lv_at hl 3 rfl) ?_
        obtain ⟨z9, hz9, hF⟩ := ob hF
        refine cS (wr := [(q_, .inr (9, [.int u_people, .ref q_owes, .ref q_denies, .int u_debts, .ref q_debt, .int u_cuts, .ref q_cut, .int u_seen, .ref q_sight, .int u_events, .ref q_event, .int u_inBook, .ref q_book, .int u_texted, .ref q_text, .ref q_path, .int u_rule, .int u_rings, .int u_size, .int u_least, .long u_worth, .ref q_ring, .ref q_balance, .ref q_left, .ref q_sum, .ref q_parts, .int u_groups, .ref q_group, .int u_paid, .ref q_payment, .ref q_then, .int u_imaged, .ref q_image, .ref q_tapeSort, .ref q_tapeSize, .ref q_items])), (q_tapeSort, .inl (C 0, 6, .inl u_tapeSort)), (q_tapeSize, .inl (C 0, 6, .inl u_tapeSize)), (q_items, .inl (C 1, 360, .inr (.inl u_items)))]) (w2 := [(q_, .inr (9, [.int u_people, .ref q_owes, .ref q_denies, .int u_debts, .ref q_debt, .int u_cuts, .ref q_cut, .int u_seen, .ref q_sight, .int u_events, .ref q_event, .int u_inBook, .ref q_book, .int u_texted, .ref q_text, .ref q_path, .int u_rule, .int u_rings, .int u_size, .int u_least, .long u_worth, .ref q_ring, .ref q_balance, .ref q_left, .ref q_sum, .ref q_parts, .int u_groups, .ref q_group, .int u_paid, .ref q_payment, .ref q_then, .int u_imaged, .ref q_image, .ref q_tapeSort, .ref q_tapeSize, .ref q_items])), (q_tapeSort, .inl (C 0, 6, .inl u_tapeSort)), (q_tapeSize, .inl (C 0, 6, .inl u_tapeSize)), (q_items, .inl (C 1, 360, .inr (.inl u_items)))]) (st2 := [.long z9, .int ((60 * x1) + x2), .ref q_items]) cx (CX9_bits l D C (u_tapeSort (x1).toNatClampNeg) x3 z9 hz9) lk_X9_275 my_X9_bits ml_X9_bits ⟨by decide, by decide⟩ hw [] [0, 1, 2, 3] [0, 1, 2, 3] rfl rfl (by decide) rfl rfl (Nat.le_of_ble_eq_true rfl) dX9_item_57 rfl (fun H locs hw => ?_) hl.1
        obtain ⟨g10, hF⟩ := gA_s hF
        refine r_last (w2 := [(q_, .inr (9, [.int u_people, .ref q_owes, .ref q_denies, .int u_debts, .ref q_debt, .int u_cuts, .ref q_cut, .int u_seen, .ref q_sight, .int u_events, .ref q_event, .int u_inBook, .ref q_book, .int u_texted, .ref q_text, .ref q_path, .int u_rule, .int u_rings, .int u_size, .int u_least, .long u_worth, .ref q_ring, .ref q_balance, .ref q_left, .ref q_sum, .ref q_parts, .int u_groups, .ref q_group, .int u_paid, .ref q_payment, .ref q_then, .int u_imaged, .ref q_image, .ref q_tapeSort, .ref q_tapeSize, .ref q_items])), (q_tapeSort, .inl (C 0, 6, .inl u_tapeSort)), (q_tapeSize, .inl (C 0, 6, .inl u_tapeSize)), (q_items, .inl (C 1, 360, .inr (.inl (vp_updL u_items ((60 * x1) + x2 : Int32).toNatClampNeg z9))))]) cx hw 3 rfl g10 dX9_item_60 rfl (fun H locs hw => ?_)
        refine lv_iconst (v := 1) hx hb dX9_item_61 (by decide) ?_
        obtain rfl := Option.some.inj hF
        exact rt_i hret hw rfl dX9_item_62
      · replace hF := oi_t c7 hF
        refine lv_bipush (v := (-13)) hx hb dX9_item_37 (by decide) ?_
        obtain rfl := Option.some.inj hF
        exact rt_i hret hw rfl dX9_item_39
    · replace hF := oi_f c4 hF
      refine lv_bipush (v := (-11)) hx hb dX9_item_18 (by decide) ?_
      obtain rfl := Option.some.inj hF
      exact rt_i hret hw rfl dX9_item_20
  · replace hF := oi_t c2 hF
    refine lv_iconst (v := (-1)) hx hb dX9_item_7 (by decide) ?_
    obtain rfl := Option.some.inj hF
    exact rt_i hret hw rfl dX9_item_8
theorem dX9_peek_0 : decode cX9_peek 0 = .ok (.iload_n 1, 1) := by decide +kernel
theorem dX9_peek_1 : decode cX9_peek 1 = .ok (.invokestatic 264, 3) := by decide +kernel
theorem dX9_peek_4 : decode cX9_peek 4 = .ok (.ifCond .eq 42, 3) := by decide +kernel
theorem dX9_peek_7 : decode cX9_peek 7 = .ok (.aload_n 0, 1) := by decide +kernel
theorem dX9_peek_8 : decode cX9_peek 8 = .ok (.getfield 66, 3) := by decide +kernel
theorem dX9_peek_11 : decode cX9_peek 11 = .ok (.iload_n 1, 1) := by decide +kernel
theorem dX9_peek_12 : decode cX9_peek 12 = .ok (.iaload, 1) := by decide +kernel
theorem dX9_peek_13 : decode cX9_peek 13 = .ok (.ifCond .lt 33, 3) := by decide +kernel
theorem dX9_peek_16 : decode cX9_peek 16 = .ok (.iload_n 2, 1) := by decide +kernel
theorem dX9_peek_17 : decode cX9_peek 17 = .ok (.iconst 0, 1) := by decide +kernel
theorem dX9_peek_18 : decode cX9_peek 18 = .ok (.aload_n 0, 1) := by decide +kernel
theorem dX9_peek_19 : decode cX9_peek 19 = .ok (.getfield 69, 3) := by decide +kernel
theorem dX9_peek_22 : decode cX9_peek 22 = .ok (.iload_n 1, 1) := by decide +kernel
theorem dX9_peek_23 : decode cX9_peek 23 = .ok (.iaload, 1) := by decide +kernel
theorem dX9_peek_24 : decode cX9_peek 24 = .ok (.iconst 1, 1) := by decide +kernel
theorem dX9_peek_25 : decode cX9_peek 25 = .ok (.isub, 1) := by decide +kernel
theorem dX9_peek_26 : decode cX9_peek 26 = .ok (.invokestatic 80, 3) := by decide +kernel
theorem dX9_peek_29 : decode cX9_peek 29 = .ok (.ifCond .eq 17, 3) := by decide +kernel
theorem dX9_peek_32 : decode cX9_peek 32 = .ok (.aload_n 0, 1) := by decide +kernel
theorem dX9_peek_33 : decode cX9_peek 33 = .ok (.getfield 72, 3) := by decide +kernel
theorem dX9_peek_36 : decode cX9_peek 36 = .ok (.bipush 60, 2) := by decide +kernel
theorem dX9_peek_38 : decode cX9_peek 38 = .ok (.iload_n 1, 1) := by decide +kernel
theorem dX9_peek_39 : decode cX9_peek 39 = .ok (.imul, 1) := by decide +kernel
theorem dX9_peek_40 : decode cX9_peek 40 = .ok (.iload_n 2, 1) := by decide +kernel
theorem dX9_peek_41 : decode cX9_peek 41 = .ok (.iadd, 1) := by decide +kernel
theorem dX9_peek_42 : decode cX9_peek 42 = .ok (.laload, 1) := by decide +kernel
theorem dX9_peek_43 : decode cX9_peek 43 = .ok (.goto 6, 3) := by decide +kernel
theorem dX9_peek_46 : decode cX9_peek 46 = .ok (.ldc2_w 173, 3) := by decide +kernel
theorem dX9_peek_49 : decode cX9_peek 49 = .ok (.lreturn, 1) := by decide +kernel
def fX9_peek (u_tapeSort : (Nat → Int32)) (u_tapeSize : (Nat → Int32)) (u_items : (Nat → Int64)) (x1 : Int32) (x2 : Int32) : Option Int64 := (fX9_isTape x1).bind (fun z1 => if z1 = 0 then (some (-9223372036854775808)) else (gA x1 6 (if (u_tapeSort (x1).toNatClampNeg) < 0 then (some (-9223372036854775808)) else (gA x1 6 ((fX9_within x2 0 ((u_tapeSize (x1).toNatClampNeg) - 1)).bind (fun z6 => if z6 = 0 then (some (-9223372036854775808)) else (gA ((60 * x1) + x2) 360 (some (u_items ((60 * x1) + x2).toNatClampNeg)))))))))
set_option maxRecDepth 20000 in
theorem CX9_peek (l : Launch) (D : va_G) (C : Nat → ClassId) (q_ q_owes q_denies q_debt q_cut q_sight q_event q_book q_text q_path q_ring q_balance q_left q_sum q_parts q_group q_payment q_then q_image q_tapeSort q_tapeSize q_items : Nat) (u_people : Int32) (u_debts : Int32) (u_cuts : Int32) (u_seen : Int32) (u_events : Int32) (u_inBook : Int32) (u_texted : Int32) (u_rule : Int32) (u_rings : Int32) (u_size : Int32) (u_least : Int32) (u_worth : Int64) (u_groups : Int32) (u_paid : Int32) (u_imaged : Int32) (u_tapeSort : (Nat → Int32)) (u_tapeSize : (Nat → Int32)) (u_items : (Nat → Int64)) (x1 : Int32) (x2 : Int32) (z : Int64) (hF : fX9_peek u_tapeSort u_tapeSize u_items x1 x2 = some z) : Ct l yX9_peek cX9_peek 3 (some .long) 3 D C [.ref q_, .int x1, .int x2] [(q_, .inr (9, [.int u_people, .ref q_owes, .ref q_denies, .int u_debts, .ref q_debt, .int u_cuts, .ref q_cut, .int u_seen, .ref q_sight, .int u_events, .ref q_event, .int u_inBook, .ref q_book, .int u_texted, .ref q_text, .ref q_path, .int u_rule, .int u_rings, .int u_size, .int u_least, .long u_worth, .ref q_ring, .ref q_balance, .ref q_left, .ref q_sum, .ref q_parts, .int u_groups, .ref q_group, .int u_paid, .ref q_payment, .ref q_then, .int u_imaged, .ref q_image, .ref q_tapeSort, .ref q_tapeSize, .ref q_items])), (q_tapeSort, .inl (C 0, 6, .inl u_tapeSort)), (q_tapeSize, .inl (C 0, 6, .inl u_tapeSize)), (q_items, .inl (C 1, 360, .inr (.inl u_items)))] [(q_, .inr (9, [.int u_people, .ref q_owes, .ref q_denies, .int u_debts, .ref q_debt, .int u_cuts, .ref q_cut, .int u_seen, .ref q_sight, .int u_events, .ref q_event, .int u_inBook, .ref q_book, .int u_texted, .ref q_text, .ref q_path, .int u_rule, .int u_rings, .int u_size, .int u_least, .long u_worth, .ref q_ring, .ref q_balance, .ref q_left, .ref q_sum, .ref q_parts, .int u_groups, .ref q_group, .int u_paid, .ref q_payment, .ref q_then, .int u_imaged, .ref q_image, .ref q_tapeSort, .ref q_tapeSize, .ref q_items])), (q_tapeSort, .inl (C 0, 6, .inl u_tapeSort)), (q_tapeSize, .inl (C 0, 6, .inl u_tapeSize)), (q_items, .inl (C 1, 360, .inr (.inl u_items)))] (some (.long z)) := by
  refine Ct_of (by decide) (Nat.le_of_ble_eq_true rfl) ?_
  intro p e R s m args below meth c A Q H locs ls cx hw hl hret
  have cx : CX p m c s args RX9 cX9_peek 3 D C A R 3 := cx
  have hx := cx.1
  have hb := cx.2.1
  have hl : lv_has ls 3 [(0, .ref q_), (1, .int x1), (2, .int x2)] := hl
  rw [fX9_peek.eq_1] at hF
  refine lv_iload_n hx hb dX9_peek_0 rfl (lv_at hl 1 rfl) ?_
  obtain ⟨z1, hz1, hF⟩ := ob hF
  refine cS (wr := [(q_, .inr (9, [.int u_people, .ref q_owes, .ref q_denies, .int u_debts, .ref q_debt, .int u_cuts, .ref q_cut, .int u_seen, .ref q_sight, .int u_events, .ref q_event, .int u_inBook, .ref q_book, .int u_texted, .ref q_text, .ref q_path, .int u_rule, .int u_rings, .int u_size, .int u_least, .long u_worth, .ref q_ring, .ref q_balance, .ref q_left, .ref q_sum, .ref q_parts, .int u_groups, .ref q_group, .int u_paid, .ref q_payment, .ref q_then, .int u_imaged, .ref q_image, .ref q_tapeSort, .ref q_tapeSize, .ref q_items])), (q_tapeSort, .inl (C 0, 6, .inl u_tapeSort)), (q_tapeSize, .inl (C 0, 6, .inl u_tapeSize)), (q_items, .inl (C 1, 360, .inr (.inl u_items)))]) (w2 := [(q_, .inr (9, [.int u_people, .ref q_owes, .ref q_denies, .int u_debts, .ref q_debt, .int u_cuts, .ref q_cut, .int u_seen, .ref q_sight, .int u_events, .ref q_event, .int u_inBook, .ref q_book, .int u_texted, .ref q_text, .ref q_path, .int u_rule, .int u_rings, .int u_size, .int u_least, .long u_worth, .ref q_ring, .ref q_balance, .ref q_left, .ref q_sum, .ref q_parts, .int u_groups, .ref q_group, .int u_paid, .ref q_payment, .ref q_then, .int u_imaged, .ref q_image, .ref q_tapeSort, .ref q_tapeSize, .ref q_items])), (q_tapeSort, .inl (C 0, 6, .inl u_tapeSort)), (q_tapeSize, .inl (C 0, 6, .inl u_tapeSize)), (q_items, .inl (C 1, 360, .inr (.inl u_items)))]) (st2 := [.int z1]) cx (CX9_isTape l D C x1 z1 hz1) lk_X9_264 my_X9_isTape ml_X9_isTape ⟨by decide, by decide⟩ hw [] [0, 1, 2, 3] [0, 1, 2, 3] rfl rfl (by decide) rfl rfl (Nat.le_of_ble_eq_true rfl) dX9_peek_1 rfl (fun H locs hw => ?_) hl.1
  refine lv_if_eq (tgt := 46) hx hb dX9_peek_4 (by decide) (fun c2 => ?_) (fun c2 => ?_)
  · replace hF := oi_t c2 hF
    refine lv_ldc2 (v := (-9223372036854775808)) hx hb cx.2.2.2.1 (cx.2.2.2.2.1 _ cl_X9_173) dX9_peek_46 ?_
    obtain rfl := Option.some.inj hF
    exact rt_l hret hw rfl dX9_peek_49
  · replace hF := oi_f c2 hF
    refine lv_aload_n hx hb dX9_peek_7 rfl (lv_at hl 0 rfl) ?_
    refine r_get (ci := 9) (v := .ref q_tapeSort) cx hw iX9 0 33 rfl rfl (by decide) wf_X9_66 rfl dX9_peek_8 ?_
    refine lv_iload_n hx hb dX9_peek_11 rfl (lv_at hl 1 rfl) ?_
    obtain ⟨g3, hF⟩ := gA_s hF
    refine r_iald cx hw 1 rfl g3 dX9_peek_12 ?_
    refine lv_if_lt (tgt := 46) hx hb dX9_peek_13 (by decide) (fun c4 => ?_) (fun c4 => ?_)
    · replace hF := oi_t c4 hF
      refine lv_ldc2 (v := (-9223372036854775808)) hx hb cx.2.2.2.1 (cx.2.2.2.2.1 _ cl_X9_173) dX9_peek_46 ?_
      obtain rfl := Option.some.inj hF
      exact rt_l hret hw rfl dX9_peek_49
    · replace hF := oi_f c4 hF
      refine lv_iload_n hx hb dX9_peek_16 rfl (lv_at hl 2 rfl) ?_
      refine lv_iconst (v := 0) hx hb dX9_peek_17 (by decide) ?_
      refine lv_aload_n hx hb dX9_peek_18 rfl (lv_at hl 0 rfl) ?_
      refine r_get (ci := 9) (v := .ref q_tapeSize) cx hw iX9 0 34 rfl rfl (by decide) wf_X9_69 rfl dX9_peek_19 ?_
      refine lv_iload_n hx hb dX9_peek_22 rfl (lv_at hl 1 rfl) ?_
      obtain ⟨g5, hF⟩ := gA_s hF
      refine r_iald cx hw 2 rfl g5 dX9_peek_23 ?_
      refine lv_iconst (v := 1) hx hb dX9_peek_24 (by decide) ?_
      refine lv_isub hx hb dX9_peek_25 ?_
      obtain ⟨z6, hz6, hF⟩ := ob hF
      refine cS (wr := [(q_, .inr (9, [.int u_people, .ref q_owes, .ref q_denies, .int u_debts, .ref q_debt, .int u_cuts, .ref q_cut, .int u_seen, .ref q_sight, .int u_events, .ref q_event, .int u_inBook, .ref q_book, .int u_texted, .ref q_text, .ref q_path, .int u_rule, .int u_rings, .int u_size, .int u_least, .long u_worth, .ref q_ring, .ref q_balance, .ref q_left, .ref q_sum, .ref q_parts, .int u_groups, .ref q_group, .int u_paid, .ref q_payment, .ref q_then, .int u_imaged, .ref q_image, .ref q_tapeSort, .ref q_tapeSize, .ref q_items])), (q_tapeSort, .inl (C 0, 6, .inl u_tapeSort)), (q_tapeSize, .inl (C 0, 6, .inl u_tapeSize)), (q_items, .inl (C 1, 360, .inr (.inl u_items)))]) (w2 := [(q_, .inr (9, [.int u_people, .ref q_owes, .ref q_denies, .int u_debts, .ref q_debt, .int u_cuts, .ref q_cut, .int u_seen, .ref q_sight, .int u_events, .ref q_event, .int u_inBook, .ref q_book, .int u_texted, .ref q_text, .ref q_path, .int u_rule, .int u_rings, .int u_size, .int u_least, .long u_worth, .ref q_ring, .ref q_balance, .ref q_left, .ref q_sum, .ref q_parts, .int u_groups, .ref q_group, .int u_paid, .ref q_payment, .ref q_then, .int u_imaged, .ref q_image, .ref q_tapeSort, .ref q_tapeSize, .ref q_items])), (q_tapeSort, .inl (C 0, 6, .inl u_tapeSort)), (q_tapeSize, .inl (C 0, 6, .inl u_tapeSize)), (q_items, .inl (C 1, 360, .inr (.inl u_items)))]) (st2 := [.int z6]) cx (CX9_within l D C x2 0 ((u_tapeSize (x1).toNatClampNeg) - 1) z6 hz6) lk_X9_80 my_X9_within ml_X9_within ⟨by decide, by decide⟩ hw [] [0, 1, 2, 3] [0, 1, 2, 3] rfl rfl (by decide) rfl rfl (Nat.le_of_ble_eq_true rfl) dX9_peek_26 rfl (fun H locs hw => ?_) hl.1
      refine lv_if_eq (tgt := 46) hx hb dX9_peek_29 (by decide) (fun c7 => ?_) (fun c7 => ?_)
      · replace hF := oi_t c7 hF
        refine lv_ldc2 (v := (-9223372036854775808)) hx hb cx.2.2.2.1 (cx.2.2.2.2.1 _ cl_X9_173) dX9_peek_46 ?_
        obtain rfl := Option.some.inj hF
        exact rt_l hret hw rfl dX9_peek_49
      · replace hF := oi_f c7 hF
        refine lv_aload_n hx hb dX9_peek_32 rfl (lv_at hl 0 rfl) ?_
        refine r_get (ci := 9) (v := .ref q_items) cx hw iX9 0 35 rfl rfl (by decide) wf_X9_72 rfl dX9_peek_33 ?_
        refine lv_bipush (v := 60) hx hb dX9_peek_36 (by decide) ?_
        refine lv_iload_n hx hb dX9_peek_38 rfl (lv_at hl 1 rfl) ?_
        refine lv_imul hx hb dX9_peek_39 ?_
        refine lv_iload_n hx hb dX9_peek_40 rfl (lv_at hl 2 rfl) ?_
        refine lv_iadd hx hb dX9_peek_41 ?_
        obtain ⟨g8, hF⟩ := gA_s hF
        refine r_lald cx hw 3 rfl g8 dX9_peek_42 ?_
        refine lv_goto (tgt := 49) hx hb dX9_peek_43 (by decide) ?_
        obtain rfl := Option.some.inj hF
        exact rt_l hret hw rfl dX9_peek_49
theorem dX9_shift_0 : decode cX9_shift 0 = .ok (.iload_n 1, 1) := by decide +kernel
theorem dX9_shift_1 : decode cX9_shift 1 = .ok (.invokestatic 264, 3) := by decide +kernel
theorem dX9_shift_4 : decode cX9_shift 4 = .ok (.ifCond .eq 10, 3) := by decide +kernel
theorem dX9_shift_7 : decode cX9_shift 7 = .ok (.iload_n 3, 1) := by decide +kernel
theorem dX9_shift_8 : decode cX9_shift 8 = .ok (.invokestatic 264, 3) := by decide +kernel
theorem dX9_shift_11 : decode cX9_shift 11 = .ok (.ifCond .ne 5, 3) := by decide +kernel
theorem dX9_shift_14 : decode cX9_shift 14 = .ok (.iconst (-1), 1) := by decide +kernel
theorem dX9_shift_15 : decode cX9_shift 15 = .ok (.ireturn, 1) := by decide +kernel
theorem dX9_shift_16 : decode cX9_shift 16 = .ok (.aload_n 0, 1) := by decide +kernel
theorem dX9_shift_17 : decode cX9_shift 17 = .ok (.getfield 66, 3) := by decide +kernel
theorem dX9_shift_20 : decode cX9_shift 20 = .ok (.iload_n 1, 1) := by decide +kernel
theorem dX9_shift_21 : decode cX9_shift 21 = .ok (.iaload, 1) := by decide +kernel
theorem dX9_shift_22 : decode cX9_shift 22 = .ok (.ifCond .lt 12, 3) := by decide +kernel
theorem dX9_shift_25 : decode cX9_shift 25 = .ok (.aload_n 0, 1) := by decide +kernel
theorem dX9_shift_26 : decode cX9_shift 26 = .ok (.getfield 66, 3) := by decide +kernel
theorem dX9_shift_29 : decode cX9_shift 29 = .ok (.iload_n 3, 1) := by decide +kernel
theorem dX9_shift_30 : decode cX9_shift 30 = .ok (.iaload, 1) := by decide +kernel
theorem dX9_shift_31 : decode cX9_shift 31 = .ok (.ifCond .ge 6, 3) := by decide +kernel
theorem dX9_shift_34 : decode cX9_shift 34 = .ok (.bipush (-11), 2) := by decide +kernel
theorem dX9_shift_36 : decode cX9_shift 36 = .ok (.ireturn, 1) := by decide +kernel
theorem dX9_shift_37 : decode cX9_shift 37 = .ok (.aload_n 0, 1) := by decide +kernel
theorem dX9_shift_38 : decode cX9_shift 38 = .ok (.getfield 66, 3) := by decide +kernel
theorem dX9_shift_41 : decode cX9_shift 41 = .ok (.iload_n 1, 1) := by decide +kernel
theorem dX9_shift_42 : decode cX9_shift 42 = .ok (.iaload, 1) := by decide +kernel
theorem dX9_shift_43 : decode cX9_shift 43 = .ok (.aload_n 0, 1) := by decide +kernel
theorem dX9_shift_44 : decode cX9_shift 44 = .ok (.getfield 66, 3) := by decide +kernel
theorem dX9_shift_47 : decode cX9_shift 47 = .ok (.iload_n 3, 1) := by decide +kernel
theorem dX9_shift_48 : decode cX9_shift 48 = .ok (.iaload, 1) := by decide +kernel
theorem dX9_shift_49 : decode cX9_shift 49 = .ok (.if_icmp .eq 6, 3) := by decide +kernel
theorem dX9_shift_52 : decode cX9_shift 52 = .ok (.bipush (-12), 2) := by decide +kernel
theorem dX9_shift_54 : decode cX9_shift 54 = .ok (.ireturn, 1) := by decide +kernel
theorem dX9_shift_55 : decode cX9_shift 55 = .ok (.iload 5, 2) := by decide +kernel
theorem dX9_shift_57 : decode cX9_shift 57 = .ok (.ifCond .lt 47, 3) := by decide +kernel
theorem dX9_shift_60 : decode cX9_shift 60 = .ok (.iload_n 2, 1) := by decide +kernel
theorem dX9_shift_61 : decode cX9_shift 61 = .ok (.ifCond .lt 43, 3) := by decide +kernel
theorem dX9_shift_64 : decode cX9_shift 64 = .ok (.iload 4, 2) := by decide +kernel
theorem dX9_shift_66 : decode cX9_shift 66 = .ok (.ifCond .lt 38, 3) := by decide +kernel
theorem dX9_shift_69 : decode cX9_shift 69 = .ok (.iload_n 2, 1) := by decide +kernel
theorem dX9_shift_70 : decode cX9_shift 70 = .ok (.i2l, 1) := by decide +kernel
theorem dX9_shift_71 : decode cX9_shift 71 = .ok (.iload 5, 2) := by decide +kernel
theorem dX9_shift_73 : decode cX9_shift 73 = .ok (.i2l, 1) := by decide +kernel
theorem dX9_shift_74 : decode cX9_shift 74 = .ok (.ladd, 1) := by decide +kernel
theorem dX9_shift_75 : decode cX9_shift 75 = .ok (.aload_n 0, 1) := by decide +kernel
theorem dX9_shift_76 : decode cX9_shift 76 = .ok (.getfield 69, 3) := by decide +kernel
theorem dX9_shift_79 : decode cX9_shift 79 = .ok (.iload_n 1, 1) := by decide +kernel
theorem dX9_shift_80 : decode cX9_shift 80 = .ok (.iaload, 1) := by decide +kernel
theorem dX9_shift_81 : decode cX9_shift 81 = .ok (.i2l, 1) := by decide +kernel
theorem dX9_shift_82 : decode cX9_shift 82 = .ok (.lcmp, 1) := by decide +kernel
theorem dX9_shift_83 : decode cX9_shift 83 = .ok (.ifCond .gt 21, 3) := by decide +kernel
theorem dX9_shift_86 : decode cX9_shift 86 = .ok (.iload 4, 2) := by decide +kernel
theorem dX9_shift_88 : decode cX9_shift 88 = .ok (.i2l, 1) := by decide +kernel
theorem dX9_shift_89 : decode cX9_shift 89 = .ok (.iload 5, 2) := by decide +kernel
theorem dX9_shift_91 : decode cX9_shift 91 = .ok (.i2l, 1) := by decide +kernel
theorem dX9_shift_92 : decode cX9_shift 92 = .ok (.ladd, 1) := by decide +kernel
theorem dX9_shift_93 : decode cX9_shift 93 = .ok (.aload_n 0, 1) := by decide +kernel
theorem dX9_shift_94 : decode cX9_shift 94 = .ok (.getfield 69, 3) := by decide +kernel
theorem dX9_shift_97 : decode cX9_shift 97 = .ok (.iload_n 3, 1) := by decide +kernel
theorem dX9_shift_98 : decode cX9_shift 98 = .ok (.iaload, 1) := by decide +kernel
theorem dX9_shift_99 : decode cX9_shift 99 = .ok (.i2l, 1) := by decide +kernel
theorem dX9_shift_100 : decode cX9_shift 100 = .ok (.lcmp, 1) := by decide +kernel
theorem dX9_shift_101 : decode cX9_shift 101 = .ok (.ifCond .le 6, 3) := by decide +kernel
theorem dX9_shift_104 : decode cX9_shift 104 = .ok (.bipush (-13), 2) := by decide +kernel
theorem dX9_shift_106 : decode cX9_shift 106 = .ok (.ireturn, 1) := by decide +kernel
theorem dX9_shift_107 : decode cX9_shift 107 = .ok (.iload_n 1, 1) := by decide +kernel
theorem dX9_shift_108 : decode cX9_shift 108 = .ok (.iload_n 3, 1) := by decide +kernel
theorem dX9_shift_109 : decode cX9_shift 109 = .ok (.if_icmp .ne 58, 3) := by decide +kernel
theorem dX9_shift_112 : decode cX9_shift 112 = .ok (.iload_n 2, 1) := by decide +kernel
theorem dX9_shift_113 : decode cX9_shift 113 = .ok (.iload 4, 2) := by decide +kernel
theorem dX9_shift_115 : decode cX9_shift 115 = .ok (.if_icmp .ge 52, 3) := by decide +kernel
theorem dX9_shift_118 : decode cX9_shift 118 = .ok (.iload 5, 2) := by decide +kernel
theorem dX9_shift_120 : decode cX9_shift 120 = .ok (.iconst 1, 1) := by decide +kernel
theorem dX9_shift_121 : decode cX9_shift 121 = .ok (.isub, 1) := by decide +kernel
theorem dX9_shift_122 : decode cX9_shift 122 = .ok (.istore 6, 2) := by decide +kernel
theorem dX9_shift_124 : decode cX9_shift 124 = .ok (.iload 6, 2) := by decide +kernel
theorem dX9_shift_126 : decode cX9_shift 126 = .ok (.ifCond .lt 38, 3) := by decide +kernel
theorem dX9_shift_129 : decode cX9_shift 129 = .ok (.aload_n 0, 1) := by decide +kernel
theorem dX9_shift_130 : decode cX9_shift 130 = .ok (.getfield 72, 3) := by decide +kernel
theorem dX9_shift_133 : decode cX9_shift 133 = .ok (.bipush 60, 2) := by decide +kernel
theorem dX9_shift_135 : decode cX9_shift 135 = .ok (.iload_n 3, 1) := by decide +kernel
theorem dX9_shift_136 : decode cX9_shift 136 = .ok (.imul, 1) := by decide +kernel
theorem dX9_shift_137 : decode cX9_shift 137 = .ok (.iload 4, 2) := by decide +kernel
theorem dX9_shift_139 : decode cX9_shift 139 = .ok (.iadd, 1) := by decide +kernel
theorem dX9_shift_140 : decode cX9_shift 140 = .ok (.iload 6, 2) := by decide +kernel
theorem dX9_shift_142 : decode cX9_shift 142 = .ok (.iadd, 1) := by decide +kernel
theorem dX9_shift_143 : decode cX9_shift 143 = .ok (.aload_n 0, 1) := by decide +kernel
theorem dX9_shift_144 : decode cX9_shift 144 = .ok (.getfield 72, 3) := by decide +kernel
theorem dX9_shift_147 : decode cX9_shift 147 = .ok (.bipush 60, 2) := by decide +kernel
theorem dX9_shift_149 : decode cX9_shift 149 = .ok (.iload_n 1, 1) := by decide +kernel
theorem dX9_shift_150 : decode cX9_shift 150 = .ok (.imul, 1) := by decide +kernel
theorem dX9_shift_151 : decode cX9_shift 151 = .ok (.iload_n 2, 1) := by decide +kernel
theorem dX9_shift_152 : decode cX9_shift 152 = .ok (.iadd, 1) := by decide +kernel
theorem dX9_shift_153 : decode cX9_shift 153 = .ok (.iload 6, 2) := by decide +kernel
theorem dX9_shift_155 : decode cX9_shift 155 = .ok (.iadd, 1) := by decide +kernel
theorem dX9_shift_156 : decode cX9_shift 156 = .ok (.laload, 1) := by decide +kernel
theorem dX9_shift_157 : decode cX9_shift 157 = .ok (.lastore, 1) := by decide +kernel
theorem dX9_shift_158 : decode cX9_shift 158 = .ok (.iinc 6 (-1), 3) := by decide +kernel
theorem dX9_shift_161 : decode cX9_shift 161 = .ok (.goto (-37), 3) := by decide +kernel
theorem dX9_shift_164 : decode cX9_shift 164 = .ok (.goto 48, 3) := by decide +kernel
theorem dX9_shift_167 : decode cX9_shift 167 = .ok (.iconst 0, 1) := by decide +kernel
theorem dX9_shift_168 : decode cX9_shift 168 = .ok (.istore 6, 2) := by decide +kernel
theorem dX9_shift_170 : decode cX9_shift 170 = .ok (.iload 6, 2) := by decide +kernel
theorem dX9_shift_172 : decode cX9_shift 172 = .ok (.iload 5, 2) := by decide +kernel
theorem dX9_shift_174 : decode cX9_shift 174 = .ok (.if_icmp .ge 38, 3) := by decide +kernel
theorem dX9_shift_177 : decode cX9_shift 177 = .ok (.aload_n 0, 1) := by decide +kernel
theorem dX9_shift_178 : decode cX9_shift 178 = .ok (.getfield 72, 3) := by decide +kernel
theorem dX9_shift_181 : decode cX9_shift 181 = .ok (.bipush 60, 2) := by decide +kernel
theorem dX9_shift_183 : decode cX9_shift 183 = .ok (.iload_n 3, 1) := by decide +kernel
theorem dX9_shift_184 : decode cX9_shift 184 = .ok (.imul, 1) := by decide +kernel
theorem dX9_shift_185 : decode cX9_shift 185 = .ok (.iload 4, 2) := by decide +kernel
theorem dX9_shift_187 : decode cX9_shift 187 = .ok (.iadd, 1) := by decide +kernel
theorem dX9_shift_188 : decode cX9_shift 188 = .ok (.iload 6, 2) := by decide +kernel
theorem dX9_shift_190 : decode cX9_shift 190 = .ok (.iadd, 1) := by decide +kernel
theorem dX9_shift_191 : decode cX9_shift 191 = .ok (.aload_n 0, 1) := by decide +kernel
theorem dX9_shift_192 : decode cX9_shift 192 = .ok (.getfield 72, 3) := by decide +kernel
theorem dX9_shift_195 : decode cX9_shift 195 = .ok (.bipush 60, 2) := by decide +kernel
theorem dX9_shift_197 : decode cX9_shift 197 = .ok (.iload_n 1, 1) := by decide +kernel
theorem dX9_shift_198 : decode cX9_shift 198 = .ok (.imul, 1) := by decide +kernel
theorem dX9_shift_199 : decode cX9_shift 199 = .ok (.iload_n 2, 1) := by decide +kernel
theorem dX9_shift_200 : decode cX9_shift 200 = .ok (.iadd, 1) := by decide +kernel
theorem dX9_shift_201 : decode cX9_shift 201 = .ok (.iload 6, 2) := by decide +kernel
theorem dX9_shift_203 : decode cX9_shift 203 = .ok (.iadd, 1) := by decide +kernel
theorem dX9_shift_204 : decode cX9_shift 204 = .ok (.laload, 1) := by decide +kernel
theorem dX9_shift_205 : decode cX9_shift 205 = .ok (.lastore, 1) := by decide +kernel
theorem dX9_shift_206 : decode cX9_shift 206 = .ok (.iinc 6 1, 3) := by decide +kernel
theorem dX9_shift_209 : decode cX9_shift 209 = .ok (.goto (-39), 3) := by decide +kernel
theorem dX9_shift_212 : decode cX9_shift 212 = .ok (.iload 5, 2) := by decide +kernel
theorem dX9_shift_214 : decode cX9_shift 214 = .ok (.ireturn, 1) := by decide +kernel
def fX9_shift_L170 (x1 : Int32) (x2 : Int32) (x3 : Int32) (x4 : Int32) (x5 : Int32) : Nat → Int32 → (Nat → Int64) → Option (Int32 × (Nat → Int64))
  | 0, _, _ => none
  | n + 1, x6, u_items => if x5 ≤ x6 then (some (x5, u_items)) else (gA (((60 * x1) + x2) + x6) 360 (gA (((60 * x3) + x4) + x6) 360 (fX9_shift_L170 x1 x2 x3 x4 x5 n (x6 + 1) (vp_updL u_items (((60 * x3) + x4) + x6 : Int32).toNatClampNeg (u_items (((60 * x1) + x2) + x6).toNatClampNeg)))))
def fX9_shift_L124 (x1 : Int32) (x2 : Int32) (x3 : Int32) (x4 : Int32) (x5 : Int32) : Nat → Int32 → (Nat → Int64) → Option (Int32 × (Nat → Int64))
  | 0, _, _ => none
  | n + 1, x6, u_items => if x6 < 0 then (some (x5, u_items)) else (gA (((60 * x1) + x2) + x6) 360 (gA (((60 * x3) + x4) + x6) 360 (fX9_shift_L124 x1 x2 x3 x4 x5 n (x6 + (-1)) (vp_updL u_items (((60 * x3) + x4) + x6 : Int32).toNatClampNeg (u_items (((60 * x1) + x2) + x6).toNatClampNeg)))))
def fX9_shift (u_tapeSort : (Nat → Int32)) (u_tapeSize : (Nat → Int32)) (u_items : (Nat → Int64)) (x1 : Int32) (x2 : Int32) (x3 : Int32) (x4 : Int32) (x5 : Int32) : Option (Int32 × (Nat → Int64)) := (fX9_isTape x1).bind (fun z1 => if z1 = 0 then (some ((-1), u_items)) else ((fX9_isTape x3).bind (fun z3 => if z3 = 0 then (some ((-1), u_items)) else (gA x1 6 (if (u_tapeSort (x1).toNatClampNeg) < 0 then (some ((-11), u_items)) else (gA x3 6 (if 0 ≤ (u_tapeSort (x3).toNatClampNeg) then (gA x1 6 (gA x3 6 (if (u_tapeSort (x1).toNatClampNeg) = (u_tapeSort (x3).toNatClampNeg) then (if x5 < 0 then (some ((-13), u_items)) else (if x2 < 0 then (some ((-13), u_items)) else (if x4 < 0 then (some ((-13), u_items)) else (gA x1 6 (if 0 < (lg_cmp (((x2 : Int32).toInt64) + ((x5 : Int32).toInt64)) ((u_tapeSize (x1).toNatClampNeg : Int32).toInt64)) then (some ((-13), u_items)) else (gA x3 6 (if (lg_cmp (((x4 : Int32).toInt64) + ((x5 : Int32).toInt64)) ((u_tapeSize (x3).toNatClampNeg : Int32).toInt64)) ≤ 0 then (if x1 = x3 then (if x4 ≤ x2 then (fX9_shift_L170 x1 x2 x3 x4 x5 400 0 u_items) else (fX9_shift_L124 x1 x2 x3 x4 x5 400 (x5 - 1) u_items)) else (fX9_shift_L170 x1 x2 x3 x4 x5 400 0 u_items)) else (some ((-13), u_items))))))))) else (some ((-12), u_items))))) else (some ((-11), u_items)))))))))
set_option maxRecDepth 20000 in
theorem LX9_shift_170 {p : Program} {l : Launch} {e : Env} {R : Room} {s : State} {m : MethodId} {args : Array Value} {below : List Frame} {meth : Method} {c : Code} {Q : State → Prop} {D : va_G} {C : Nat → ClassId} {A : Nat → Prop} (cx : CX p m c s args RX9 cX9_shift 7 D C A R 3) {q_ q_owes q_denies q_debt q_cut q_sight q_event q_book q_text q_path q_ring q_balance q_left q_sum q_parts q_group q_payment q_then q_image q_tapeSort q_tapeSize q_items : Nat} {u_people : Int32} {u_debts : Int32} {u_cuts : Int32} {u_seen : Int32} {u_events : Int32} {u_inBook : Int32} {u_texted : Int32} {u_rule : Int32} {u_rings : Int32} {u_size : Int32} {u_least : Int32} {u_worth : Int64} {u_groups : Int32} {u_paid : Int32} {u_imaged : Int32} {u_tapeSort : (Nat → Int32)} {u_tapeSize : (Nat → Int32)} {x1 : Int32} {x2 : Int32} {x3 : Int32} {x4 : Int32} {x5 : Int32} {z : (Int32 × (Nat → Int64))} (hret : RT p l e R s m args below meth c Q D A cX9_shift (some .int) [(q_, .inr (9, [.int u_people, .ref q_owes, .ref q_denies, .int u_debts, .ref q_debt, .int u_cuts, .ref q_cut, .int u_seen, .ref q_sight, .int u_events, .ref q_event, .int u_inBook, .ref q_book, .int u_texted, .ref q_text, .ref q_path, .int u_rule, .int u_rings, .int u_size, .int u_least, .long u_worth, .ref q_ring, .ref q_balance, .ref q_left, .ref q_sum, .ref q_parts, .int u_groups, .ref q_group, .int u_paid, .ref q_payment, .ref q_then, .int u_imaged, .ref q_image, .ref q_tapeSort, .ref q_tapeSize, .ref q_items])), (q_tapeSort, .inl (C 0, 6, .inl u_tapeSort)), (q_tapeSize, .inl (C 0, 6, .inl u_tapeSize)), (q_items, .inl (C 1, 360, .inr (.inl z.2)))] (some (.int z.1))) :
    ∀ (n : Nat) (x6 : Int32) (u_items : (Nat → Int64)) (H : Heap) (locs : List Loc) (ls : Array Slot), fX9_shift_L170 x1 x2 x3 x4 x5 n x6 u_items = some z → HW D A s.heap H locs [(q_, .inr (9, [.int u_people, .ref q_owes, .ref q_denies, .int u_debts, .ref q_debt, .int u_cuts, .ref q_cut, .int u_seen, .ref q_sight, .int u_events, .ref q_event, .int u_inBook, .ref q_book, .int u_texted, .ref q_text, .ref q_path, .int u_rule, .int u_rings, .int u_size, .int u_least, .long u_worth, .ref q_ring, .ref q_balance, .ref q_left, .ref q_sum, .ref q_parts, .int u_groups, .ref q_group, .int u_paid, .ref q_payment, .ref q_then, .int u_imaged, .ref q_image, .ref q_tapeSort, .ref q_tapeSize, .ref q_items])), (q_tapeSort, .inl (C 0, 6, .inl u_tapeSort)), (q_tapeSize, .inl (C 0, 6, .inl u_tapeSize)), (q_items, .inl (C 1, 360, .inr (.inl u_items)))] → lv_has ls 7 [(0, .ref q_), (1, .int x1), (2, .int x2), (3, .int x3), (4, .int x4), (5, .int x5), (6, .int x6)] → W p l e R s m args below meth c H locs 0 0 Q (F0 m 170 ls []) := by
  have hx := cx.1
  have hb := cx.2.1
  intro n
  induction n with
  | zero => intro x6 u_items H locs ls hF; cases hF
  | succ n ih =>
    intro x6 u_items H locs ls hF hw hl
    rw [fX9_shift_L170.eq_2] at hF
    refine lv_iload hx hb dX9_shift_170 (lv_at hl 6 rfl) ?_
    refine lv_iload hx hb dX9_shift_172 (lv_at hl 5 rfl) ?_
    refine lv_icmp_ge (tgt := 212) hx hb dX9_shift_174 (by decide) (fun c20 => ?_) (fun c20 => ?_)
    · replace hF := oi_t c20 hF
      refine lv_iload hx hb dX9_shift_212 (lv_at hl 5 rfl) ?_
      obtain rfl := Option.some.inj hF
      exact rt_i hret hw rfl dX9_shift_214
    · replace hF := oi_f c20 hF
      refine lv_aload_n hx hb dX9_shift_177 rfl (lv_at hl 0 rfl) ?_
      refine r_get (ci := 9) (v := .ref q_items) cx hw iX9 0 35 rfl rfl (by decide) wf_X9_72 rfl dX9_shift_178 ?_
      refine lv_bipush (v := 60) hx hb dX9_shift_181 (by decide) ?_
      refine lv_iload_n hx hb dX9_shift_183 rfl (lv_at hl 3 rfl) ?_
      refine lv_imul hx hb dX9_shift_184 ?_
      refine lv_iload hx hb dX9_shift_185 (lv_at hl 4 rfl) ?_
      refine lv_iadd hx hb dX9_shift_187 ?_
      refine lv_iload hx hb dX9_shift_188 (lv_at hl 6 rfl) ?_
      refine lv_iadd hx hb dX9_shift_190 ?_
      refine lv_aload_n hx hb dX9_shift_191 rfl (lv_at hl 0 rfl) ?_
      refine r_get (ci := 9) (v := .ref q_items) cx hw iX9 0 35 rfl rfl (by decide) wf_X9_72 rfl dX9_shift_192 ?_
      refine lv_bipush (v := 60) hx hb dX9_shift_195 (by decide) ?_
      refine lv_iload_n hx hb dX9_shift_197 rfl (lv_at hl 1 rfl) ?_
      refine lv_imul hx hb dX9_shift_198 ?_
      refine lv_iload_n hx hb dX9_shift_199 rfl (lv_at hl 2 rfl) ?_
      refine lv_iadd hx hb dX9_shift_200 ?_
      refine lv_iload hx hb dX9_shift_201 (lv_at hl 6 rfl) ?_
      refine lv_iadd hx hb dX9_shift_203 ?_
      obtain ⟨g21, hF⟩ := gA_s hF
      refine r_lald cx hw 3 rfl g21 dX9_shift_204 ?_
      obtain ⟨g22, hF⟩ := gA_s hF
      refine r_last (w2 := [(q_, .inr (9, [.int u_people, .ref q_owes, .ref q_denies, .int u_debts, .ref q_debt, .int u_cuts, .ref q_cut, .int u_seen, .ref q_sight, .int u_events, .ref q_event, .int u_inBook, .ref q_book, .int u_texted, .ref q_text, .ref q_path, .int u_rule, .int u_rings, .int u_size, .int u_least, .long u_worth, .ref q_ring, .ref q_balance, .ref q_left, .ref q_sum, .ref q_parts, .int u_groups, .ref q_group, .int u_paid, .ref q_payment, .ref q_then, .int u_imaged, .ref q_image, .ref q_tapeSort, .ref q_tapeSize, .ref q_items])), (q_tapeSort, .inl (C 0, 6, .inl u_tapeSort)), (q_tapeSize, .inl (C 0, 6, .inl u_tapeSize)), (q_items, .inl (C 1, 360, .inr (.inl (vp_updL u_items (((60 * x3) + x4) + x6 : Int32).toNatClampNeg (u_items (((60 * x1) + x2) + x6).toNatClampNeg)))))]) cx hw 3 rfl g22 dX9_shift_205 rfl (fun H locs hw => ?_)
      refine lv_iinc (v := x6 + 1) (lv' := [(6, .int (x6 + 1)), (0, .ref q_), (1, .int x1), (2, .int x2), (3, .int x3), (4, .int x4), (5, .int x5)]) hx hb dX9_shift_206 hl (k := 6) rfl rfl (by decide) rfl (fun ls hl => ?_)
      refine lv_goto (tgt := 170) hx hb dX9_shift_209 (by decide) ?_
      exact ih (x6 + 1) (vp_updL u_items (((60 * x3) + x4) + x6 : Int32).toNatClampNeg (u_items (((60 * x1) + x2) + x6).toNatClampNeg)) H locs ls hF hw (lv_sub hl [1, 2, 3, 4, 5, 6, 0] rfl)
set_option maxRecDepth 20000 in
theorem LX9_shift_124 {p : Program} {l : Launch} {e : Env} {R : Room} {s : State} {m : MethodId} {args : Array Value} {below : List Frame} {meth : Method} {c : Code} {Q : State → Prop} {D : va_G} {C : Nat → ClassId} {A : Nat → Prop} (cx : CX p m c s args RX9 cX9_shift 7 D C A R 3) {q_ q_owes q_denies q_debt q_cut q_sight q_event q_book q_text q_path q_ring q_balance q_left q_sum q_parts q_group q_payment q_then q_image q_tapeSort q_tapeSize q_items : Nat} {u_people : Int32} {u_debts : Int32} {u_cuts : Int32} {u_seen : Int32} {u_events : Int32} {u_inBook : Int32} {u_texted : Int32} {u_rule : Int32} {u_rings : Int32} {u_size : Int32} {u_least : Int32} {u_worth : Int64} {u_groups : Int32} {u_paid : Int32} {u_imaged : Int32} {u_tapeSort : (Nat → Int32)} {u_tapeSize : (Nat → Int32)} {x1 : Int32} {x2 : Int32} {x3 : Int32} {x4 : Int32} {x5 : Int32} {z : (Int32 × (Nat → Int64))} (hret : RT p l e R s m args below meth c Q D A cX9_shift (some .int) [(q_, .inr (9, [.int u_people, .ref q_owes, .ref q_denies, .int u_debts, .ref q_debt, .int u_cuts, .ref q_cut, .int u_seen, .ref q_sight, .int u_events, .ref q_event, .int u_inBook, .ref q_book, .int u_texted, .ref q_text, .ref q_path, .int u_rule, .int u_rings, .int u_size, .int u_least, .long u_worth, .ref q_ring, .ref q_balance, .ref q_left, .ref q_sum, .ref q_parts, .int u_groups, .ref q_group, .int u_paid, .ref q_payment, .ref q_then, .int u_imaged, .ref q_image, .ref q_tapeSort, .ref q_tapeSize, .ref q_items])), (q_tapeSort, .inl (C 0, 6, .inl u_tapeSort)), (q_tapeSize, .inl (C 0, 6, .inl u_tapeSize)), (q_items, .inl (C 1, 360, .inr (.inl z.2)))] (some (.int z.1))) :
    ∀ (n : Nat) (x6 : Int32) (u_items : (Nat → Int64)) (H : Heap) (locs : List Loc) (ls : Array Slot), fX9_shift_L124 x1 x2 x3 x4 x5 n x6 u_items = some z → HW D A s.heap H locs [(q_, .inr (9, [.int u_people, .ref q_owes, .ref q_denies, .int u_debts, .ref q_debt, .int u_cuts, .ref q_cut, .int u_seen, .ref q_sight, .int u_events, .ref q_event, .int u_inBook, .ref q_book, .int u_texted, .ref q_text, .ref q_path, .int u_rule, .int u_rings, .int u_size, .int u_least, .long u_worth, .ref q_ring, .ref q_balance, .ref q_left, .ref q_sum, .ref q_parts, .int u_groups, .ref q_group, .int u_paid, .ref q_payment, .ref q_then, .int u_imaged, .ref q_image, .ref q_tapeSort, .ref q_tapeSize, .ref q_items])), (q_tapeSort, .inl (C 0, 6, .inl u_tapeSort)), (q_tapeSize, .inl (C 0, 6, .inl u_tapeSize)), (q_items, .inl (C 1, 360, .inr (.inl u_items)))] → lv_has ls 7 [(0, .ref q_), (1, .int x1), (2, .int x2), (3, .int x3), (4, .int x4), (5, .int x5), (6, .int x6)] → W p l e R s m args below meth c H locs 0 0 Q (F0 m 124 ls []) := by
  have hx := cx.1
  have hb := cx.2.1
  intro n
  induction n with
  | zero => intro x6 u_items H locs ls hF; cases hF
  | succ n ih =>
    intro x6 u_items H locs ls hF hw hl
    rw [fX9_shift_L124.eq_2] at hF
    refine lv_iload hx hb dX9_shift_124 (lv_at hl 6 rfl) ?_
    refine lv_if_lt (tgt := 164) hx hb dX9_shift_126 (by decide) (fun c24 => ?_) (fun c24 => ?_)
    · replace hF := oi_t c24 hF
      refine lv_goto (tgt := 212) hx hb dX9_shift_164 (by decide) ?_
      refine lv_iload hx hb dX9_shift_212 (lv_at hl 5 rfl) ?_
      obtain rfl := Option.some.inj hF
      exact rt_i hret hw rfl dX9_shift_214
    · replace hF := oi_f c24 hF
      refine lv_aload_n hx hb dX9_shift_129 rfl (lv_at hl 0 rfl) ?_
      refine r_get (ci := 9) (v := .ref q_items) cx hw iX9 0 35 rfl rfl (by decide) wf_X9_72 rfl dX9_shift_130 ?_
      refine lv_bipush (v := 60) hx hb dX9_shift_133 (by decide) ?_
      refine lv_iload_n hx hb dX9_shift_135 rfl (lv_at hl 3 rfl) ?_
      refine lv_imul hx hb dX9_shift_136 ?_
      refine lv_iload hx hb dX9_shift_137 (lv_at hl 4 rfl) ?_
      refine lv_iadd hx hb dX9_shift_139 ?_
      refine lv_iload hx hb dX9_shift_140 (lv_at hl 6 rfl) ?_
      refine lv_iadd hx hb dX9_shift_142 ?_
      refine lv_aload_n hx hb dX9_shift_143 rfl (lv_at hl 0 rfl) ?_
      refine r_get (ci := 9) (v := .ref q_items) cx hw iX9 0 35 rfl rfl (by decide) wf_X9_72 rfl dX9_shift_144 ?_
      refine lv_bipush (v := 60) hx hb dX9_shift_147 (by decide) ?_
      refine lv_iload_n hx hb dX9_shift_149 rfl (lv_at hl 1 rfl) ?_
      refine lv_imul hx hb dX9_shift_150 ?_
      refine lv_iload_n hx hb dX9_shift_151 rfl (lv_at hl 2 rfl) ?_
      refine lv_iadd hx hb dX9_shift_152 ?_
      refine lv_iload hx hb dX9_shift_153 (lv_at hl 6 rfl) ?_
      refine lv_iadd hx hb dX9_shift_155 ?_
      obtain ⟨g25, hF⟩ := gA_s hF
      refine r_lald cx hw 3 rfl g25 dX9_shift_156 ?_
      obtain ⟨g26, hF⟩ := gA_s hF
      refine r_last (w2 := [(q_, .inr (9, [.int u_people, .ref q_owes, .ref q_denies, .int u_debts, .ref q_debt, .int u_cuts, .ref q_cut, .int u_seen, .ref q_sight, .int u_events, .ref q_event, .int u_inBook, .ref q_book, .int u_texted, .ref q_text, .ref q_path, .int u_rule, .int u_rings, .int u_size, .int u_least, .long u_worth, .ref q_ring, .ref q_balance, .ref q_left, .ref q_sum, .ref q_parts, .int u_groups, .ref q_group, .int u_paid, .ref q_payment, .ref q_then, .int u_imaged, .ref q_image, .ref q_tapeSort, .ref q_tapeSize, .ref q_items])), (q_tapeSort, .inl (C 0, 6, .inl u_tapeSort)), (q_tapeSize, .inl (C 0, 6, .inl u_tapeSize)), (q_items, .inl (C 1, 360, .inr (.inl (vp_updL u_items (((60 * x3) + x4) + x6 : Int32).toNatClampNeg (u_items (((60 * x1) + x2) + x6).toNatClampNeg)))))]) cx hw 3 rfl g26 dX9_shift_157 rfl (fun H locs hw => ?_)
      refine lv_iinc (v := x6 + (-1)) (lv' := [(6, .int (x6 + (-1))), (0, .ref q_), (1, .int x1), (2, .int x2), (3, .int x3), (4, .int x4), (5, .int x5)]) hx hb dX9_shift_158 hl (k := 6) rfl rfl (by decide) rfl (fun ls hl => ?_)
      refine lv_goto (tgt := 124) hx hb dX9_shift_161 (by decide) ?_
      exact ih (x6 + (-1)) (vp_updL u_items (((60 * x3) + x4) + x6 : Int32).toNatClampNeg (u_items (((60 * x1) + x2) + x6).toNatClampNeg)) H locs ls hF hw (lv_sub hl [1, 2, 3, 4, 5, 6, 0] rfl)
set_option maxRecDepth 20000 in
theorem CX9_shift (l : Launch) (D : va_G) (C : Nat → ClassId) (q_ q_owes q_denies q_debt q_cut q_sight q_event q_book q_text q_path q_ring q_balance q_left q_sum q_parts q_group q_payment q_then q_image q_tapeSort q_tapeSize q_items : Nat) (u_people : Int32) (u_debts : Int32) (u_cuts : Int32) (u_seen : Int32) (u_events : Int32) (u_inBook : Int32) (u_texted : Int32) (u_rule : Int32) (u_rings : Int32) (u_size : Int32) (u_least : Int32) (u_worth : Int64) (u_groups : Int32) (u_paid : Int32) (u_imaged : Int32) (u_tapeSort : (Nat → Int32)) (u_tapeSize : (Nat → Int32)) (u_items : (Nat → Int64)) (x1 : Int32) (x2 : Int32) (x3 : Int32) (x4 : Int32) (x5 : Int32) (z : (Int32 × (Nat → Int64))) (hF : fX9_shift u_tapeSort u_tapeSize u_items x1 x2 x3 x4 x5 = some z) : Ct l yX9_shift cX9_shift 7 (some .int) 3 D C [.ref q_, .int x1, .int x2, .int x3, .int x4, .int x5] [(q_, .inr (9, [.int u_people, .ref q_owes, .ref q_denies, .int u_debts, .ref q_debt, .int u_cuts, .ref q_cut, .int u_seen, .ref q_sight, .int u_events, .ref q_event, .int u_inBook, .ref q_book, .int u_texted, .ref q_text, .ref q_path, .int u_rule, .int u_rings, .int u_size, .int u_least, .long u_worth, .ref q_ring, .ref q_balance, .ref q_left, .ref q_sum, .ref q_parts, .int u_groups, .ref q_group, .int u_paid, .ref q_payment, .ref q_then, .int u_imaged, .ref q_image, .ref q_tapeSort, .ref q_tapeSize, .ref q_items])), (q_tapeSort, .inl (C 0, 6, .inl u_tapeSort)), (q_tapeSize, .inl (C 0, 6, .inl u_tapeSize)), (q_items, .inl (C 1, 360, .inr (.inl u_items)))] [(q_, .inr (9, [.int u_people, .ref q_owes, .ref q_denies, .int u_debts, .ref q_debt, .int u_cuts, .ref q_cut, .int u_seen, .ref q_sight, .int u_events, .ref q_event, .int u_inBook, .ref q_book, .int u_texted, .ref q_text, .ref q_path, .int u_rule, .int u_rings, .int u_size, .int u_least, .long u_worth, .ref q_ring, .ref q_balance, .ref q_left, .ref q_sum, .ref q_parts, .int u_groups, .ref q_group, .int u_paid, .ref q_payment, .ref q_then, .int u_imaged, .ref q_image, .ref q_tapeSort, .ref q_tapeSize, .ref q_items])), (q_tapeSort, .inl (C 0, 6, .inl u_tapeSort)), (q_tapeSize, .inl (C 0, 6, .inl u_tapeSize)), (q_items, .inl (C 1, 360, .inr (.inl z.2)))] (some (.int z.1)) := by
  refine Ct_of (by decide) (Nat.le_of_ble_eq_true rfl) ?_
  intro p e R s m args below meth c A Q H locs ls cx hw hl hret
  have cx : CX p m c s args RX9 cX9_shift 7 D C A R 3 := cx
  have hx := cx.1
  have hb := cx.2.1
  have hl : lv_has ls 7 [(0, .ref q_), (1, .int x1), (2, .int x2), (3, .int x3), (4, .int x4), (5, .int x5)] := hl
  rw [fX9_shift.eq_1] at hF
  refine lv_iload_n hx hb dX9_shift_0 rfl (lv_at hl 1 rfl) ?_
  obtain ⟨z1, hz1, hF⟩ := ob hF
  refine cS (wr := [(q_, .inr (9, [.int u_people, .ref q_owes, .ref q_denies, .int u_debts, .ref q_debt, .int u_cuts, .ref q_cut, .int u_seen, .ref q_sight, .int u_events, .ref q_event, .int u_inBook, .ref q_book, .int u_texted, .ref q_text, .ref q_path, .int u_rule, .int u_rings, .int u_size, .int u_least, .long u_worth, .ref q_ring, .ref q_balance, .ref q_left, .ref q_sum, .ref q_parts, .int u_groups, .ref q_group, .int u_paid, .ref q_payment, .ref q_then, .int u_imaged, .ref q_image, .ref q_tapeSort, .ref q_tapeSize, .ref q_items])), (q_tapeSort, .inl (C 0, 6, .inl u_tapeSort)), (q_tapeSize, .inl (C 0, 6, .inl u_tapeSize)), (q_items, .inl (C 1, 360, .inr (.inl u_items)))]) (w2 := [(q_, .inr (9, [.int u_people, .ref q_owes, .ref q_denies, .int u_debts, .ref q_debt, .int u_cuts, .ref q_cut, .int u_seen, .ref q_sight, .int u_events, .ref q_event, .int u_inBook, .ref q_book, .int u_texted, .ref q_text, .ref q_path, .int u_rule, .int u_rings, .int u_size, .int u_least, .long u_worth, .ref q_ring, .ref q_balance, .ref q_left, .ref q_sum, .ref q_parts, .int u_groups, .ref q_group, .int u_paid, .ref q_payment, .ref q_then, .int u_imaged, .ref q_image, .ref q_tapeSort, .ref q_tapeSize, .ref q_items])), (q_tapeSort, .inl (C 0, 6, .inl u_tapeSort)), (q_tapeSize, .inl (C 0, 6, .inl u_tapeSize)), (q_items, .inl (C 1, 360, .inr (.inl u_items)))]) (st2 := [.int z1]) cx (CX9_isTape l D C x1 z1 hz1) lk_X9_264 my_X9_isTape ml_X9_isTape ⟨by decide, by decide⟩ hw [] [0, 1, 2, 3] [0, 1, 2, 3] rfl rfl (by decide) rfl rfl (Nat.le_of_ble_eq_true rfl) dX9_shift_1 rfl (fun H locs hw => ?_) hl.1
  refine lv_if_eq (tgt := 14) hx hb dX9_shift_4 (by decide) (fun c2 => ?_) (fun c2 => ?_)
  · replace hF := oi_t c2 hF
    refine lv_iconst (v := (-1)) hx hb dX9_shift_14 (by decide) ?_
    obtain rfl := Option.some.inj hF
    exact rt_i hret hw rfl dX9_shift_15
  · replace hF := oi_f c2 hF
    refine lv_iload_n hx hb dX9_shift_7 rfl (lv_at hl 3 rfl) ?_
    obtain ⟨z3, hz3, hF⟩ := ob hF
    refine cS (wr := [(q_, .inr (9, [.int u_people, .ref q_owes, .ref q_denies, .int u_debts, .ref q_debt, .int u_cuts, .ref q_cut, .int u_seen, .ref q_sight, .int u_events, .ref q_event, .int u_inBook, .ref q_book, .int u_texted, .ref q_text, .ref q_path, .int u_rule, .int u_rings, .int u_size, .int u_least, .long u_worth, .ref q_ring, .ref q_balance, .ref q_left, .ref q_sum, .ref q_parts, .int u_groups, .ref q_group, .int u_paid, .ref q_payment, .ref q_then, .int u_imaged, .ref q_image, .ref q_tapeSort, .ref q_tapeSize, .ref q_items])), (q_tapeSort, .inl (C 0, 6, .inl u_tapeSort)), (q_tapeSize, .inl (C 0, 6, .inl u_tapeSize)), (q_items, .inl (C 1, 360, .inr (.inl u_items)))]) (w2 := [(q_, .inr (9, [.int u_people, .ref q_owes, .ref q_denies, .int u_debts, .ref q_debt, .int u_cuts, .ref q_cut, .int u_seen, .ref q_sight, .int u_events, .ref q_event, .int u_inBook, .ref q_book, .int u_texted, .ref q_text, .ref q_path, .int u_rule, .int u_rings, .int u_size, .int u_least, .long u_worth, .ref q_ring, .ref q_balance, .ref q_left, .ref q_sum, .ref q_parts, .int u_groups, .ref q_group, .int u_paid, .ref q_payment, .ref q_then, .int u_imaged, .ref q_image, .ref q_tapeSort, .ref q_tapeSize, .ref q_items])), (q_tapeSort, .inl (C 0, 6, .inl u_tapeSort)), (q_tapeSize, .inl (C 0, 6, .inl u_tapeSize)), (q_items, .inl (C 1, 360, .inr (.inl u_items)))]) (st2 := [.int z3]) cx (CX9_isTape l D C x3 z3 hz3) lk_X9_264 my_X9_isTape ml_X9_isTape ⟨by decide, by decide⟩ hw [] [0, 1, 2, 3] [0, 1, 2, 3] rfl rfl (by decide) rfl rfl (Nat.le_of_ble_eq_true rfl) dX9_shift_8 rfl (fun H locs hw => ?_) hl.1
    refine lv_if_ne (tgt := 16) hx hb dX9_shift_11 (by decide) (fun c4 => ?_) (fun c4 => ?_)
    · replace hF := oi_f c4 hF
      refine lv_aload_n hx hb dX9_shift_16 rfl (lv_at hl 0 rfl) ?_
      refine r_get (ci := 9) (v := .ref q_tapeSort) cx hw iX9 0 33 rfl rfl (by decide) wf_X9_66 rfl dX9_shift_17 ?_
      refine lv_iload_n hx hb dX9_shift_20 rfl (lv_at hl 1 rfl) ?_
      obtain ⟨g5, hF⟩ := gA_s hF
      refine r_iald cx hw 1 rfl g5 dX9_shift_21 ?_
      refine lv_if_lt (tgt := 34) hx hb dX9_shift_22 (by decide) (fun c6 => ?_) (fun c6 => ?_)
      · replace hF := oi_t c6 hF
        refine lv_bipush (v := (-11)) hx hb dX9_shift_34 (by decide) ?_
        obtain rfl := Option.some.inj hF
        exact rt_i hret hw rfl dX9_shift_36
      · replace hF := oi_f c6 hF
        refine lv_aload_n hx hb dX9_shift_25 rfl (lv_at hl 0 rfl) ?_
        refine r_get (ci := 9) (v := .ref q_tapeSort) cx hw iX9 0 33 rfl rfl (by decide) wf_X9_66 rfl dX9_shift_26 ?_
        refine lv_iload_n hx hb dX9_shift_29 rfl (lv_at hl 3 rfl) ?_
        obtain ⟨g7, hF⟩ := gA_s hF
        refine r_iald cx hw 1 rfl g7 dX9_shift_30 ?_
        refine lv_if_ge (tgt := 37) hx hb dX9_shift_31 (by decide) (fun c8 => ?_) (fun c8 => ?_)
        · replace hF := oi_t c8 hF
          refine lv_aload_n hx hb dX9_shift_37 rfl (lv_at hl 0 rfl) ?_
          refine r_get (ci := 9) (v := .ref q_tapeSort) cx hw iX9 0 33 rfl rfl (by decide) wf_X9_66 rfl dX9_shift_38 ?_
          refine lv_iload_n hx hb dX9_shift_41 rfl (lv_at hl 1 rfl) ?_
          obtain ⟨g9, hF⟩ := gA_s hF
          refine r_iald cx hw 1 rfl g9 dX9_shift_42 ?_
          refine lv_aload_n hx hb dX9_shift_43 rfl (lv_at hl 0 rfl) ?_
          refine r_get (ci := 9) (v := .ref q_tapeSort) cx hw iX9 0 33 rfl rfl (by decide) wf_X9_66 rfl dX9_shift_44 ?_
          refine lv_iload_n hx hb dX9_shift_47 rfl (lv_at hl 3 rfl) ?_
          obtain ⟨g10, hF⟩ := gA_s hF
          refine r_iald cx hw 1 rfl g10 dX9_shift_48 ?_
          refine lv_icmp_eq (tgt := 55) hx hb dX9_shift_49 (by decide) (fun c11 => ?_) (fun c11 => ?_)
          · replace hF := oi_t c11 hF
            refine lv_iload hx hb dX9_shift_55 (lv_at hl 5 rfl) ?_
            refine lv_if_lt (tgt := 104) hx hb dX9_shift_57 (by decide) (fun c12 => ?_) (fun c12 => ?_)
            · replace hF := oi_t c12 hF
              refine lv_bipush (v := (-13)) hx hb dX9_shift_104 (by decide) ?_
              obtain rfl := Option.some.inj hF
              exact rt_i hret hw rfl dX9_shift_106
            · replace hF := oi_f c12 hF
              refine lv_iload_n hx hb dX9_shift_60 rfl (lv_at hl 2 rfl) ?_
              refine lv_if_lt (tgt := 104) hx hb dX9_shift_61 (by decide) (fun c13 => ?_) (fun c13 => ?_)
              · replace hF := oi_t c13 hF
                refine lv_bipush (v := (-13)) hx hb dX9_shift_104 (by decide) ?_
                obtain rfl := Option.some.inj hF
                exact rt_i hret hw rfl dX9_shift_106
              · replace hF := oi_f c13 hF
                refine lv_iload hx hb dX9_shift_64 (lv_at hl 4 rfl) ?_
                refine lv_if_lt (tgt := 104) hx hb dX9_shift_66 (by decide) (fun c14 => ?_) (fun c14 => ?_)
                · replace hF := oi_t c14 hF
                  refine lv_bipush (v := (-13)) hx hb dX9_shift_104 (by decide) ?_
                  obtain rfl := Option.some.inj hF
                  exact rt_i hret hw rfl dX9_shift_106
                · replace hF := oi_f c14 hF
                  refine lv_iload_n hx hb dX9_shift_69 rfl (lv_at hl 2 rfl) ?_
                  refine lv_i2l (v := (x2 : Int32).toInt64) hx hb dX9_shift_70 rfl ?_
                  refine lv_iload hx hb dX9_shift_71 (lv_at hl 5 rfl) ?_
                  refine lv_i2l (v := (x5 : Int32).toInt64) hx hb dX9_shift_73 rfl ?_
                  refine lv_ladd hx hb dX9_shift_74 ?_
                  refine lv_aload_n hx hb dX9_shift_75 rfl (lv_at hl 0 rfl) ?_
                  refine r_get (ci := 9) (v := .ref q_tapeSize) cx hw iX9 0 34 rfl rfl (by decide) wf_X9_69 rfl dX9_shift_76 ?_
                  refine lv_iload_n hx hb dX9_shift_79 rfl (lv_at hl 1 rfl) ?_
                  obtain ⟨g15, hF⟩ := gA_s hF
                  refine r_iald cx hw 2 rfl g15 dX9_shift_80 ?_
                  refine lv_i2l (v := (u_tapeSize (x1).toNatClampNeg : Int32).toInt64) hx hb dX9_shift_81 rfl ?_
                  refine W.lcmp hx hb dX9_shift_82 ?_
                  refine lv_if_gt (tgt := 104) hx hb dX9_shift_83 (by decide) (fun c16 => ?_) (fun c16 => ?_)
                  · replace hF := oi_t c16 hF
                    refine lv_bipush (v := (-13)) hx hb dX9_shift_104 (by decide) ?_
                    obtain rfl := Option.some.inj hF
                    exact rt_i hret hw rfl dX9_shift_106
                  · replace hF := oi_f c16 hF
                    refine lv_iload hx hb dX9_shift_86 (lv_at hl 4 rfl) ?_
                    refine lv_i2l (v := (x4 : Int32).toInt64) hx hb dX9_shift_88 rfl ?_
                    refine lv_iload hx hb dX9_shift_89 (lv_at hl 5 rfl) ?_
                    refine lv_i2l (v := (x5 : Int32).toInt64) hx hb dX9_shift_91 rfl ?_
                    refine lv_ladd hx hb dX9_shift_92 ?_
                    refine lv_aload_n hx hb dX9_shift_93 rfl (lv_at hl 0 rfl) ?_
                    refine r_get (ci := 9) (v := .ref q_tapeSize) cx hw iX9 0 34 rfl rfl (by decide) wf_X9_69 rfl dX9_shift_94 ?_
                    refine lv_iload_n hx hb dX9_shift_97 rfl (lv_at hl 3 rfl) ?_
                    obtain ⟨g17, hF⟩ := gA_s hF
                    refine r_iald cx hw 2 rfl g17 dX9_shift_98 ?_
                    refine lv_i2l (v := (u_tapeSize (x3).toNatClampNeg : Int32).toInt64) hx hb dX9_shift_99 rfl ?_
                    refine W.lcmp hx hb dX9_shift_100 ?_
                    refine lv_if_le (tgt := 107) hx hb dX9_shift_101 (by decide) (fun c18 => ?_) (fun c18 => ?_)
                    · replace hF := oi_t c18 hF
                      refine lv_iload_n hx hb dX9_shift_107 rfl (lv_at hl 1 rfl) ?_
                      refine lv_iload_n hx hb dX9_shift_108 rfl (lv_at hl 3 rfl) ?_
                      refine lv_icmp_ne (tgt := 167) hx hb dX9_shift_109 (by decide) (fun c19 => ?_) (fun c19 => ?_)
                      · replace hF := oi_f c19 hF
                        refine lv_iconst (v := 0) hx hb dX9_shift_167 (by decide) ?_
                        refine lv_istore (lv' := [(6, .int 0), (0, .ref q_), (1, .int x1), (2, .int x2), (3, .int x3), (4, .int x4), (5, .int x5)]) hx hb dX9_shift_168 hl (by decide) rfl (fun ls hl => ?_)
                        refine LX9_shift_170 cx hret 400 0 u_items H locs ls hF hw (lv_sub hl [1, 2, 3, 4, 5, 6, 0] rfl)
                      · replace hF := oi_t c19 hF
                        refine lv_iload_n hx hb dX9_shift_112 rfl (lv_at hl 2 rfl) ?_
                        refine lv_iload hx hb dX9_shift_113 (lv_at hl 4 rfl) ?_
                        refine lv_icmp_ge (tgt := 167) hx hb dX9_shift_115 (by decide) (fun c23 => ?_) (fun c23 => ?_)
                        · replace hF := oi_t c23 hF
                          refine lv_iconst (v := 0) hx hb dX9_shift_167 (by decide) ?_
                          refine lv_istore (lv' := [(6, .int 0), (0, .ref q_), (1, .int x1), (2, .int x2), (3, .int x3), (4, .int x4), (5, .int x5)]) hx hb dX9_shift_168 hl (by decide) rfl (fun ls hl => ?_)
                          refine LX9_shift_170 cx hret 400 0 u_items H locs ls hF hw (lv_sub hl [1, 2, 3, 4, 5, 6, 0] rfl)
                        · replace hF := oi_f c23 hF
                          refine lv_iload hx hb dX9_shift_118 (lv_at hl 5 rfl) ?_
                          refine lv_iconst (v := 1) hx hb dX9_shift_120 (by decide) ?_
                          refine lv_isub hx hb dX9_shift_121 ?_
                          refine lv_istore (lv' := [(6, .int (x5 - 1)), (0, .ref q_), (1, .int x1), (2, .int x2), (3, .int x3), (4, .int x4), (5, .int x5)]) hx hb dX9_shift_122 hl (by decide) rfl (fun ls hl => ?_)
                          refine LX9_shift_124 cx hret 400 (x5 - 1) u_items H locs ls hF hw (lv_sub hl [1, 2, 3, 4, 5, 6, 0] rfl)
                    · replace hF := oi_f c18 hF
                      refine lv_bipush (v := (-13)) hx hb dX9_shift_104 (by decide) ?_
                      obtain rfl := Option.some.inj hF
                      exact rt_i hret hw rfl dX9_shift_106
          · replace hF := oi_f c11 hF
            refine lv_bipush (v := (-12)) hx hb dX9_shift_52 (by decide) ?_
            obtain rfl := Option.some.inj hF
            exact rt_i hret hw rfl dX9_shift_54
        · replace hF := oi_f c8 hF
          refine lv_bipush (v := (-11)) hx hb dX9_shift_34 (by decide) ?_
          obtain rfl := Option.some.inj hF
          exact rt_i hret hw rfl dX9_shift_36
    · replace hF := oi_t c4 hF
      refine lv_iconst (v := (-1)) hx hb dX9_shift_14 (by decide) ?_
      obtain rfl := Option.some.inj hF
      exact rt_i hret hw rfl dX9_shift_15
