theorem cl_X8_324 : Cond.constantLong RX8 324 10000 ∈ gdt := gdt_of 764 (by decide +kernel) (by decide +kernel)
theorem cl_X8_326 : Cond.constantLong RX8 326 1000 ∈ gdt := gdt_of 765 (by decide +kernel) (by decide +kernel)
theorem dX8_codeOfPayment_0 : decode cX8_codeOfPayment 0 = .ok (.aload_n 0, 1) := by decide +kernel
theorem dX8_codeOfPayment_1 : decode cX8_codeOfPayment 1 = .ok (.getfield 42, 3) := by decide +kernel
theorem dX8_codeOfPayment_4 : decode cX8_codeOfPayment 4 = .ok (.getfield 173, 3) := by decide +kernel
theorem dX8_codeOfPayment_7 : decode cX8_codeOfPayment 7 = .ok (.astore_n 2, 1) := by decide +kernel
theorem dX8_codeOfPayment_8 : decode cX8_codeOfPayment 8 = .ok (.ldc2_w 324, 3) := by decide +kernel
theorem dX8_codeOfPayment_11 : decode cX8_codeOfPayment 11 = .ok (.aload_n 2, 1) := by decide +kernel
theorem dX8_codeOfPayment_12 : decode cX8_codeOfPayment 12 = .ok (.iload_n 1, 1) := by decide +kernel
theorem dX8_codeOfPayment_13 : decode cX8_codeOfPayment 13 = .ok (.iconst 0, 1) := by decide +kernel
theorem dX8_codeOfPayment_14 : decode cX8_codeOfPayment 14 = .ok (.invokevirtual 153, 3) := by decide +kernel
theorem dX8_codeOfPayment_17 : decode cX8_codeOfPayment 17 = .ok (.i2l, 1) := by decide +kernel
theorem dX8_codeOfPayment_18 : decode cX8_codeOfPayment 18 = .ok (.lmul, 1) := by decide +kernel
theorem dX8_codeOfPayment_19 : decode cX8_codeOfPayment 19 = .ok (.ldc2_w 326, 3) := by decide +kernel
theorem dX8_codeOfPayment_22 : decode cX8_codeOfPayment 22 = .ok (.aload_n 2, 1) := by decide +kernel
theorem dX8_codeOfPayment_23 : decode cX8_codeOfPayment 23 = .ok (.iload_n 1, 1) := by decide +kernel
theorem dX8_codeOfPayment_24 : decode cX8_codeOfPayment 24 = .ok (.iconst 1, 1) := by decide +kernel
theorem dX8_codeOfPayment_25 : decode cX8_codeOfPayment 25 = .ok (.invokevirtual 153, 3) := by decide +kernel
theorem dX8_codeOfPayment_28 : decode cX8_codeOfPayment 28 = .ok (.i2l, 1) := by decide +kernel
theorem dX8_codeOfPayment_29 : decode cX8_codeOfPayment 29 = .ok (.lmul, 1) := by decide +kernel
theorem dX8_codeOfPayment_30 : decode cX8_codeOfPayment 30 = .ok (.ladd, 1) := by decide +kernel
theorem dX8_codeOfPayment_31 : decode cX8_codeOfPayment 31 = .ok (.aload_n 2, 1) := by decide +kernel
theorem dX8_codeOfPayment_32 : decode cX8_codeOfPayment 32 = .ok (.iload_n 1, 1) := by decide +kernel
theorem dX8_codeOfPayment_33 : decode cX8_codeOfPayment 33 = .ok (.iconst 2, 1) := by decide +kernel
theorem dX8_codeOfPayment_34 : decode cX8_codeOfPayment 34 = .ok (.invokevirtual 153, 3) := by decide +kernel
theorem dX8_codeOfPayment_37 : decode cX8_codeOfPayment 37 = .ok (.i2l, 1) := by decide +kernel
theorem dX8_codeOfPayment_38 : decode cX8_codeOfPayment 38 = .ok (.ladd, 1) := by decide +kernel
theorem dX8_codeOfPayment_39 : decode cX8_codeOfPayment 39 = .ok (.lreturn, 1) := by decide +kernel
def fX8_codeOfPayment (n_netting_payments_numbers : Nat) (u_netting_payments_size : Int32) (u_netting_payments_numbers : (Nat → Int32)) (x1 : Int32) : Option Int64 := (fX5_at n_netting_payments_numbers u_netting_payments_size u_netting_payments_numbers x1 0).bind (fun z1 => (fX5_at n_netting_payments_numbers u_netting_payments_size u_netting_payments_numbers x1 1).bind (fun z2 => (fX5_at n_netting_payments_numbers u_netting_payments_size u_netting_payments_numbers x1 2).bind (fun z3 => some (((10000 * ((z1 : Int32).toInt64)) + (1000 * ((z2 : Int32).toInt64))) + ((z3 : Int32).toInt64)))))
set_option maxRecDepth 20000 in
theorem CX8_codeOfPayment (l : Launch) (D : va_G) (C : Nat → ClassId) (q_ q_now q_kept q_supposed q_rings q_netting q_text q_tapes q_netting_balances q_netting_left q_netting_sums q_netting_most q_netting_groups q_netting_payments q_netting_payments_numbers n_netting_payments_numbers : Nat) (u_isKept : Int32) (u_netting_groupCount : Int32) (u_netting_payments_room : Int32) (u_netting_payments_size : Int32) (u_netting_payments_numbers : (Nat → Int32)) (x1 : Int32) (z : Int64) (hF : fX8_codeOfPayment n_netting_payments_numbers u_netting_payments_size u_netting_payments_numbers x1 = some z) : Ct l yX8_codeOfPayment cX8_codeOfPayment 3 (some .long) 2 D C [.ref q_, .int x1] [(q_, .inr (8, [.ref q_now, .ref q_kept, .int u_isKept, .ref q_supposed, .ref q_rings, .ref q_netting, .ref q_text, .ref q_tapes])), (q_netting, .inr (3, [.ref q_netting_balances, .ref q_netting_left, .ref q_netting_sums, .ref q_netting_most, .ref q_netting_groups, .int u_netting_groupCount, .ref q_netting_payments])), (q_netting_payments, .inr (5, [.ref q_netting_payments_numbers, .int u_netting_payments_room, .int u_netting_payments_size])), (q_netting_payments_numbers, .inl (C 0, n_netting_payments_numbers, .inl u_netting_payments_numbers))] [(q_, .inr (8, [.ref q_now, .ref q_kept, .int u_isKept, .ref q_supposed, .ref q_rings, .ref q_netting, .ref q_text, .ref q_tapes])), (q_netting, .inr (3, [.ref q_netting_balances, .ref q_netting_left, .ref q_netting_sums, .ref q_netting_most, .ref q_netting_groups, .int u_netting_groupCount, .ref q_netting_payments])), (q_netting_payments, .inr (5, [.ref q_netting_payments_numbers, .int u_netting_payments_room, .int u_netting_payments_size])), (q_netting_payments_numbers, .inl (C 0, n_netting_payments_numbers, .inl u_netting_payments_numbers))] (some (.long z)) := by
  refine Ct_of (by decide) (Nat.le_of_ble_eq_true rfl) ?_
  intro p e R s m args below meth c A Q H locs ls cx hw hl hret
  have cx : CX p m c s args RX8 cX8_codeOfPayment 3 D C A R 2 := cx
  have hx := cx.1
  have hb := cx.2.1
  have hl : lv_has ls 3 [(0, .ref q_), (1, .int x1)] := hl
  rw [fX8_codeOfPayment.eq_1] at hF
  refine lv_aload_n hx hb dX8_codeOfPayment_0 rfl (lv_at hl 0 rfl) ?_
  refine r_get (ci := 8) (v := .ref q_netting) cx hw iX8 0 5 rfl rfl (by decide) wf_X8_42 rfl dX8_codeOfPayment_1 ?_
  refine r_get (ci := 3) (v := .ref q_netting_payments) cx hw iX3 1 6 rfl rfl (by decide) wf_X8_173 rfl dX8_codeOfPayment_4 ?_
  refine lv_astore_n (lv' := [(2, .ref q_netting_payments), (0, .ref q_), (1, .int x1)]) hx hb dX8_codeOfPayment_7 rfl hl (by decide) rfl (fun ls hl => ?_)
  refine lv_ldc2 (v := 10000) hx hb cx.2.2.2.1 (cx.2.2.2.2.1 _ cl_X8_324) dX8_codeOfPayment_8 ?_
  refine lv_aload_n hx hb dX8_codeOfPayment_11 rfl (lv_at hl 0 rfl) ?_
  refine lv_iload_n hx hb dX8_codeOfPayment_12 rfl (lv_at hl 2 rfl) ?_
  refine lv_iconst (v := 0) hx hb dX8_codeOfPayment_13 (by decide) ?_
  obtain ⟨z1, hz1, hF⟩ := ob hF
  refine cV (wr := [(q_, .inr (8, [.ref q_now, .ref q_kept, .int u_isKept, .ref q_supposed, .ref q_rings, .ref q_netting, .ref q_text, .ref q_tapes])), (q_netting, .inr (3, [.ref q_netting_balances, .ref q_netting_left, .ref q_netting_sums, .ref q_netting_most, .ref q_netting_groups, .int u_netting_groupCount, .ref q_netting_payments]))]) (w2 := [(q_, .inr (8, [.ref q_now, .ref q_kept, .int u_isKept, .ref q_supposed, .ref q_rings, .ref q_netting, .ref q_text, .ref q_tapes])), (q_netting, .inr (3, [.ref q_netting_balances, .ref q_netting_left, .ref q_netting_sums, .ref q_netting_most, .ref q_netting_groups, .int u_netting_groupCount, .ref q_netting_payments])), (q_netting_payments, .inr (5, [.ref q_netting_payments_numbers, .int u_netting_payments_room, .int u_netting_payments_size])), (q_netting_payments_numbers, .inl (C 0, n_netting_payments_numbers, .inl u_netting_payments_numbers))]) (st2 := [.int z1, .long 10000]) cx (CX5_at l D C q_netting_payments q_netting_payments_numbers n_netting_payments_numbers u_netting_payments_room u_netting_payments_size u_netting_payments_numbers x1 0 z1 hz1) lk_X8_153 my_X5_at ml_X5_at ⟨by decide, by decide⟩ hw [2, 3] [0, 1] [0, 1, 2, 3] rfl rfl (by decide) rfl rfl rfl rfl (Nat.le_of_ble_eq_true rfl) dX8_codeOfPayment_14 rfl (fun H locs hw => ?_) hl.1
  refine lv_i2l (v := (z1 : Int32).toInt64) hx hb dX8_codeOfPayment_17 rfl ?_
  refine lv_lmul hx hb dX8_codeOfPayment_18 ?_
  refine lv_ldc2 (v := 1000) hx hb cx.2.2.2.1 (cx.2.2.2.2.1 _ cl_X8_326) dX8_codeOfPayment_19 ?_
  refine lv_aload_n hx hb dX8_codeOfPayment_22 rfl (lv_at hl 0 rfl) ?_
  refine lv_iload_n hx hb dX8_codeOfPayment_23 rfl (lv_at hl 2 rfl) ?_
  refine lv_iconst (v := 1) hx hb dX8_codeOfPayment_24 (by decide) ?_
  obtain ⟨z2, hz2, hF⟩ := ob hF
  refine cV (wr := [(q_, .inr (8, [.ref q_now, .ref q_kept, .int u_isKept, .ref q_supposed, .ref q_rings, .ref q_netting, .ref q_text, .ref q_tapes])), (q_netting, .inr (3, [.ref q_netting_balances, .ref q_netting_left, .ref q_netting_sums, .ref q_netting_most, .ref q_netting_groups, .int u_netting_groupCount, .ref q_netting_payments]))]) (w2 := [(q_, .inr (8, [.ref q_now, .ref q_kept, .int u_isKept, .ref q_supposed, .ref q_rings, .ref q_netting, .ref q_text, .ref q_tapes])), (q_netting, .inr (3, [.ref q_netting_balances, .ref q_netting_left, .ref q_netting_sums, .ref q_netting_most, .ref q_netting_groups, .int u_netting_groupCount, .ref q_netting_payments])), (q_netting_payments, .inr (5, [.ref q_netting_payments_numbers, .int u_netting_payments_room, .int u_netting_payments_size])), (q_netting_payments_numbers, .inl (C 0, n_netting_payments_numbers, .inl u_netting_payments_numbers))]) (st2 := [.int z2, .long 1000, .long (10000 * ((z1 : Int32).toInt64))]) cx (CX5_at l D C q_netting_payments q_netting_payments_numbers n_netting_payments_numbers u_netting_payments_room u_netting_payments_size u_netting_payments_numbers x1 1 z2 hz2) lk_X8_153 my_X5_at ml_X5_at ⟨by decide, by decide⟩ hw [2, 3] [0, 1] [0, 1, 2, 3] rfl rfl (by decide) rfl rfl rfl rfl (Nat.le_of_ble_eq_true rfl) dX8_codeOfPayment_25 rfl (fun H locs hw => ?_) hl.1
  refine lv_i2l (v := (z2 : Int32).toInt64) hx hb dX8_codeOfPayment_28 rfl ?_
  refine lv_lmul hx hb dX8_codeOfPayment_29 ?_
  refine lv_ladd hx hb dX8_codeOfPayment_30 ?_
  refine lv_aload_n hx hb dX8_codeOfPayment_31 rfl (lv_at hl 0 rfl) ?_
  refine lv_iload_n hx hb dX8_codeOfPayment_32 rfl (lv_at hl 2 rfl) ?_
  refine lv_iconst (v := 2) hx hb dX8_codeOfPayment_33 (by decide) ?_
  obtain ⟨z3, hz3, hF⟩ := ob hF
  refine cV (wr := [(q_, .inr (8, [.ref q_now, .ref q_kept, .int u_isKept, .ref q_supposed, .ref q_rings, .ref q_netting, .ref q_text, .ref q_tapes])), (q_netting, .inr (3, [.ref q_netting_balances, .ref q_netting_left, .ref q_netting_sums, .ref q_netting_most, .ref q_netting_groups, .int u_netting_groupCount, .ref q_netting_payments]))]) (w2 := [(q_, .inr (8, [.ref q_now, .ref q_kept, .int u_isKept, .ref q_supposed, .ref q_rings, .ref q_netting, .ref q_text, .ref q_tapes])), (q_netting, .inr (3, [.ref q_netting_balances, .ref q_netting_left, .ref q_netting_sums, .ref q_netting_most, .ref q_netting_groups, .int u_netting_groupCount, .ref q_netting_payments])), (q_netting_payments, .inr (5, [.ref q_netting_payments_numbers, .int u_netting_payments_room, .int u_netting_payments_size])), (q_netting_payments_numbers, .inl (C 0, n_netting_payments_numbers, .inl u_netting_payments_numbers))]) (st2 := [.int z3, .long ((10000 * ((z1 : Int32).toInt64)) + (1000 * ((z2 : Int32).toInt64)))]) cx (CX5_at l D C q_netting_payments q_netting_payments_numbers n_netting_payments_numbers u_netting_payments_room u_netting_payments_size u_netting_payments_numbers x1 2 z3 hz3) lk_X8_153 my_X5_at ml_X5_at ⟨by decide, by decide⟩ hw [2, 3] [0, 1] [0, 1, 2, 3] rfl rfl (by decide) rfl rfl rfl rfl (Nat.le_of_ble_eq_true rfl) dX8_codeOfPayment_34 rfl (fun H locs hw => ?_) hl.1
  refine lv_i2l (v := (z3 : Int32).toInt64) hx hb dX8_codeOfPayment_37 rfl ?_
  refine lv_ladd hx hb dX8_codeOfPayment_38 ?_
  obtain rfl := Option.some.inj hF
  exact rt_l hret hw rfl dX8_codeOfPayment_39
