theorem lk_X9_175 : Cond.methodLink RX9 175 yX9_balances ∈ gdt := gdt_of 1068 (by decide +kernel) (by decide +kernel)
theorem cl_X9_173 : Cond.constantLong RX9 173 (-9223372036854775808) ∈ gdt := gdt_of 1067 (by decide +kernel) (by decide +kernel)
theorem my_X9_balances : (yX9_balances.cls ≠ "java/lang/invoke/MethodHandle" ∧ yX9_balances.cls ≠ "java/lang/invoke/VarHandle") ∧ Cond.instanceMethod yX9_balances ∈ gdt ∧ Cond.selects yX9_balances.cls yX9_balances yX9_balances ∈ gdt ∧ Cond.initialized yX9_balances.cls ∈ gdt ∧ Cond.code yX9_balances cX9_balances 3 none ∈ gdt := ⟨⟨by decide +kernel, by decide +kernel⟩, gdt_of 1070 (by decide +kernel) (by decide +kernel), gdt_of 46 (by decide +kernel) (by decide +kernel), gdt_of 77 (by decide +kernel) (by decide +kernel), gdt_of 1071 (by decide +kernel) (by decide +kernel)⟩
theorem ml_X9_balances : (parseMethodDescriptor yX9_balances.desc).map (fun d => d.parameters.length) = some 0 := by decide +kernel
theorem dX9_balance_0 : decode cX9_balance 0 = .ok (.aload_n 0, 1) := by decide +kernel
theorem dX9_balance_1 : decode cX9_balance 1 = .ok (.iload_n 1, 1) := by decide +kernel
theorem dX9_balance_2 : decode cX9_balance 2 = .ok (.invokevirtual 84, 3) := by decide +kernel
theorem dX9_balance_5 : decode cX9_balance 5 = .ok (.ifCond .ne 7, 3) := by decide +kernel
theorem dX9_balance_8 : decode cX9_balance 8 = .ok (.ldc2_w 173, 3) := by decide +kernel
theorem dX9_balance_11 : decode cX9_balance 11 = .ok (.lreturn, 1) := by decide +kernel
theorem dX9_balance_12 : decode cX9_balance 12 = .ok (.aload_n 0, 1) := by decide +kernel
theorem dX9_balance_13 : decode cX9_balance 13 = .ok (.invokevirtual 175, 3) := by decide +kernel
theorem dX9_balance_16 : decode cX9_balance 16 = .ok (.aload_n 0, 1) := by decide +kernel
theorem dX9_balance_17 : decode cX9_balance 17 = .ok (.getfield 42, 3) := by decide +kernel
theorem dX9_balance_20 : decode cX9_balance 20 = .ok (.iload_n 1, 1) := by decide +kernel
theorem dX9_balance_21 : decode cX9_balance 21 = .ok (.iaload, 1) := by decide +kernel
theorem dX9_balance_22 : decode cX9_balance 22 = .ok (.i2l, 1) := by decide +kernel
theorem dX9_balance_23 : decode cX9_balance 23 = .ok (.lreturn, 1) := by decide +kernel
def fX9_balance (u_people : Int32) (u_owes : (Nat → Int32)) (u_balance : (Nat → Int32)) (x1 : Int32) : Option (Int64 × (Nat → Int32)) := (fX9_isPerson u_people x1).bind (fun z1 => if z1 = 0 then (some ((-9223372036854775808), u_balance)) else ((fX9_balances u_people u_owes u_balance).bind (fun z3 => gA x1 6 (some ((z3 (x1).toNatClampNeg : Int32).toInt64, z3)))))
set_option maxRecDepth 20000 in
theorem CX9_balance (l : Launch) (D : va_G) (C : Nat → ClassId) (q_ q_owes q_denies q_debt q_cut q_sight q_event q_book q_text q_path q_ring q_balance q_left q_sum q_parts q_group q_payment q_then q_image q_tapeSort q_tapeSize q_items : Nat) (u_people : Int32) (u_debts : Int32) (u_cuts : Int32) (u_seen : Int32) (u_events : Int32) (u_inBook : Int32) (u_texted : Int32) (u_rule : Int32) (u_rings : Int32) (u_size : Int32) (u_least : Int32) (u_worth : Int64) (u_groups : Int32) (u_paid : Int32) (u_imaged : Int32) (u_owes : (Nat → Int32)) (u_balance : (Nat → Int32)) (x1 : Int32) (z : (Int64 × (Nat → Int32))) (hF : fX9_balance u_people u_owes u_balance x1 = some z) : Ct l yX9_balance cX9_balance 2 (some .long) 3 D C [.ref q_, .int x1] [(q_, .inr (9, [.int u_people, .ref q_owes, .ref q_denies, .int u_debts, .ref q_debt, .int u_cuts, .ref q_cut, .int u_seen, .ref q_sight, .int u_events, .ref q_event, .int u_inBook, .ref q_book, .int u_texted, .ref q_text, .ref q_path, .int u_rule, .int u_rings, .int u_size, .int u_least, .long u_worth, .ref q_ring, .ref q_balance, .ref q_left, .ref q_sum, .ref q_parts, .int u_groups, .ref q_group, .int u_paid, .ref q_payment, .ref q_then, .int u_imaged, .ref q_image, .ref q_tapeSort, .ref q_tapeSize, .ref q_items])), (q_owes, .inl (C 0, 36, .inl u_owes)), (q_balance, .inl (C 0, 6, .inl u_balance))] [(q_, .inr (9, [.int u_people, .ref q_owes, .ref q_denies, .int u_debts, .ref q_debt, .int u_cuts, .ref q_cut, .int u_seen, .ref q_sight, .int u_events, .ref q_event, .int u_inBook, .ref q_book, .int u_texted, .ref q_text, .ref q_path, .int u_rule, .int u_rings, .int u_size, .int u_least, .long u_worth, .ref q_ring, .ref q_balance, .ref q_left, .ref q_sum, .ref q_parts, .int u_groups, .ref q_group, .int u_paid, .ref q_payment, .ref q_then, .int u_imaged, .ref q_image, .ref q_tapeSort, .ref q_tapeSize, .ref q_items])), (q_owes, .inl (C 0, 36, .inl u_owes)), (q_balance, .inl (C 0, 6, .inl z.2))] (some (.long z.1)) := by
  refine Ct_of (by decide) (Nat.le_of_ble_eq_true rfl) ?_
  intro p e R s m args below meth c A Q H locs ls cx hw hl hret
  have cx : CX p m c s args RX9 cX9_balance 2 D C A R 3 := cx
  have hx := cx.1
  have hb := cx.2.1
  have hl : lv_has ls 2 [(0, .ref q_), (1, .int x1)] := hl
  rw [fX9_balance.eq_1] at hF
  refine lv_aload_n hx hb dX9_balance_0 rfl (lv_at hl 0 rfl) ?_
  refine lv_iload_n hx hb dX9_balance_1 rfl (lv_at hl 1 rfl) ?_
  obtain ⟨z1, hz1, hF⟩ := ob hF
  refine cV (wr := [(q_owes, .inl (C 0, 36, .inl u_owes)), (q_balance, .inl (C 0, 6, .inl u_balance))]) (w2 := [(q_, .inr (9, [.int u_people, .ref q_owes, .ref q_denies, .int u_debts, .ref q_debt, .int u_cuts, .ref q_cut, .int u_seen, .ref q_sight, .int u_events, .ref q_event, .int u_inBook, .ref q_book, .int u_texted, .ref q_text, .ref q_path, .int u_rule, .int u_rings, .int u_size, .int u_least, .long u_worth, .ref q_ring, .ref q_balance, .ref q_left, .ref q_sum, .ref q_parts, .int u_groups, .ref q_group, .int u_paid, .ref q_payment, .ref q_then, .int u_imaged, .ref q_image, .ref q_tapeSort, .ref q_tapeSize, .ref q_items])), (q_owes, .inl (C 0, 36, .inl u_owes)), (q_balance, .inl (C 0, 6, .inl u_balance))]) (st2 := [.int z1]) cx (CX9_isPerson l D C q_ q_owes q_denies q_debt q_cut q_sight q_event q_book q_text q_path q_ring q_balance q_left q_sum q_parts q_group q_payment q_then q_image q_tapeSort q_tapeSize q_items u_people u_debts u_cuts u_seen u_events u_inBook u_texted u_rule u_rings u_size u_least u_worth u_groups u_paid u_imaged x1 z1 hz1) lk_X9_84 my_X9_isPerson ml_X9_isPerson ⟨by decide, by decide⟩ hw [0] [1, 2] [2, 0, 1] rfl rfl (by decide) rfl rfl rfl rfl (Nat.le_of_ble_eq_true rfl) dX9_balance_2 rfl (fun H locs hw => ?_) hl.1
  refine lv_if_ne (tgt := 12) hx hb dX9_balance_5 (by decide) (fun c2 => ?_) (fun c2 => ?_)
  · replace hF := oi_f c2 hF
    refine lv_aload_n hx hb dX9_balance_12 rfl (lv_at hl 0 rfl) ?_
    obtain ⟨z3, hz3, hF⟩ := ob hF
    refine cV (wr := []) (w2 := [(q_, .inr (9, [.int u_people, .ref q_owes, .ref q_denies, .int u_debts, .ref q_debt, .int u_cuts, .ref q_cut, .int u_seen, .ref q_sight, .int u_events, .ref q_event, .int u_inBook, .ref q_book, .int u_texted, .ref q_text, .ref q_path, .int u_rule, .int u_rings, .int u_size, .int u_least, .long u_worth, .ref q_ring, .ref q_balance, .ref q_left, .ref q_sum, .ref q_parts, .int u_groups, .ref q_group, .int u_paid, .ref q_payment, .ref q_then, .int u_imaged, .ref q_image, .ref q_tapeSort, .ref q_tapeSize, .ref q_items])), (q_owes, .inl (C 0, 36, .inl u_owes)), (q_balance, .inl (C 0, 6, .inl z3))]) (st2 := []) cx (CX9_balances l D C q_ q_owes q_denies q_debt q_cut q_sight q_event q_book q_text q_path q_ring q_balance q_left q_sum q_parts q_group q_payment q_then q_image q_tapeSort q_tapeSize q_items u_people u_debts u_cuts u_seen u_events u_inBook u_texted u_rule u_rings u_size u_least u_worth u_groups u_paid u_imaged u_owes u_balance z3 hz3) lk_X9_175 my_X9_balances ml_X9_balances ⟨by decide, by decide⟩ hw [0, 1, 2] [] [0, 1, 2] rfl rfl (by decide) rfl rfl rfl rfl (Nat.le_of_ble_eq_true rfl) dX9_balance_13 rfl (fun H locs hw => ?_) hl.1
    refine lv_aload_n hx hb dX9_balance_16 rfl (lv_at hl 0 rfl) ?_
    refine r_get (ci := 9) (v := .ref q_balance) cx hw iX9 0 22 rfl rfl (by decide) wf_X9_42 rfl dX9_balance_17 ?_
    refine lv_iload_n hx hb dX9_balance_20 rfl (lv_at hl 1 rfl) ?_
    obtain ⟨g4, hF⟩ := gA_s hF
    refine r_iald cx hw 2 rfl g4 dX9_balance_21 ?_
    refine lv_i2l (v := (z3 (x1).toNatClampNeg : Int32).toInt64) hx hb dX9_balance_22 rfl ?_
    obtain rfl := Option.some.inj hF
    exact rt_l hret hw rfl dX9_balance_23
  · replace hF := oi_t c2 hF
    refine lv_ldc2 (v := (-9223372036854775808)) hx hb cx.2.2.2.1 (cx.2.2.2.2.1 _ cl_X9_173) dX9_balance_8 ?_
    obtain rfl := Option.some.inj hF
    exact rt_l hret hw rfl dX9_balance_11
theorem dX9_lowest_0 : decode cX9_lowest 0 = .ok (.iconst 0, 1) := by decide +kernel
theorem dX9_lowest_1 : decode cX9_lowest 1 = .ok (.istore_n 1, 1) := by decide +kernel
theorem dX9_lowest_2 : decode cX9_lowest 2 = .ok (.iload_n 0, 1) := by decide +kernel
theorem dX9_lowest_3 : decode cX9_lowest 3 = .ok (.iload_n 1, 1) := by decide +kernel
theorem dX9_lowest_4 : decode cX9_lowest 4 = .ok (.ishr, 1) := by decide +kernel
theorem dX9_lowest_5 : decode cX9_lowest 5 = .ok (.iconst 1, 1) := by decide +kernel
theorem dX9_lowest_6 : decode cX9_lowest 6 = .ok (.iand, 1) := by decide +kernel
theorem dX9_lowest_7 : decode cX9_lowest 7 = .ok (.ifCond .ne 9, 3) := by decide +kernel
theorem dX9_lowest_10 : decode cX9_lowest 10 = .ok (.iinc 1 1, 3) := by decide +kernel
theorem dX9_lowest_13 : decode cX9_lowest 13 = .ok (.goto (-11), 3) := by decide +kernel
theorem dX9_lowest_16 : decode cX9_lowest 16 = .ok (.iload_n 1, 1) := by decide +kernel
theorem dX9_lowest_17 : decode cX9_lowest 17 = .ok (.ireturn, 1) := by decide +kernel
def fX9_lowest_L2 (x0 : Int32) : Nat → Int32 → Option Int32
  | 0, _ => none
  | n + 1, x1 => if ((x0 >>> (x1 &&& 31)) &&& 1) = 0 then (fX9_lowest_L2 x0 n (x1 + 1)) else (some x1)
def fX9_lowest (x0 : Int32) : Option Int32 := fX9_lowest_L2 x0 400 0
set_option maxRecDepth 20000 in
theorem LX9_lowest_2 {p : Program} {l : Launch} {e : Env} {R : Room} {s : State} {m : MethodId} {args : Array Value} {below : List Frame} {meth : Method} {c : Code} {Q : State → Prop} {D : va_G} {C : Nat → ClassId} {A : Nat → Prop} (cx : CX p m c s args RX9 cX9_lowest 2 D C A R 1) {x0 : Int32} {z : Int32} (hret : RT p l e R s m args below meth c Q D A cX9_lowest (some .int) [] (some (.int z))) :
    ∀ (n : Nat) (x1 : Int32) (H : Heap) (locs : List Loc) (ls : Array Slot), fX9_lowest_L2 x0 n x1 = some z → HW D A s.heap H locs [] → lv_has ls 2 [(0, .int x0), (1, .int x1)] → W p l e R s m args below meth c H locs 0 0 Q (F0 m 2 ls []) := by
  have hx := cx.1
  have hb := cx.2.1
  intro n
  induction n with
  | zero => intro x1 H locs ls hF; cases hF
  | succ n ih =>
    intro x1 H locs ls hF hw hl
    rw [fX9_lowest_L2.eq_2] at hF
    refine lv_iload_n hx hb dX9_lowest_2 rfl (lv_at hl 0 rfl) ?_
    refine lv_iload_n hx hb dX9_lowest_3 rfl (lv_at hl 1 rfl) ?_
    refine lv_ishr hx hb dX9_lowest_4 ?_
    refine lv_iconst (v := 1) hx hb dX9_lowest_5 (by decide) ?_
    refine lv_iand hx hb dX9_lowest_6 ?_
    refine lv_if_ne (tgt := 16) hx hb dX9_lowest_7 (by decide) (fun c1 => ?_) (fun c1 => ?_)
    · replace hF := oi_f c1 hF
      refine lv_iload_n hx hb dX9_lowest_16 rfl (lv_at hl 1 rfl) ?_
      obtain rfl := Option.some.inj hF
      exact rt_i hret hw rfl dX9_lowest_17
    · replace hF := oi_t c1 hF
      refine lv_iinc (v := x1 + 1) (lv' := [(1, .int (x1 + 1)), (0, .int x0)]) hx hb dX9_lowest_10 hl (k := 1) rfl rfl (by decide) rfl (fun ls hl => ?_)
      refine lv_goto (tgt := 2) hx hb dX9_lowest_13 (by decide) ?_
      exact ih (x1 + 1) H locs ls hF hw (lv_sub hl [1, 0] rfl)
set_option maxRecDepth 20000 in
theorem CX9_lowest (l : Launch) (D : va_G) (C : Nat → ClassId)  (x0 : Int32) (z : Int32) (hF : fX9_lowest x0 = some z) : Ct l yX9_lowest cX9_lowest 2 (some .int) 1 D C [.int x0] [] [] (some (.int z)) := by
  refine Ct_of (by decide) (Nat.le_of_ble_eq_true rfl) ?_
  intro p e R s m args below meth c A Q H locs ls cx hw hl hret
  have cx : CX p m c s args RX9 cX9_lowest 2 D C A R 1 := cx
  have hx := cx.1
  have hb := cx.2.1
  have hl : lv_has ls 2 [(0, .int x0)] := hl
  rw [fX9_lowest.eq_1] at hF
  refine lv_iconst (v := 0) hx hb dX9_lowest_0 (by decide) ?_
  refine lv_istore_n (lv' := [(1, .int 0), (0, .int x0)]) hx hb dX9_lowest_1 rfl hl (by decide) rfl (fun ls hl => ?_)
  refine LX9_lowest_2 cx hret 400 0 H locs ls hF hw (lv_sub hl [1, 0] rfl)
theorem wf_X9_48 : Cond.fieldLink RX9 48 (TX9 24).1 (TX9 24).2.1 (TX9 24).2.2.1 ∈ gdt := gdt_of 864 (by decide +kernel) (by decide +kernel)
theorem wf_X9_51 : Cond.fieldLink RX9 51 (TX9 25).1 (TX9 25).2.1 (TX9 25).2.2.1 ∈ gdt := gdt_of 865 (by decide +kernel) (by decide +kernel)
theorem lk_X9_178 : Cond.methodLink RX9 178 yX9_lowest ∈ gdt := gdt_of 1080 (by decide +kernel) (by decide +kernel)
theorem wf_X9_181 : Cond.fieldLink RX9 181 (TX9 26).1 (TX9 26).2.1 (TX9 26).2.2.1 ∈ gdt := gdt_of 866 (by decide +kernel) (by decide +kernel)
theorem wf_X9_54 : Cond.fieldLink RX9 54 (TX9 27).1 (TX9 27).2.1 (TX9 27).2.2.1 ∈ gdt := gdt_of 867 (by decide +kernel) (by decide +kernel)
theorem my_X9_lowest : (yX9_lowest.cls ≠ "java/lang/invoke/MethodHandle" ∧ yX9_lowest.cls ≠ "java/lang/invoke/VarHandle") ∧ Cond.static yX9_lowest ∈ gdt ∧ Cond.initialized yX9_lowest.cls ∈ gdt ∧ Cond.code yX9_lowest cX9_lowest 2 (some .int) ∈ gdt := ⟨⟨by decide +kernel, by decide +kernel⟩, gdt_of 1081 (by decide +kernel) (by decide +kernel), gdt_of 77 (by decide +kernel) (by decide +kernel), gdt_of 1082 (by decide +kernel) (by decide +kernel)⟩
theorem ml_X9_lowest : (parseMethodDescriptor yX9_lowest.desc).map (fun d => d.parameters.length) = some 1 := by decide +kernel
theorem dX9_groups_0 : decode cX9_groups 0 = .ok (.aload_n 0, 1) := by decide +kernel
theorem dX9_groups_1 : decode cX9_groups 1 = .ok (.invokevirtual 175, 3) := by decide +kernel
theorem dX9_groups_4 : decode cX9_groups 4 = .ok (.iconst 0, 1) := by decide +kernel
theorem dX9_groups_5 : decode cX9_groups 5 = .ok (.istore_n 1, 1) := by decide +kernel
theorem dX9_groups_6 : decode cX9_groups 6 = .ok (.iconst 0, 1) := by decide +kernel
theorem dX9_groups_7 : decode cX9_groups 7 = .ok (.istore_n 2, 1) := by decide +kernel
theorem dX9_groups_8 : decode cX9_groups 8 = .ok (.iload_n 2, 1) := by decide +kernel
theorem dX9_groups_9 : decode cX9_groups 9 = .ok (.aload_n 0, 1) := by decide +kernel
theorem dX9_groups_10 : decode cX9_groups 10 = .ok (.getfield 76, 3) := by decide +kernel
theorem dX9_groups_13 : decode cX9_groups 13 = .ok (.if_icmp .ge 24, 3) := by decide +kernel
theorem dX9_groups_16 : decode cX9_groups 16 = .ok (.aload_n 0, 1) := by decide +kernel
theorem dX9_groups_17 : decode cX9_groups 17 = .ok (.getfield 42, 3) := by decide +kernel
theorem dX9_groups_20 : decode cX9_groups 20 = .ok (.iload_n 2, 1) := by decide +kernel
theorem dX9_groups_21 : decode cX9_groups 21 = .ok (.iaload, 1) := by decide +kernel
theorem dX9_groups_22 : decode cX9_groups 22 = .ok (.ifCond .eq 9, 3) := by decide +kernel
theorem dX9_groups_25 : decode cX9_groups 25 = .ok (.iload_n 1, 1) := by decide +kernel
theorem dX9_groups_26 : decode cX9_groups 26 = .ok (.iconst 1, 1) := by decide +kernel
theorem dX9_groups_27 : decode cX9_groups 27 = .ok (.iload_n 2, 1) := by decide +kernel
theorem dX9_groups_28 : decode cX9_groups 28 = .ok (.ishl, 1) := by decide +kernel
theorem dX9_groups_29 : decode cX9_groups 29 = .ok (.ior, 1) := by decide +kernel
theorem dX9_groups_30 : decode cX9_groups 30 = .ok (.istore_n 1, 1) := by decide +kernel
theorem dX9_groups_31 : decode cX9_groups 31 = .ok (.iinc 2 1, 3) := by decide +kernel
theorem dX9_groups_34 : decode cX9_groups 34 = .ok (.goto (-26), 3) := by decide +kernel
theorem dX9_groups_37 : decode cX9_groups 37 = .ok (.aload_n 0, 1) := by decide +kernel
theorem dX9_groups_38 : decode cX9_groups 38 = .ok (.getfield 48, 3) := by decide +kernel
theorem dX9_groups_41 : decode cX9_groups 41 = .ok (.iconst 0, 1) := by decide +kernel
theorem dX9_groups_42 : decode cX9_groups 42 = .ok (.iconst 0, 1) := by decide +kernel
theorem dX9_groups_43 : decode cX9_groups 43 = .ok (.iastore, 1) := by decide +kernel
theorem dX9_groups_44 : decode cX9_groups 44 = .ok (.aload_n 0, 1) := by decide +kernel
theorem dX9_groups_45 : decode cX9_groups 45 = .ok (.getfield 51, 3) := by decide +kernel
theorem dX9_groups_48 : decode cX9_groups 48 = .ok (.iconst 0, 1) := by decide +kernel
theorem dX9_groups_49 : decode cX9_groups 49 = .ok (.iconst 0, 1) := by decide +kernel
theorem dX9_groups_50 : decode cX9_groups 50 = .ok (.iastore, 1) := by decide +kernel
theorem dX9_groups_51 : decode cX9_groups 51 = .ok (.iconst 1, 1) := by decide +kernel
theorem dX9_groups_52 : decode cX9_groups 52 = .ok (.istore_n 2, 1) := by decide +kernel
theorem dX9_groups_53 : decode cX9_groups 53 = .ok (.iload_n 2, 1) := by decide +kernel
theorem dX9_groups_54 : decode cX9_groups 54 = .ok (.bipush 64, 2) := by decide +kernel
theorem dX9_groups_56 : decode cX9_groups 56 = .ok (.if_icmp .ge 142, 3) := by decide +kernel
theorem dX9_groups_59 : decode cX9_groups 59 = .ok (.iload_n 2, 1) := by decide +kernel
theorem dX9_groups_60 : decode cX9_groups 60 = .ok (.invokestatic 178, 3) := by decide +kernel
theorem dX9_groups_63 : decode cX9_groups 63 = .ok (.istore_n 3, 1) := by decide +kernel
theorem dX9_groups_64 : decode cX9_groups 64 = .ok (.aload_n 0, 1) := by decide +kernel
theorem dX9_groups_65 : decode cX9_groups 65 = .ok (.getfield 48, 3) := by decide +kernel
theorem dX9_groups_68 : decode cX9_groups 68 = .ok (.iload_n 2, 1) := by decide +kernel
theorem dX9_groups_69 : decode cX9_groups 69 = .ok (.aload_n 0, 1) := by decide +kernel
theorem dX9_groups_70 : decode cX9_groups 70 = .ok (.getfield 48, 3) := by decide +kernel
theorem dX9_groups_73 : decode cX9_groups 73 = .ok (.iload_n 2, 1) := by decide +kernel
theorem dX9_groups_74 : decode cX9_groups 74 = .ok (.iload_n 2, 1) := by decide +kernel
theorem dX9_groups_75 : decode cX9_groups 75 = .ok (.iconst 1, 1) := by decide +kernel
theorem dX9_groups_76 : decode cX9_groups 76 = .ok (.isub, 1) := by decide +kernel
theorem dX9_groups_77 : decode cX9_groups 77 = .ok (.iand, 1) := by decide +kernel
theorem dX9_groups_78 : decode cX9_groups 78 = .ok (.iaload, 1) := by decide +kernel
theorem dX9_groups_79 : decode cX9_groups 79 = .ok (.aload_n 0, 1) := by decide +kernel
theorem dX9_groups_80 : decode cX9_groups 80 = .ok (.getfield 42, 3) := by decide +kernel
theorem dX9_groups_83 : decode cX9_groups 83 = .ok (.iload_n 3, 1) := by decide +kernel
theorem dX9_groups_84 : decode cX9_groups 84 = .ok (.iaload, 1) := by decide +kernel
theorem dX9_groups_85 : decode cX9_groups 85 = .ok (.iadd, 1) := by decide +kernel
theorem dX9_groups_86 : decode cX9_groups 86 = .ok (.iastore, 1) := by decide +kernel
theorem dX9_groups_87 : decode cX9_groups 87 = .ok (.aload_n 0, 1) := by decide +kernel
theorem dX9_groups_88 : decode cX9_groups 88 = .ok (.getfield 51, 3) := by decide +kernel
theorem dX9_groups_91 : decode cX9_groups 91 = .ok (.iload_n 2, 1) := by decide +kernel
theorem dX9_groups_92 : decode cX9_groups 92 = .ok (.iconst (-1), 1) := by decide +kernel
theorem dX9_groups_93 : decode cX9_groups 93 = .ok (.iastore, 1) := by decide +kernel
theorem dX9_groups_94 : decode cX9_groups 94 = .ok (.iload_n 2, 1) := by decide +kernel
theorem dX9_groups_95 : decode cX9_groups 95 = .ok (.iload_n 1, 1) := by decide +kernel
theorem dX9_groups_96 : decode cX9_groups 96 = .ok (.iconst (-1), 1) := by decide +kernel
theorem dX9_groups_97 : decode cX9_groups 97 = .ok (.ixor, 1) := by decide +kernel
theorem dX9_groups_98 : decode cX9_groups 98 = .ok (.iand, 1) := by decide +kernel
theorem dX9_groups_99 : decode cX9_groups 99 = .ok (.ifCond .eq 6, 3) := by decide +kernel
theorem dX9_groups_102 : decode cX9_groups 102 = .ok (.goto 90, 3) := by decide +kernel
theorem dX9_groups_105 : decode cX9_groups 105 = .ok (.iconst 1, 1) := by decide +kernel
theorem dX9_groups_106 : decode cX9_groups 106 = .ok (.istore 4, 2) := by decide +kernel
theorem dX9_groups_108 : decode cX9_groups 108 = .ok (.iload 4, 2) := by decide +kernel
theorem dX9_groups_110 : decode cX9_groups 110 = .ok (.iload_n 2, 1) := by decide +kernel
theorem dX9_groups_111 : decode cX9_groups 111 = .ok (.if_icmp .gt 81, 3) := by decide +kernel
theorem dX9_groups_114 : decode cX9_groups 114 = .ok (.iload 4, 2) := by decide +kernel
theorem dX9_groups_116 : decode cX9_groups 116 = .ok (.iload_n 2, 1) := by decide +kernel
theorem dX9_groups_117 : decode cX9_groups 117 = .ok (.iconst (-1), 1) := by decide +kernel
theorem dX9_groups_118 : decode cX9_groups 118 = .ok (.ixor, 1) := by decide +kernel
theorem dX9_groups_119 : decode cX9_groups 119 = .ok (.iand, 1) := by decide +kernel
theorem dX9_groups_120 : decode cX9_groups 120 = .ok (.ifCond .ne 66, 3) := by decide +kernel
theorem dX9_groups_123 : decode cX9_groups 123 = .ok (.iload 4, 2) := by decide +kernel
theorem dX9_groups_125 : decode cX9_groups 125 = .ok (.iload_n 3, 1) := by decide +kernel
theorem dX9_groups_126 : decode cX9_groups 126 = .ok (.ishr, 1) := by decide +kernel
theorem dX9_groups_127 : decode cX9_groups 127 = .ok (.iconst 1, 1) := by decide +kernel
theorem dX9_groups_128 : decode cX9_groups 128 = .ok (.iand, 1) := by decide +kernel
theorem dX9_groups_129 : decode cX9_groups 129 = .ok (.ifCond .eq 57, 3) := by decide +kernel
theorem dX9_groups_132 : decode cX9_groups 132 = .ok (.aload_n 0, 1) := by decide +kernel
theorem dX9_groups_133 : decode cX9_groups 133 = .ok (.getfield 48, 3) := by decide +kernel
theorem dX9_groups_136 : decode cX9_groups 136 = .ok (.iload 4, 2) := by decide +kernel
theorem dX9_groups_138 : decode cX9_groups 138 = .ok (.iaload, 1) := by decide +kernel
theorem dX9_groups_139 : decode cX9_groups 139 = .ok (.ifCond .eq 6, 3) := by decide +kernel
theorem dX9_groups_142 : decode cX9_groups 142 = .ok (.goto 44, 3) := by decide +kernel
theorem dX9_groups_145 : decode cX9_groups 145 = .ok (.aload_n 0, 1) := by decide +kernel
theorem dX9_groups_146 : decode cX9_groups 146 = .ok (.getfield 51, 3) := by decide +kernel
theorem dX9_groups_149 : decode cX9_groups 149 = .ok (.iload_n 2, 1) := by decide +kernel
theorem dX9_groups_150 : decode cX9_groups 150 = .ok (.iload 4, 2) := by decide +kernel
theorem dX9_groups_152 : decode cX9_groups 152 = .ok (.iconst (-1), 1) := by decide +kernel
theorem dX9_groups_153 : decode cX9_groups 153 = .ok (.ixor, 1) := by decide +kernel
theorem dX9_groups_154 : decode cX9_groups 154 = .ok (.iand, 1) := by decide +kernel
theorem dX9_groups_155 : decode cX9_groups 155 = .ok (.iaload, 1) := by decide +kernel
theorem dX9_groups_156 : decode cX9_groups 156 = .ok (.istore 5, 2) := by decide +kernel
theorem dX9_groups_158 : decode cX9_groups 158 = .ok (.iload 5, 2) := by decide +kernel
theorem dX9_groups_160 : decode cX9_groups 160 = .ok (.ifCond .lt 26, 3) := by decide +kernel
theorem dX9_groups_163 : decode cX9_groups 163 = .ok (.iload 5, 2) := by decide +kernel
theorem dX9_groups_165 : decode cX9_groups 165 = .ok (.iconst 1, 1) := by decide +kernel
theorem dX9_groups_166 : decode cX9_groups 166 = .ok (.iadd, 1) := by decide +kernel
theorem dX9_groups_167 : decode cX9_groups 167 = .ok (.aload_n 0, 1) := by decide +kernel
theorem dX9_groups_168 : decode cX9_groups 168 = .ok (.getfield 51, 3) := by decide +kernel
theorem dX9_groups_171 : decode cX9_groups 171 = .ok (.iload_n 2, 1) := by decide +kernel
theorem dX9_groups_172 : decode cX9_groups 172 = .ok (.iaload, 1) := by decide +kernel
theorem dX9_groups_173 : decode cX9_groups 173 = .ok (.if_icmp .le 13, 3) := by decide +kernel
theorem dX9_groups_176 : decode cX9_groups 176 = .ok (.aload_n 0, 1) := by decide +kernel
theorem dX9_groups_177 : decode cX9_groups 177 = .ok (.getfield 51, 3) := by decide +kernel
theorem dX9_groups_180 : decode cX9_groups 180 = .ok (.iload_n 2, 1) := by decide +kernel
theorem dX9_groups_181 : decode cX9_groups 181 = .ok (.iload 5, 2) := by decide +kernel
theorem dX9_groups_183 : decode cX9_groups 183 = .ok (.iconst 1, 1) := by decide +kernel
theorem dX9_groups_184 : decode cX9_groups 184 = .ok (.iadd, 1) := by decide +kernel
theorem dX9_groups_185 : decode cX9_groups 185 = .ok (.iastore, 1) := by decide +kernel
theorem dX9_groups_186 : decode cX9_groups 186 = .ok (.iinc 4 1, 3) := by decide +kernel
theorem dX9_groups_189 : decode cX9_groups 189 = .ok (.goto (-81), 3) := by decide +kernel
theorem dX9_groups_192 : decode cX9_groups 192 = .ok (.iinc 2 1, 3) := by decide +kernel
theorem dX9_groups_195 : decode cX9_groups 195 = .ok (.goto (-142), 3) := by decide +kernel
theorem dX9_groups_198 : decode cX9_groups 198 = .ok (.aload_n 0, 1) := by decide +kernel
theorem dX9_groups_199 : decode cX9_groups 199 = .ok (.iconst 0, 1) := by decide +kernel
theorem dX9_groups_200 : decode cX9_groups 200 = .ok (.putfield 181, 3) := by decide +kernel
theorem dX9_groups_203 : decode cX9_groups 203 = .ok (.iload_n 1, 1) := by decide +kernel
theorem dX9_groups_204 : decode cX9_groups 204 = .ok (.istore_n 2, 1) := by decide +kernel
theorem dX9_groups_205 : decode cX9_groups 205 = .ok (.iload_n 2, 1) := by decide +kernel
theorem dX9_groups_206 : decode cX9_groups 206 = .ok (.ifCond .eq 97, 3) := by decide +kernel
theorem dX9_groups_209 : decode cX9_groups 209 = .ok (.iload_n 2, 1) := by decide +kernel
theorem dX9_groups_210 : decode cX9_groups 210 = .ok (.invokestatic 178, 3) := by decide +kernel
theorem dX9_groups_213 : decode cX9_groups 213 = .ok (.istore_n 3, 1) := by decide +kernel
theorem dX9_groups_214 : decode cX9_groups 214 = .ok (.iconst 1, 1) := by decide +kernel
theorem dX9_groups_215 : decode cX9_groups 215 = .ok (.iload_n 3, 1) := by decide +kernel
theorem dX9_groups_216 : decode cX9_groups 216 = .ok (.ishl, 1) := by decide +kernel
theorem dX9_groups_217 : decode cX9_groups 217 = .ok (.istore 4, 2) := by decide +kernel
theorem dX9_groups_219 : decode cX9_groups 219 = .ok (.iload 4, 2) := by decide +kernel
theorem dX9_groups_221 : decode cX9_groups 221 = .ok (.iload_n 2, 1) := by decide +kernel
theorem dX9_groups_222 : decode cX9_groups 222 = .ok (.iconst (-1), 1) := by decide +kernel
theorem dX9_groups_223 : decode cX9_groups 223 = .ok (.ixor, 1) := by decide +kernel
theorem dX9_groups_224 : decode cX9_groups 224 = .ok (.iand, 1) := by decide +kernel
theorem dX9_groups_225 : decode cX9_groups 225 = .ok (.ifCond .ne 44, 3) := by decide +kernel
theorem dX9_groups_228 : decode cX9_groups 228 = .ok (.iload 4, 2) := by decide +kernel
theorem dX9_groups_230 : decode cX9_groups 230 = .ok (.iload_n 3, 1) := by decide +kernel
theorem dX9_groups_231 : decode cX9_groups 231 = .ok (.ishr, 1) := by decide +kernel
theorem dX9_groups_232 : decode cX9_groups 232 = .ok (.iconst 1, 1) := by decide +kernel
theorem dX9_groups_233 : decode cX9_groups 233 = .ok (.iand, 1) := by decide +kernel
theorem dX9_groups_234 : decode cX9_groups 234 = .ok (.ifCond .eq 35, 3) := by decide +kernel
theorem dX9_groups_237 : decode cX9_groups 237 = .ok (.aload_n 0, 1) := by decide +kernel
theorem dX9_groups_238 : decode cX9_groups 238 = .ok (.getfield 48, 3) := by decide +kernel
theorem dX9_groups_241 : decode cX9_groups 241 = .ok (.iload 4, 2) := by decide +kernel
theorem dX9_groups_243 : decode cX9_groups 243 = .ok (.iaload, 1) := by decide +kernel
theorem dX9_groups_244 : decode cX9_groups 244 = .ok (.ifCond .ne 25, 3) := by decide +kernel
theorem dX9_groups_247 : decode cX9_groups 247 = .ok (.aload_n 0, 1) := by decide +kernel
theorem dX9_groups_248 : decode cX9_groups 248 = .ok (.getfield 51, 3) := by decide +kernel
theorem dX9_groups_251 : decode cX9_groups 251 = .ok (.iload_n 2, 1) := by decide +kernel
theorem dX9_groups_252 : decode cX9_groups 252 = .ok (.iload 4, 2) := by decide +kernel
theorem dX9_groups_254 : decode cX9_groups 254 = .ok (.iconst (-1), 1) := by decide +kernel
theorem dX9_groups_255 : decode cX9_groups 255 = .ok (.ixor, 1) := by decide +kernel
theorem dX9_groups_256 : decode cX9_groups 256 = .ok (.iand, 1) := by decide +kernel
theorem dX9_groups_257 : decode cX9_groups 257 = .ok (.iaload, 1) := by decide +kernel
theorem dX9_groups_258 : decode cX9_groups 258 = .ok (.aload_n 0, 1) := by decide +kernel
theorem dX9_groups_259 : decode cX9_groups 259 = .ok (.getfield 51, 3) := by decide +kernel
theorem dX9_groups_262 : decode cX9_groups 262 = .ok (.iload_n 2, 1) := by decide +kernel
theorem dX9_groups_263 : decode cX9_groups 263 = .ok (.iaload, 1) := by decide +kernel
theorem dX9_groups_264 : decode cX9_groups 264 = .ok (.iconst 1, 1) := by decide +kernel
theorem dX9_groups_265 : decode cX9_groups 265 = .ok (.isub, 1) := by decide +kernel
theorem dX9_groups_266 : decode cX9_groups 266 = .ok (.if_icmp .eq 9, 3) := by decide +kernel
theorem dX9_groups_269 : decode cX9_groups 269 = .ok (.iinc 4 1, 3) := by decide +kernel
theorem dX9_groups_272 : decode cX9_groups 272 = .ok (.goto (-53), 3) := by decide +kernel
theorem dX9_groups_275 : decode cX9_groups 275 = .ok (.aload_n 0, 1) := by decide +kernel
theorem dX9_groups_276 : decode cX9_groups 276 = .ok (.getfield 54, 3) := by decide +kernel
theorem dX9_groups_279 : decode cX9_groups 279 = .ok (.aload_n 0, 1) := by decide +kernel
theorem dX9_groups_280 : decode cX9_groups 280 = .ok (.dup, 1) := by decide +kernel
theorem dX9_groups_281 : decode cX9_groups 281 = .ok (.getfield 181, 3) := by decide +kernel
theorem dX9_groups_284 : decode cX9_groups 284 = .ok (.dup_x1, 1) := by decide +kernel
theorem dX9_groups_285 : decode cX9_groups 285 = .ok (.iconst 1, 1) := by decide +kernel
theorem dX9_groups_286 : decode cX9_groups 286 = .ok (.iadd, 1) := by decide +kernel
theorem dX9_groups_287 : decode cX9_groups 287 = .ok (.putfield 181, 3) := by decide +kernel
theorem dX9_groups_290 : decode cX9_groups 290 = .ok (.iload 4, 2) := by decide +kernel
theorem dX9_groups_292 : decode cX9_groups 292 = .ok (.iastore, 1) := by decide +kernel
theorem dX9_groups_293 : decode cX9_groups 293 = .ok (.iload_n 2, 1) := by decide +kernel
theorem dX9_groups_294 : decode cX9_groups 294 = .ok (.iload 4, 2) := by decide +kernel
theorem dX9_groups_296 : decode cX9_groups 296 = .ok (.iconst (-1), 1) := by decide +kernel
theorem dX9_groups_297 : decode cX9_groups 297 = .ok (.ixor, 1) := by decide +kernel
theorem dX9_groups_298 : decode cX9_groups 298 = .ok (.iand, 1) := by decide +kernel
theorem dX9_groups_299 : decode cX9_groups 299 = .ok (.istore_n 2, 1) := by decide +kernel
theorem dX9_groups_300 : decode cX9_groups 300 = .ok (.goto (-95), 3) := by decide +kernel
theorem dX9_groups_303 : decode cX9_groups 303 = .ok (.return_, 1) := by decide +kernel
def fX9_groups_L8 (k37 : Int32 → Option (Int32 × (Nat → Int32) × (Nat → Int32) × (Nat → Int32) × (Nat → Int32))) (u_people : Int32) (u_balance : (Nat → Int32)) : Nat → Int32 → Int32 → Option (Int32 × (Nat → Int32) × (Nat → Int32) × (Nat → Int32) × (Nat → Int32))
  | 0, _, _ => none
  | n + 1, x1, x2 => if u_people ≤ x2 then (k37 x1) else (gA x2 6 (if (u_balance (x2).toNatClampNeg) = 0 then (fX9_groups_L8 k37 u_people u_balance n x1 (x2 + 1)) else (fX9_groups_L8 k37 u_people u_balance n (x1 ||| (1 <<< (x2 &&& 31))) (x2 + 1))))
def fX9_groups_L108 (k192 : (Nat → Int32) → Option (Int32 × (Nat → Int32) × (Nat → Int32) × (Nat → Int32) × (Nat → Int32))) (u_sum : (Nat → Int32)) (x2 : Int32) (x3 : Int32) : Nat → Int32 → (Nat → Int32) → Option (Int32 × (Nat → Int32) × (Nat → Int32) × (Nat → Int32) × (Nat → Int32))
  | 0, _, _ => none
  | n + 1, x4, u_parts => if x2 < x4 then (k192 u_parts) else (if (x4 &&& (x2 ^^^ (-1))) = 0 then (if ((x4 >>> (x3 &&& 31)) &&& 1) = 0 then (fX9_groups_L108 k192 u_sum x2 x3 n (x4 + 1) u_parts) else (gA x4 64 (if (u_sum (x4).toNatClampNeg) = 0 then (gA (x2 &&& (x4 ^^^ (-1))) 64 (if (u_parts (x2 &&& (x4 ^^^ (-1))).toNatClampNeg) < 0 then (fX9_groups_L108 k192 u_sum x2 x3 n (x4 + 1) u_parts) else (gA x2 64 (if ((u_parts (x2 &&& (x4 ^^^ (-1))).toNatClampNeg) + 1) ≤ (u_parts (x2).toNatClampNeg) then (fX9_groups_L108 k192 u_sum x2 x3 n (x4 + 1) u_parts) else (gA x2 64 (fX9_groups_L108 k192 u_sum x2 x3 n (x4 + 1) (upd u_parts (x2 : Int32).toNatClampNeg ((u_parts (x2 &&& (x4 ^^^ (-1))).toNatClampNeg) + 1)))))))) else (fX9_groups_L108 k192 u_sum x2 x3 n (x4 + 1) u_parts)))) else (fX9_groups_L108 k192 u_sum x2 x3 n (x4 + 1) u_parts))
def fX9_groups_L53 (k198 : (Nat → Int32) → (Nat → Int32) → Option (Int32 × (Nat → Int32) × (Nat → Int32) × (Nat → Int32) × (Nat → Int32))) (u_balance : (Nat → Int32)) (x1 : Int32) : Nat → Int32 → (Nat → Int32) → (Nat → Int32) → Option (Int32 × (Nat → Int32) × (Nat → Int32) × (Nat → Int32) × (Nat → Int32))
  | 0, _, _, _ => none
  | n + 1, x2, u_sum, u_parts => if 64 ≤ x2 then (k198 u_sum u_parts) else ((fX9_lowest x2).bind (fun z9 => gA (x2 &&& (x2 - 1)) 64 (gA z9 6 (gA x2 64 (gA x2 64 (if (x2 &&& (x1 ^^^ (-1))) = 0 then (fX9_groups_L108 (fun (u_parts_25 : (Nat → Int32)) => fX9_groups_L53 k198 u_balance x1 n (x2 + 1) (upd u_sum (x2 : Int32).toNatClampNeg ((u_sum (x2 &&& (x2 - 1)).toNatClampNeg) + (u_balance (z9).toNatClampNeg))) u_parts_25) (upd u_sum (x2 : Int32).toNatClampNeg ((u_sum (x2 &&& (x2 - 1)).toNatClampNeg) + (u_balance (z9).toNatClampNeg))) x2 z9 400 1 (upd u_parts (x2 : Int32).toNatClampNeg (-1))) else (fX9_groups_L53 k198 u_balance x1 n (x2 + 1) (upd u_sum (x2 : Int32).toNatClampNeg ((u_sum (x2 &&& (x2 - 1)).toNatClampNeg) + (u_balance (z9).toNatClampNeg))) (upd u_parts (x2 : Int32).toNatClampNeg (-1)))))))))
def fX9_groups_L219 (k275 : Int32 → Option (Int32 × (Nat → Int32) × (Nat → Int32) × (Nat → Int32) × (Nat → Int32))) (u_sum : (Nat → Int32)) (u_parts : (Nat → Int32)) (x2 : Int32) (x3 : Int32) : Nat → Int32 → Option (Int32 × (Nat → Int32) × (Nat → Int32) × (Nat → Int32) × (Nat → Int32))
  | 0, _ => none
  | n + 1, x4 => if (x4 &&& (x2 ^^^ (-1))) = 0 then (if ((x4 >>> (x3 &&& 31)) &&& 1) = 0 then (fX9_groups_L219 k275 u_sum u_parts x2 x3 n (x4 + 1)) else (gA x4 64 (if (u_sum (x4).toNatClampNeg) = 0 then (gA (x2 &&& (x4 ^^^ (-1))) 64 (gA x2 64 (if (u_parts (x2 &&& (x4 ^^^ (-1))).toNatClampNeg) = ((u_parts (x2).toNatClampNeg) - 1) then (k275 x4) else (fX9_groups_L219 k275 u_sum u_parts x2 x3 n (x4 + 1))))) else (fX9_groups_L219 k275 u_sum u_parts x2 x3 n (x4 + 1))))) else (fX9_groups_L219 k275 u_sum u_parts x2 x3 n (x4 + 1))
def fX9_groups_L205 (u_balance : (Nat → Int32)) (u_sum : (Nat → Int32)) (u_parts : (Nat → Int32)) : Nat → Int32 → Int32 → (Nat → Int32) → Option (Int32 × (Nat → Int32) × (Nat → Int32) × (Nat → Int32) × (Nat → Int32))
  | 0, _, _, _ => none
  | n + 1, x2, u_groups, u_group => if x2 = 0 then (some (u_groups, u_balance, u_sum, u_parts, u_group)) else ((fX9_lowest x2).bind (fun z28 => fX9_groups_L219 (fun (x4_36 : Int32) => gA u_groups 3 (fX9_groups_L205 u_balance u_sum u_parts n (x2 &&& (x4_36 ^^^ (-1))) (u_groups + 1) (upd u_group (u_groups : Int32).toNatClampNeg x4_36))) u_sum u_parts x2 z28 400 (1 <<< (z28 &&& 31))))
def fX9_groups (u_people : Int32) (u_owes : (Nat → Int32)) (u_balance : (Nat → Int32)) (u_sum : (Nat → Int32)) (u_parts : (Nat → Int32)) (u_group : (Nat → Int32)) : Option (Int32 × (Nat → Int32) × (Nat → Int32) × (Nat → Int32) × (Nat → Int32)) := (fX9_balances u_people u_owes u_balance).bind (fun z1 => fX9_groups_L8 (fun (x1_5 : Int32) => gA 0 64 (gA 0 64 (fX9_groups_L53 (fun (u_sum_26 : (Nat → Int32)) (u_parts_26 : (Nat → Int32)) => fX9_groups_L205 z1 u_sum_26 u_parts_26 400 x1_5 0 u_group) z1 x1_5 400 1 (upd u_sum (0 : Int32).toNatClampNeg 0) (upd u_parts (0 : Int32).toNatClampNeg 0)))) u_people z1 400 0 0)
set_option maxRecDepth 20000 in
theorem LX9_groups_8 {p : Program} {l : Launch} {e : Env} {R : Room} {s : State} {m : MethodId} {args : Array Value} {below : List Frame} {meth : Method} {c : Code} {Q : State → Prop} {D : va_G} {C : Nat → ClassId} {A : Nat → Prop} (cx : CX p m c s args RX9 cX9_groups 6 D C A R 2) {q_ q_owes q_denies q_debt q_cut q_sight q_event q_book q_text q_path q_ring q_balance q_left q_sum q_parts q_group q_payment q_then q_image q_tapeSort q_tapeSize q_items : Nat} {u_people : Int32} {u_debts : Int32} {u_cuts : Int32} {u_seen : Int32} {u_events : Int32} {u_inBook : Int32} {u_texted : Int32} {u_rule : Int32} {u_rings : Int32} {u_size : Int32} {u_least : Int32} {u_worth : Int64} {u_groups : Int32} {u_paid : Int32} {u_imaged : Int32} {u_owes : (Nat → Int32)} {u_balance : (Nat → Int32)} {u_sum : (Nat → Int32)} {u_parts : (Nat → Int32)} {u_group : (Nat → Int32)} {z : (Int32 × (Nat → Int32) × (Nat → Int32) × (Nat → Int32) × (Nat → Int32))} (hret : RT p l e R s m args below meth c Q D A cX9_groups none [(q_, .inr (9, [.int u_people, .ref q_owes, .ref q_denies, .int u_debts, .ref q_debt, .int u_cuts, .ref q_cut, .int u_seen, .ref q_sight, .int u_events, .ref q_event, .int u_inBook, .ref q_book, .int u_texted, .ref q_text, .ref q_path, .int u_rule, .int u_rings, .int u_size, .int u_least, .long u_worth, .ref q_ring, .ref q_balance, .ref q_left, .ref q_sum, .ref q_parts, .int z.1, .ref q_group, .int u_paid, .ref q_payment, .ref q_then, .int u_imaged, .ref q_image, .ref q_tapeSort, .ref q_tapeSize, .ref q_items])), (q_owes, .inl (C 0, 36, .inl u_owes)), (q_balance, .inl (C 0, 6, .inl z.2.1)), (q_sum, .inl (C 0, 64, .inl z.2.2.1)), (q_parts, .inl (C 0, 64, .inl z.2.2.2.1)), (q_group, .inl (C 0, 3, .inl z.2.2.2.2))] none) {k37 : Int32 → Option (Int32 × (Nat → Int32) × (Nat → Int32) × (Nat → Int32) × (Nat → Int32))} (hk37 : ∀ (x1 : Int32) (H : Heap) (locs : List Loc) (ls : Array Slot), k37 x1 = some z → HW D A s.heap H locs [(q_, .inr (9, [.int u_people, .ref q_owes, .ref q_denies, .int u_debts, .ref q_debt, .int u_cuts, .ref q_cut, .int u_seen, .ref q_sight, .int u_events, .ref q_event, .int u_inBook, .ref q_book, .int u_texted, .ref q_text, .ref q_path, .int u_rule, .int u_rings, .int u_size, .int u_least, .long u_worth, .ref q_ring, .ref q_balance, .ref q_left, .ref q_sum, .ref q_parts, .int u_groups, .ref q_group, .int u_paid, .ref q_payment, .ref q_then, .int u_imaged, .ref q_image, .ref q_tapeSort, .ref q_tapeSize, .ref q_items])), (q_owes, .inl (C 0, 36, .inl u_owes)), (q_balance, .inl (C 0, 6, .inl u_balance)), (q_sum, .inl (C 0, 64, .inl u_sum)), (q_parts, .inl (C 0, 64, .inl u_parts)), (q_group, .inl (C 0, 3, .inl u_group))] → lv_has ls 6 [(0, .ref q_), (1, .int x1)] → W p l e R s m args below meth c H locs 0 0 Q (F0 m 37 ls [])) :
    ∀ (n : Nat) (x1 : Int32) (x2 : Int32) (H : Heap) (locs : List Loc) (ls : Array Slot), fX9_groups_L8 k37 u_people u_balance n x1 x2 = some z → HW D A s.heap H locs [(q_, .inr (9, [.int u_people, .ref q_owes, .ref q_denies, .int u_debts, .ref q_debt, .int u_cuts, .ref q_cut, .int u_seen, .ref q_sight, .int u_events, .ref q_event, .int u_inBook, .ref q_book, .int u_texted, .ref q_text, .ref q_path, .int u_rule, .int u_rings, .int u_size, .int u_least, .long u_worth, .ref q_ring, .ref q_balance, .ref q_left, .ref q_sum, .ref q_parts, .int u_groups, .ref q_group, .int u_paid, .ref q_payment, .ref q_then, .int u_imaged, .ref q_image, .ref q_tapeSort, .ref q_tapeSize, .ref q_items])), (q_owes, .inl (C 0, 36, .inl u_owes)), (q_balance, .inl (C 0, 6, .inl u_balance)), (q_sum, .inl (C 0, 64, .inl u_sum)), (q_parts, .inl (C 0, 64, .inl u_parts)), (q_group, .inl (C 0, 3, .inl u_group))] → lv_has ls 6 [(0, .ref q_), (1, .int x1), (2, .int x2)] → W p l e R s m args below meth c H locs 0 0 Q (F0 m 8 ls []) := by
  have hx := cx.1
  have hb := cx.2.1
  intro n
  induction n with
  | zero => intro x1 x2 H locs ls hF; cases hF
  | succ n ih =>
    intro x1 x2 H locs ls hF hw hl
    rw [fX9_groups_L8.eq_2] at hF
    refine lv_iload_n hx hb dX9_groups_8 rfl (lv_at hl 2 rfl) ?_
    refine lv_aload_n hx hb dX9_groups_9 rfl (lv_at hl 0 rfl) ?_
    refine r_get (ci := 9) (v := .int u_people) cx hw iX9 0 0 rfl rfl (by decide) wf_X9_76 rfl dX9_groups_10 ?_
    refine lv_icmp_ge (tgt := 37) hx hb dX9_groups_13 (by decide) (fun c2 => ?_) (fun c2 => ?_)
    · replace hF := oi_t c2 hF
      exact hk37 x1 H locs ls hF hw (lv_sub hl [0, 1] rfl)
    · replace hF := oi_f c2 hF
      refine lv_aload_n hx hb dX9_groups_16 rfl (lv_at hl 0 rfl) ?_
      refine r_get (ci := 9) (v := .ref q_balance) cx hw iX9 0 22 rfl rfl (by decide) wf_X9_42 rfl dX9_groups_17 ?_
      refine lv_iload_n hx hb dX9_groups_20 rfl (lv_at hl 2 rfl) ?_
      obtain ⟨g3, hF⟩ := gA_s hF
      refine r_iald cx hw 2 rfl g3 dX9_groups_21 ?_
      refine lv_if_eq (tgt := 31) hx hb dX9_groups_22 (by decide) (fun c4 => ?_) (fun c4 => ?_)
      · replace hF := oi_t c4 hF
        refine lv_iinc (v := x2 + 1) (lv' := [(2, .int (x2 + 1)), (0, .ref q_), (1, .int x1)]) hx hb dX9_groups_31 hl (k := 2) rfl rfl (by decide) rfl (fun ls hl => ?_)
        refine lv_goto (tgt := 8) hx hb dX9_groups_34 (by decide) ?_
        exact ih x1 (x2 + 1) H locs ls hF hw (lv_sub hl [1, 2, 0] rfl)
      · replace hF := oi_f c4 hF
        refine lv_iload_n hx hb dX9_groups_25 rfl (lv_at hl 1 rfl) ?_
        refine lv_iconst (v := 1) hx hb dX9_groups_26 (by decide) ?_
        refine lv_iload_n hx hb dX9_groups_27 rfl (lv_at hl 2 rfl) ?_
        refine lv_ishl hx hb dX9_groups_28 ?_
        refine lv_ior hx hb dX9_groups_29 ?_
        refine lv_istore_n (lv' := [(1, .int (x1 ||| (1 <<< (x2 &&& 31)))), (0, .ref q_), (2, .int x2)]) hx hb dX9_groups_30 rfl hl (by decide) rfl (fun ls hl => ?_)
        refine lv_iinc (v := x2 + 1) (lv' := [(2, .int (x2 + 1)), (1, .int (x1 ||| (1 <<< (x2 &&& 31)))), (0, .ref q_)]) hx hb dX9_groups_31 hl (k := 2) rfl rfl (by decide) rfl (fun ls hl => ?_)
        refine lv_goto (tgt := 8) hx hb dX9_groups_34 (by decide) ?_
        exact ih (x1 ||| (1 <<< (x2 &&& 31))) (x2 + 1) H locs ls hF hw (lv_sub hl [2, 1, 0] rfl)
set_option maxRecDepth 20000 in
theorem LX9_groups_108 {p : Program} {l : Launch} {e : Env} {R : Room} {s : State} {m : MethodId} {args : Array Value} {below : List Frame} {meth : Method} {c : Code} {Q : State → Prop} {D : va_G} {C : Nat → ClassId} {A : Nat → Prop} (cx : CX p m c s args RX9 cX9_groups 6 D C A R 2) {q_ q_owes q_denies q_debt q_cut q_sight q_event q_book q_text q_path q_ring q_balance q_left q_sum q_parts q_group q_payment q_then q_image q_tapeSort q_tapeSize q_items : Nat} {u_people : Int32} {u_debts : Int32} {u_cuts : Int32} {u_seen : Int32} {u_events : Int32} {u_inBook : Int32} {u_texted : Int32} {u_rule : Int32} {u_rings : Int32} {u_size : Int32} {u_least : Int32} {u_worth : Int64} {u_groups : Int32} {u_paid : Int32} {u_imaged : Int32} {u_owes : (Nat → Int32)} {u_balance : (Nat → Int32)} {u_sum : (Nat → Int32)} {u_group : (Nat → Int32)} {x1 : Int32} {x2 : Int32} {x3 : Int32} {z : (Int32 × (Nat → Int32) × (Nat → Int32) × (Nat → Int32) × (Nat → Int32))} (hret : RT p l e R s m args below meth c Q D A cX9_groups none [(q_, .inr (9, [.int u_people, .ref q_owes, .ref q_denies, .int u_debts, .ref q_debt, .int u_cuts, .ref q_cut, .int u_seen, .ref q_sight, .int u_events, .ref q_event, .int u_inBook, .ref q_book, .int u_texted, .ref q_text, .ref q_path, .int u_rule, .int u_rings, .int u_size, .int u_least, .long u_worth, .ref q_ring, .ref q_balance, .ref q_left, .ref q_sum, .ref q_parts, .int z.1, .ref q_group, .int u_paid, .ref q_payment, .ref q_then, .int u_imaged, .ref q_image, .ref q_tapeSort, .ref q_tapeSize, .ref q_items])), (q_owes, .inl (C 0, 36, .inl u_owes)), (q_balance, .inl (C 0, 6, .inl z.2.1)), (q_sum, .inl (C 0, 64, .inl z.2.2.1)), (q_parts, .inl (C 0, 64, .inl z.2.2.2.1)), (q_group, .inl (C 0, 3, .inl z.2.2.2.2))] none) {k192 : (Nat → Int32) → Option (Int32 × (Nat → Int32) × (Nat → Int32) × (Nat → Int32) × (Nat → Int32))} (hk192 : ∀ (u_parts : (Nat → Int32)) (H : Heap) (locs : List Loc) (ls : Array Slot), k192 u_parts = some z → HW D A s.heap H locs [(q_, .inr (9, [.int u_people, .ref q_owes, .ref q_denies, .int u_debts, .ref q_debt, .int u_cuts, .ref q_cut, .int u_seen, .ref q_sight, .int u_events, .ref q_event, .int u_inBook, .ref q_book, .int u_texted, .ref q_text, .ref q_path, .int u_rule, .int u_rings, .int u_size, .int u_least, .long u_worth, .ref q_ring, .ref q_balance, .ref q_left, .ref q_sum, .ref q_parts, .int u_groups, .ref q_group, .int u_paid, .ref q_payment, .ref q_then, .int u_imaged, .ref q_image, .ref q_tapeSort, .ref q_tapeSize, .ref q_items])), (q_owes, .inl (C 0, 36, .inl u_owes)), (q_balance, .inl (C 0, 6, .inl u_balance)), (q_sum, .inl (C 0, 64, .inl u_sum)), (q_parts, .inl (C 0, 64, .inl u_parts)), (q_group, .inl (C 0, 3, .inl u_group))] → lv_has ls 6 [(0, .ref q_), (1, .int x1), (2, .int x2)] → W p l e R s m args below meth c H locs 0 0 Q (F0 m 192 ls [])) :
    ∀ (n : Nat) (x4 : Int32) (u_parts : (Nat → Int32)) (H : Heap) (locs : List Loc) (ls : Array Slot), fX9_groups_L108 k192 u_sum x2 x3 n x4 u_parts = some z → HW D A s.heap H locs [(q_, .inr (9, [.int u_people, .ref q_owes, .ref q_denies, .int u_debts, .ref q_debt, .int u_cuts, .ref q_cut, .int u_seen, .ref q_sight, .int u_events, .ref q_event, .int u_inBook, .ref q_book, .int u_texted, .ref q_text, .ref q_path, .int u_rule, .int u_rings, .int u_size, .int u_least, .long u_worth, .ref q_ring, .ref q_balance, .ref q_left, .ref q_sum, .ref q_parts, .int u_groups, .ref q_group, .int u_paid, .ref q_payment, .ref q_then, .int u_imaged, .ref q_image, .ref q_tapeSort, .ref q_tapeSize, .ref q_items])), (q_owes, .inl (C 0, 36, .inl u_owes)), (q_balance, .inl (C 0, 6, .inl u_balance)), (q_sum, .inl (C 0, 64, .inl u_sum)), (q_parts, .inl (C 0, 64, .inl u_parts)), (q_group, .inl (C 0, 3, .inl u_group))] → lv_has ls 6 [(0, .ref q_), (1, .int x1), (2, .int x2), (3, .int x3), (4, .int x4)] → W p l e R s m args below meth c H locs 0 0 Q (F0 m 108 ls []) := by
  have hx := cx.1
  have hb := cx.2.1
  intro n
  induction n with
  | zero => intro x4 u_parts H locs ls hF; cases hF
  | succ n ih =>
    intro x4 u_parts H locs ls hF hw hl
    rw [fX9_groups_L108.eq_2] at hF
    refine lv_iload hx hb dX9_groups_108 (lv_at hl 4 rfl) ?_
    refine lv_iload_n hx hb dX9_groups_110 rfl (lv_at hl 2 rfl) ?_
    refine lv_icmp_gt (tgt := 192) hx hb dX9_groups_111 (by decide) (fun c15 => ?_) (fun c15 => ?_)
    · replace hF := oi_t c15 hF
      exact hk192 u_parts H locs ls hF hw (lv_sub hl [0, 1, 2] rfl)
    · replace hF := oi_f c15 hF
      refine lv_iload hx hb dX9_groups_114 (lv_at hl 4 rfl) ?_
      refine lv_iload_n hx hb dX9_groups_116 rfl (lv_at hl 2 rfl) ?_
      refine lv_iconst (v := (-1)) hx hb dX9_groups_117 (by decide) ?_
      refine lv_ixor hx hb dX9_groups_118 ?_
      refine lv_iand hx hb dX9_groups_119 ?_
      refine lv_if_ne (tgt := 186) hx hb dX9_groups_120 (by decide) (fun c16 => ?_) (fun c16 => ?_)
      · replace hF := oi_f c16 hF
        refine lv_iinc (v := x4 + 1) (lv' := [(4, .int (x4 + 1)), (0, .ref q_), (1, .int x1), (2, .int x2), (3, .int x3)]) hx hb dX9_groups_186 hl (k := 4) rfl rfl (by decide) rfl (fun ls hl => ?_)
        refine lv_goto (tgt := 108) hx hb dX9_groups_189 (by decide) ?_
        exact ih (x4 + 1) u_parts H locs ls hF hw (lv_sub hl [1, 2, 3, 4, 0] rfl)
      · replace hF := oi_t c16 hF
        refine lv_iload hx hb dX9_groups_123 (lv_at hl 4 rfl) ?_
        refine lv_iload_n hx hb dX9_groups_125 rfl (lv_at hl 3 rfl) ?_
        refine lv_ishr hx hb dX9_groups_126 ?_
        refine lv_iconst (v := 1) hx hb dX9_groups_127 (by decide) ?_
        refine lv_iand hx hb dX9_groups_128 ?_
        refine lv_if_eq (tgt := 186) hx hb dX9_groups_129 (by decide) (fun c17 => ?_) (fun c17 => ?_)
        · replace hF := oi_t c17 hF
          refine lv_iinc (v := x4 + 1) (lv' := [(4, .int (x4 + 1)), (0, .ref q_), (1, .int x1), (2, .int x2), (3, .int x3)]) hx hb dX9_groups_186 hl (k := 4) rfl rfl (by decide) rfl (fun ls hl => ?_)
          refine lv_goto (tgt := 108) hx hb dX9_groups_189 (by decide) ?_
          exact ih (x4 + 1) u_parts H locs ls hF hw (lv_sub hl [1, 2, 3, 4, 0] rfl)
        · replace hF := oi_f c17 hF
          refine lv_aload_n hx hb dX9_groups_132 rfl (lv_at hl 0 rfl) ?_
          refine r_get (ci := 9) (v := .ref q_sum) cx hw iX9 0 24 rfl rfl (by decide) wf_X9_48 rfl dX9_groups_133 ?_
          refine lv_iload hx hb dX9_groups_136 (lv_at hl 4 rfl) ?_
          obtain ⟨g18, hF⟩ := gA_s hF
          refine r_iald cx hw 3 rfl g18 dX9_groups_138 ?_
          refine lv_if_eq (tgt := 145) hx hb dX9_groups_139 (by decide) (fun c19 => ?_) (fun c19 => ?_)
          · replace hF := oi_t c19 hF
            refine lv_aload_n hx hb dX9_groups_145 rfl (lv_at hl 0 rfl) ?_
            refine r_get (ci := 9) (v := .ref q_parts) cx hw iX9 0 25 rfl rfl (by decide) wf_X9_51 rfl dX9_groups_146 ?_
            refine lv_iload_n hx hb dX9_groups_149 rfl (lv_at hl 2 rfl) ?_
            refine lv_iload hx hb dX9_groups_150 (lv_at hl 4 rfl) ?_
            refine lv_iconst (v := (-1)) hx hb dX9_groups_152 (by decide) ?_
            refine lv_ixor hx hb dX9_groups_153 ?_
            refine lv_iand hx hb dX9_groups_154 ?_
            obtain ⟨g20, hF⟩ := gA_s hF
            refine r_iald cx hw 4 rfl g20 dX9_groups_155 ?_
            refine lv_istore (lv' := [(5, .int (u_parts (x2 &&& (x4 ^^^ (-1))).toNatClampNeg)), (0, .ref q_), (1, .int x1), (2, .int x2), (3, .int x3), (4, .int x4)]) hx hb dX9_groups_156 hl (by decide) rfl (fun ls hl => ?_)
            refine lv_iload hx hb dX9_groups_158 (lv_at hl 0 rfl) ?_
            refine lv_if_lt (tgt := 186) hx hb dX9_groups_160 (by decide) (fun c21 => ?_) (fun c21 => ?_)
            · replace hF := oi_t c21 hF
              refine lv_iinc (v := x4 + 1) (lv' := [(4, .int (x4 + 1)), (5, .int (u_parts (x2 &&& (x4 ^^^ (-1))).toNatClampNeg)), (0, .ref q_), (1, .int x1), (2, .int x2), (3, .int x3)]) hx hb dX9_groups_186 hl (k := 5) rfl rfl (by decide) rfl (fun ls hl => ?_)
              refine lv_goto (tgt := 108) hx hb dX9_groups_189 (by decide) ?_
              exact ih (x4 + 1) u_parts H locs ls hF hw (lv_sub hl [2, 3, 4, 5, 0] rfl)
            · replace hF := oi_f c21 hF
              refine lv_iload hx hb dX9_groups_163 (lv_at hl 0 rfl) ?_
              refine lv_iconst (v := 1) hx hb dX9_groups_165 (by decide) ?_
              refine lv_iadd hx hb dX9_groups_166 ?_
              refine lv_aload_n hx hb dX9_groups_167 rfl (lv_at hl 1 rfl) ?_
              refine r_get (ci := 9) (v := .ref q_parts) cx hw iX9 0 25 rfl rfl (by decide) wf_X9_51 rfl dX9_groups_168 ?_
              refine lv_iload_n hx hb dX9_groups_171 rfl (lv_at hl 3 rfl) ?_
              obtain ⟨g22, hF⟩ := gA_s hF
              refine r_iald cx hw 4 rfl g22 dX9_groups_172 ?_
              refine lv_icmp_le (tgt := 186) hx hb dX9_groups_173 (by decide) (fun c23 => ?_) (fun c23 => ?_)
              · replace hF := oi_t c23 hF
                refine lv_iinc (v := x4 + 1) (lv' := [(4, .int (x4 + 1)), (5, .int (u_parts (x2 &&& (x4 ^^^ (-1))).toNatClampNeg)), (0, .ref q_), (1, .int x1), (2, .int x2), (3, .int x3)]) hx hb dX9_groups_186 hl (k := 5) rfl rfl (by decide) rfl (fun ls hl => ?_)
                refine lv_goto (tgt := 108) hx hb dX9_groups_189 (by decide) ?_
                exact ih (x4 + 1) u_parts H locs ls hF hw (lv_sub hl [2, 3, 4, 5, 0] rfl)
              · replace hF := oi_f c23 hF
                refine lv_aload_n hx hb dX9_groups_176 rfl (lv_at hl 1 rfl) ?_
                refine r_get (ci := 9) (v := .ref q_parts) cx hw iX9 0 25 rfl rfl (by decide) wf_X9_51 rfl dX9_groups_177 ?_
                refine lv_iload_n hx hb dX9_groups_180 rfl (lv_at hl 3 rfl) ?_
                refine lv_iload hx hb dX9_groups_181 (lv_at hl 0 rfl) ?_
                refine lv_iconst (v := 1) hx hb dX9_groups_183 (by decide) ?_
                refine lv_iadd hx hb dX9_groups_184 ?_
                obtain ⟨g24, hF⟩ := gA_s hF
                refine r_iast (w2 := [(q_, .inr (9, [.int u_people, .ref q_owes, .ref q_denies, .int u_debts, .ref q_debt, .int u_cuts, .ref q_cut, .int u_seen, .ref q_sight, .int u_events, .ref q_event, .int u_inBook, .ref q_book, .int u_texted, .ref q_text, .ref q_path, .int u_rule, .int u_rings, .int u_size, .int u_least, .long u_worth, .ref q_ring, .ref q_balance, .ref q_left, .ref q_sum, .ref q_parts, .int u_groups, .ref q_group, .int u_paid, .ref q_payment, .ref q_then, .int u_imaged, .ref q_image, .ref q_tapeSort, .ref q_tapeSize, .ref q_items])), (q_owes, .inl (C 0, 36, .inl u_owes)), (q_balance, .inl (C 0, 6, .inl u_balance)), (q_sum, .inl (C 0, 64, .inl u_sum)), (q_parts, .inl (C 0, 64, .inl (upd u_parts (x2 : Int32).toNatClampNeg ((u_parts (x2 &&& (x4 ^^^ (-1))).toNatClampNeg) + 1)))), (q_group, .inl (C 0, 3, .inl u_group))]) cx hw 4 rfl g24 dX9_groups_185 rfl (fun H locs hw => ?_)
                refine lv_iinc (v := x4 + 1) (lv' := [(4, .int (x4 + 1)), (5, .int (u_parts (x2 &&& (x4 ^^^ (-1))).toNatClampNeg)), (0, .ref q_), (1, .int x1), (2, .int x2), (3, .int x3)]) hx hb dX9_groups_186 hl (k := 5) rfl rfl (by decide) rfl (fun ls hl => ?_)
                refine lv_goto (tgt := 108) hx hb dX9_groups_189 (by decide) ?_
                exact ih (x4 + 1) (upd u_parts (x2 : Int32).toNatClampNeg ((u_parts (x2 &&& (x4 ^^^ (-1))).toNatClampNeg) + 1)) H locs ls hF hw (lv_sub hl [2, 3, 4, 5, 0] rfl)
          · replace hF := oi_f c19 hF
            refine lv_goto (tgt := 186) hx hb dX9_groups_142 (by decide) ?_
            refine lv_iinc (v := x4 + 1) (lv' := [(4, .int (x4 + 1)), (0, .ref q_), (1, .int x1), (2, .int x2), (3, .int x3)]) hx hb dX9_groups_186 hl (k := 4) rfl rfl (by decide) rfl (fun ls hl => ?_)
            refine lv_goto (tgt := 108) hx hb dX9_groups_189 (by decide) ?_
            exact ih (x4 + 1) u_parts H locs ls hF hw (lv_sub hl [1, 2, 3, 4, 0] rfl)
set_option maxRecDepth 20000 in
theorem LX9_groups_53 {p : Program} {l : Launch} {e : Env} {R : Room} {s : State} {m : MethodId} {args : Array Value} {below : List Frame} {meth : Method} {c : Code} {Q : State → Prop} {D : va_G} {C : Nat → ClassId} {A : Nat → Prop} (cx : CX p m c s args RX9 cX9_groups 6 D C A R 2) {q_ q_owes q_denies q_debt q_cut q_sight q_event q_book q_text q_path q_ring q_balance q_left q_sum q_parts q_group q_payment q_then q_image q_tapeSort q_tapeSize q_items : Nat} {u_people : Int32} {u_debts : Int32} {u_cuts : Int32} {u_seen : Int32} {u_events : Int32} {u_inBook : Int32} {u_texted : Int32} {u_rule : Int32} {u_rings : Int32} {u_size : Int32} {u_least : Int32} {u_worth : Int64} {u_groups : Int32} {u_paid : Int32} {u_imaged : Int32} {u_owes : (Nat → Int32)} {u_balance : (Nat → Int32)} {u_group : (Nat → Int32)} {x1 : Int32} {z : (Int32 × (Nat → Int32) × (Nat → Int32) × (Nat → Int32) × (Nat → Int32))} (hret : RT p l e R s m args below meth c Q D A cX9_groups none [(q_, .inr (9, [.int u_people, .ref q_owes, .ref q_denies, .int u_debts, .ref q_debt, .int u_cuts, .ref q_cut, .int u_seen, .ref q_sight, .int u_events, .ref q_event, .int u_inBook, .ref q_book, .int u_texted, .ref q_text, .ref q_path, .int u_rule, .int u_rings, .int u_size, .int u_least, .long u_worth, .ref q_ring, .ref q_balance, .ref q_left, .ref q_sum, .ref q_parts, .int z.1, .ref q_group, .int u_paid, .ref q_payment, .ref q_then, .int u_imaged, .ref q_image, .ref q_tapeSort, .ref q_tapeSize, .ref q_items])), (q_owes, .inl (C 0, 36, .inl u_owes)), (q_balance, .inl (C 0, 6, .inl z.2.1)), (q_sum, .inl (C 0, 64, .inl z.2.2.1)), (q_parts, .inl (C 0, 64, .inl z.2.2.2.1)), (q_group, .inl (C 0, 3, .inl z.2.2.2.2))] none) {k198 : (Nat → Int32) → (Nat → Int32) → Option (Int32 × (Nat → Int32) × (Nat → Int32) × (Nat → Int32) × (Nat → Int32))} (hk198 : ∀ (u_sum : (Nat → Int32)) (u_parts : (Nat → Int32)) (H : Heap) (locs : List Loc) (ls : Array Slot), k198 u_sum u_parts = some z → HW D A s.heap H locs [(q_, .inr (9, [.int u_people, .ref q_owes, .ref q_denies, .int u_debts, .ref q_debt, .int u_cuts, .ref q_cut, .int u_seen, .ref q_sight, .int u_events, .ref q_event, .int u_inBook, .ref q_book, .int u_texted, .ref q_text, .ref q_path, .int u_rule, .int u_rings, .int u_size, .int u_least, .long u_worth, .ref q_ring, .ref q_balance, .ref q_left, .ref q_sum, .ref q_parts, .int u_groups, .ref q_group, .int u_paid, .ref q_payment, .ref q_then, .int u_imaged, .ref q_image, .ref q_tapeSort, .ref q_tapeSize, .ref q_items])), (q_owes, .inl (C 0, 36, .inl u_owes)), (q_balance, .inl (C 0, 6, .inl u_balance)), (q_sum, .inl (C 0, 64, .inl u_sum)), (q_parts, .inl (C 0, 64, .inl u_parts)), (q_group, .inl (C 0, 3, .inl u_group))] → lv_has ls 6 [(0, .ref q_), (1, .int x1)] → W p l e R s m args below meth c H locs 0 0 Q (F0 m 198 ls [])) :
    ∀ (n : Nat) (x2 : Int32) (u_sum : (Nat → Int32)) (u_parts : (Nat → Int32)) (H : Heap) (locs : List Loc) (ls : Array Slot), fX9_groups_L53 k198 u_balance x1 n x2 u_sum u_parts = some z → HW D A s.heap H locs [(q_, .inr (9, [.int u_people, .ref q_owes, .ref q_denies, .int u_debts, .ref q_debt, .int u_cuts, .ref q_cut, .int u_seen, .ref q_sight, .int u_events, .ref q_event, .int u_inBook, .ref q_book, .int u_texted, .ref q_text, .ref q_path, .int u_rule, .int u_rings, .int u_size, .int u_least, .long u_worth, .ref q_ring, .ref q_balance, .ref q_left, .ref q_sum, .ref q_parts, .int u_groups, .ref q_group, .int u_paid, .ref q_payment, .ref q_then, .int u_imaged, .ref q_image, .ref q_tapeSort, .ref q_tapeSize, .ref q_items])), (q_owes, .inl (C 0, 36, .inl u_owes)), (q_balance, .inl (C 0, 6, .inl u_balance)), (q_sum, .inl (C 0, 64, .inl u_sum)), (q_parts, .inl (C 0, 64, .inl u_parts)), (q_group, .inl (C 0, 3, .inl u_group))] → lv_has ls 6 [(0, .ref q_), (1, .int x1), (2, .int x2)] → W p l e R s m args below meth c H locs 0 0 Q (F0 m 53 ls []) := by
  have hx := cx.1
  have hb := cx.2.1
  intro n
  induction n with
  | zero => intro x2 u_sum u_parts H locs ls hF; cases hF
  | succ n ih =>
    intro x2 u_sum u_parts H locs ls hF hw hl
    rw [fX9_groups_L53.eq_2] at hF
    refine lv_iload_n hx hb dX9_groups_53 rfl (lv_at hl 2 rfl) ?_
    refine lv_bipush (v := 64) hx hb dX9_groups_54 (by decide) ?_
    refine lv_icmp_ge (tgt := 198) hx hb dX9_groups_56 (by decide) (fun c8 => ?_) (fun c8 => ?_)
    · replace hF := oi_t c8 hF
      exact hk198 u_sum u_parts H locs ls hF hw (lv_sub hl [0, 1] rfl)
    · replace hF := oi_f c8 hF
      refine lv_iload_n hx hb dX9_groups_59 rfl (lv_at hl 2 rfl) ?_
      obtain ⟨z9, hz9, hF⟩ := ob hF
      refine cS (wr := [(q_, .inr (9, [.int u_people, .ref q_owes, .ref q_denies, .int u_debts, .ref q_debt, .int u_cuts, .ref q_cut, .int u_seen, .ref q_sight, .int u_events, .ref q_event, .int u_inBook, .ref q_book, .int u_texted, .ref q_text, .ref q_path, .int u_rule, .int u_rings, .int u_size, .int u_least, .long u_worth, .ref q_ring, .ref q_balance, .ref q_left, .ref q_sum, .ref q_parts, .int u_groups, .ref q_group, .int u_paid, .ref q_payment, .ref q_then, .int u_imaged, .ref q_image, .ref q_tapeSort, .ref q_tapeSize, .ref q_items])), (q_owes, .inl (C 0, 36, .inl u_owes)), (q_balance, .inl (C 0, 6, .inl u_balance)), (q_sum, .inl (C 0, 64, .inl u_sum)), (q_parts, .inl (C 0, 64, .inl u_parts)), (q_group, .inl (C 0, 3, .inl u_group))]) (w2 := [(q_, .inr (9, [.int u_people, .ref q_owes, .ref q_denies, .int u_debts, .ref q_debt, .int u_cuts, .ref q_cut, .int u_seen, .ref q_sight, .int u_events, .ref q_event, .int u_inBook, .ref q_book, .int u_texted, .ref q_text, .ref q_path, .int u_rule, .int u_rings, .int u_size, .int u_least, .long u_worth, .ref q_ring, .ref q_balance, .ref q_left, .ref q_sum, .ref q_parts, .int u_groups, .ref q_group, .int u_paid, .ref q_payment, .ref q_then, .int u_imaged, .ref q_image, .ref q_tapeSort, .ref q_tapeSize, .ref q_items])), (q_owes, .inl (C 0, 36, .inl u_owes)), (q_balance, .inl (C 0, 6, .inl u_balance)), (q_sum, .inl (C 0, 64, .inl u_sum)), (q_parts, .inl (C 0, 64, .inl u_parts)), (q_group, .inl (C 0, 3, .inl u_group))]) (st2 := [.int z9]) cx (CX9_lowest l D C x2 z9 hz9) lk_X9_178 my_X9_lowest ml_X9_lowest ⟨by decide, by decide⟩ hw [] [0, 1, 2, 3, 4, 5] [0, 1, 2, 3, 4, 5] rfl rfl (by decide) rfl rfl (Nat.le_of_ble_eq_true rfl) dX9_groups_60 rfl (fun H locs hw => ?_) hl.1
      refine lv_istore_n (lv' := [(3, .int z9), (0, .ref q_), (1, .int x1), (2, .int x2)]) hx hb dX9_groups_63 rfl hl (by decide) rfl (fun ls hl => ?_)
      refine lv_aload_n hx hb dX9_groups_64 rfl (lv_at hl 1 rfl) ?_
      refine r_get (ci := 9) (v := .ref q_sum) cx hw iX9 0 24 rfl rfl (by decide) wf_X9_48 rfl dX9_groups_65 ?_
      refine lv_iload_n hx hb dX9_groups_68 rfl (lv_at hl 3 rfl) ?_
      refine lv_aload_n hx hb dX9_groups_69 rfl (lv_at hl 1 rfl) ?_
      refine r_get (ci := 9) (v := .ref q_sum) cx hw iX9 0 24 rfl rfl (by decide) wf_X9_48 rfl dX9_groups_70 ?_
      refine lv_iload_n hx hb dX9_groups_73 rfl (lv_at hl 3 rfl) ?_
      refine lv_iload_n hx hb dX9_groups_74 rfl (lv_at hl 3 rfl) ?_
      refine lv_iconst (v := 1) hx hb dX9_groups_75 (by decide) ?_
      refine lv_isub hx hb dX9_groups_76 ?_
      refine lv_iand hx hb dX9_groups_77 ?_
      obtain ⟨g10, hF⟩ := gA_s hF
      refine r_iald cx hw 3 rfl g10 dX9_groups_78 ?_
      refine lv_aload_n hx hb dX9_groups_79 rfl (lv_at hl 1 rfl) ?_
      refine r_get (ci := 9) (v := .ref q_balance) cx hw iX9 0 22 rfl rfl (by decide) wf_X9_42 rfl dX9_groups_80 ?_
      refine lv_iload_n hx hb dX9_groups_83 rfl (lv_at hl 0 rfl) ?_
      obtain ⟨g11, hF⟩ := gA_s hF
      refine r_iald cx hw 2 rfl g11 dX9_groups_84 ?_
      refine lv_iadd hx hb dX9_groups_85 ?_
      obtain ⟨g12, hF⟩ := gA_s hF
      refine r_iast (w2 := [(q_, .inr (9, [.int u_people, .ref q_owes, .ref q_denies, .int u_debts, .ref q_debt, .int u_cuts, .ref q_cut, .int u_seen, .ref q_sight, .int u_events, .ref q_event, .int u_inBook, .ref q_book, .int u_texted, .ref q_text, .ref q_path, .int u_rule, .int u_rings, .int u_size, .int u_least, .long u_worth, .ref q_ring, .ref q_balance, .ref q_left, .ref q_sum, .ref q_parts, .int u_groups, .ref q_group, .int u_paid, .ref q_payment, .ref q_then, .int u_imaged, .ref q_image, .ref q_tapeSort, .ref q_tapeSize, .ref q_items])), (q_owes, .inl (C 0, 36, .inl u_owes)), (q_balance, .inl (C 0, 6, .inl u_balance)), (q_sum, .inl (C 0, 64, .inl (upd u_sum (x2 : Int32).toNatClampNeg ((u_sum (x2 &&& (x2 - 1)).toNatClampNeg) + (u_balance (z9).toNatClampNeg))))), (q_parts, .inl (C 0, 64, .inl u_parts)), (q_group, .inl (C 0, 3, .inl u_group))]) cx hw 3 rfl g12 dX9_groups_86 rfl (fun H locs hw => ?_)
      refine lv_aload_n hx hb dX9_groups_87 rfl (lv_at hl 1 rfl) ?_
      refine r_get (ci := 9) (v := .ref q_parts) cx hw iX9 0 25 rfl rfl (by decide) wf_X9_51 rfl dX9_groups_88 ?_
      refine lv_iload_n hx hb dX9_groups_91 rfl (lv_at hl 3 rfl) ?_
      refine lv_iconst (v := (-1)) hx hb dX9_groups_92 (by decide) ?_
      obtain ⟨g13, hF⟩ := gA_s hF
      refine r_iast (w2 := [(q_, .inr (9, [.int u_people, .ref q_owes, .ref q_denies, .int u_debts, .ref q_debt, .int u_cuts, .ref q_cut, .int u_seen, .ref q_sight, .int u_events, .ref q_event, .int u_inBook, .ref q_book, .int u_texted, .ref q_text, .ref q_path, .int u_rule, .int u_rings, .int u_size, .int u_least, .long u_worth, .ref q_ring, .ref q_balance, .ref q_left, .ref q_sum, .ref q_parts, .int u_groups, .ref q_group, .int u_paid, .ref q_payment, .ref q_then, .int u_imaged, .ref q_image, .ref q_tapeSort, .ref q_tapeSize, .ref q_items])), (q_owes, .inl (C 0, 36, .inl u_owes)), (q_balance, .inl (C 0, 6, .inl u_balance)), (q_sum, .inl (C 0, 64, .inl (upd u_sum (x2 : Int32).toNatClampNeg ((u_sum (x2 &&& (x2 - 1)).toNatClampNeg) + (u_balance (z9).toNatClampNeg))))), (q_parts, .inl (C 0, 64, .inl (upd u_parts (x2 : Int32).toNatClampNeg (-1)))), (q_group, .inl (C 0, 3, .inl u_group))]) cx hw 4 rfl g13 dX9_groups_93 rfl (fun H locs hw => ?_)
      refine lv_iload_n hx hb dX9_groups_94 rfl (lv_at hl 3 rfl) ?_
      refine lv_iload_n hx hb dX9_groups_95 rfl (lv_at hl 2 rfl) ?_
      refine lv_iconst (v := (-1)) hx hb dX9_groups_96 (by decide) ?_
      refine lv_ixor hx hb dX9_groups_97 ?_
      refine lv_iand hx hb dX9_groups_98 ?_
      refine lv_if_eq (tgt := 105) hx hb dX9_groups_99 (by decide) (fun c14 => ?_) (fun c14 => ?_)
      · replace hF := oi_t c14 hF
        refine lv_iconst (v := 1) hx hb dX9_groups_105 (by decide) ?_
        refine lv_istore (lv' := [(4, .int 1), (3, .int z9), (0, .ref q_), (1, .int x1), (2, .int x2)]) hx hb dX9_groups_106 hl (by decide) rfl (fun ls hl => ?_)
        refine LX9_groups_108 cx hret (fun u_parts_25 H locs ls hF hw hl => ?_) 400 1 (upd u_parts (x2 : Int32).toNatClampNeg (-1)) H locs ls hF hw (lv_sub hl [2, 3, 4, 1, 0] rfl)
        · refine lv_iinc (v := x2 + 1) (lv' := [(2, .int (x2 + 1)), (0, .ref q_), (1, .int x1)]) hx hb dX9_groups_192 hl (k := 2) rfl rfl (by decide) rfl (fun ls hl => ?_)
          refine lv_goto (tgt := 53) hx hb dX9_groups_195 (by decide) ?_
          exact ih (x2 + 1) (upd u_sum (x2 : Int32).toNatClampNeg ((u_sum (x2 &&& (x2 - 1)).toNatClampNeg) + (u_balance (z9).toNatClampNeg))) u_parts_25 H locs ls hF hw (lv_sub hl [1, 2, 0] rfl)
      · replace hF := oi_f c14 hF
        refine lv_goto (tgt := 192) hx hb dX9_groups_102 (by decide) ?_
        refine lv_iinc (v := x2 + 1) (lv' := [(2, .int (x2 + 1)), (3, .int z9), (0, .ref q_), (1, .int x1)]) hx hb dX9_groups_192 hl (k := 3) rfl rfl (by decide) rfl (fun ls hl => ?_)
        refine lv_goto (tgt := 53) hx hb dX9_groups_195 (by decide) ?_
        exact ih (x2 + 1) (upd u_sum (x2 : Int32).toNatClampNeg ((u_sum (x2 &&& (x2 - 1)).toNatClampNeg) + (u_balance (z9).toNatClampNeg))) (upd u_parts (x2 : Int32).toNatClampNeg (-1)) H locs ls hF hw (lv_sub hl [2, 3, 0] rfl)
set_option maxRecDepth 20000 in
theorem LX9_groups_219 {p : Program} {l : Launch} {e : Env} {R : Room} {s : State} {m : MethodId} {args : Array Value} {below : List Frame} {meth : Method} {c : Code} {Q : State → Prop} {D : va_G} {C : Nat → ClassId} {A : Nat → Prop} (cx : CX p m c s args RX9 cX9_groups 6 D C A R 2) {q_ q_owes q_denies q_debt q_cut q_sight q_event q_book q_text q_path q_ring q_balance q_left q_sum q_parts q_group q_payment q_then q_image q_tapeSort q_tapeSize q_items : Nat} {u_people : Int32} {u_debts : Int32} {u_cuts : Int32} {u_seen : Int32} {u_events : Int32} {u_inBook : Int32} {u_texted : Int32} {u_rule : Int32} {u_rings : Int32} {u_size : Int32} {u_least : Int32} {u_worth : Int64} {u_groups : Int32} {u_paid : Int32} {u_imaged : Int32} {u_owes : (Nat → Int32)} {u_balance : (Nat → Int32)} {u_sum : (Nat → Int32)} {u_parts : (Nat → Int32)} {u_group : (Nat → Int32)} {x2 : Int32} {x3 : Int32} {z : (Int32 × (Nat → Int32) × (Nat → Int32) × (Nat → Int32) × (Nat → Int32))} (hret : RT p l e R s m args below meth c Q D A cX9_groups none [(q_, .inr (9, [.int u_people, .ref q_owes, .ref q_denies, .int u_debts, .ref q_debt, .int u_cuts, .ref q_cut, .int u_seen, .ref q_sight, .int u_events, .ref q_event, .int u_inBook, .ref q_book, .int u_texted, .ref q_text, .ref q_path, .int u_rule, .int u_rings, .int u_size, .int u_least, .long u_worth, .ref q_ring, .ref q_balance, .ref q_left, .ref q_sum, .ref q_parts, .int z.1, .ref q_group, .int u_paid, .ref q_payment, .ref q_then, .int u_imaged, .ref q_image, .ref q_tapeSort, .ref q_tapeSize, .ref q_items])), (q_owes, .inl (C 0, 36, .inl u_owes)), (q_balance, .inl (C 0, 6, .inl z.2.1)), (q_sum, .inl (C 0, 64, .inl z.2.2.1)), (q_parts, .inl (C 0, 64, .inl z.2.2.2.1)), (q_group, .inl (C 0, 3, .inl z.2.2.2.2))] none) {k275 : Int32 → Option (Int32 × (Nat → Int32) × (Nat → Int32) × (Nat → Int32) × (Nat → Int32))} (hk275 : ∀ (x4 : Int32) (H : Heap) (locs : List Loc) (ls : Array Slot), k275 x4 = some z → HW D A s.heap H locs [(q_, .inr (9, [.int u_people, .ref q_owes, .ref q_denies, .int u_debts, .ref q_debt, .int u_cuts, .ref q_cut, .int u_seen, .ref q_sight, .int u_events, .ref q_event, .int u_inBook, .ref q_book, .int u_texted, .ref q_text, .ref q_path, .int u_rule, .int u_rings, .int u_size, .int u_least, .long u_worth, .ref q_ring, .ref q_balance, .ref q_left, .ref q_sum, .ref q_parts, .int u_groups, .ref q_group, .int u_paid, .ref q_payment, .ref q_then, .int u_imaged, .ref q_image, .ref q_tapeSort, .ref q_tapeSize, .ref q_items])), (q_owes, .inl (C 0, 36, .inl u_owes)), (q_balance, .inl (C 0, 6, .inl u_balance)), (q_sum, .inl (C 0, 64, .inl u_sum)), (q_parts, .inl (C 0, 64, .inl u_parts)), (q_group, .inl (C 0, 3, .inl u_group))] → lv_has ls 6 [(0, .ref q_), (2, .int x2), (4, .int x4)] → W p l e R s m args below meth c H locs 0 0 Q (F0 m 275 ls [])) :
    ∀ (n : Nat) (x4 : Int32) (H : Heap) (locs : List Loc) (ls : Array Slot), fX9_groups_L219 k275 u_sum u_parts x2 x3 n x4 = some z → HW D A s.heap H locs [(q_, .inr (9, [.int u_people, .ref q_owes, .ref q_denies, .int u_debts, .ref q_debt, .int u_cuts, .ref q_cut, .int u_seen, .ref q_sight, .int u_events, .ref q_event, .int u_inBook, .ref q_book, .int u_texted, .ref q_text, .ref q_path, .int u_rule, .int u_rings, .int u_size, .int u_least, .long u_worth, .ref q_ring, .ref q_balance, .ref q_left, .ref q_sum, .ref q_parts, .int u_groups, .ref q_group, .int u_paid, .ref q_payment, .ref q_then, .int u_imaged, .ref q_image, .ref q_tapeSort, .ref q_tapeSize, .ref q_items])), (q_owes, .inl (C 0, 36, .inl u_owes)), (q_balance, .inl (C 0, 6, .inl u_balance)), (q_sum, .inl (C 0, 64, .inl u_sum)), (q_parts, .inl (C 0, 64, .inl u_parts)), (q_group, .inl (C 0, 3, .inl u_group))] → lv_has ls 6 [(0, .ref q_), (2, .int x2), (3, .int x3), (4, .int x4)] → W p l e R s m args below meth c H locs 0 0 Q (F0 m 219 ls []) := by
  have hx := cx.1
  have hb := cx.2.1
  intro n
  induction n with
  | zero => intro x4 H locs ls hF; cases hF
  | succ n ih =>
    intro x4 H locs ls hF hw hl
    rw [fX9_groups_L219.eq_2] at hF
    refine lv_iload hx hb dX9_groups_219 (lv_at hl 3 rfl) ?_
    refine lv_iload_n hx hb dX9_groups_221 rfl (lv_at hl 1 rfl) ?_
    refine lv_iconst (v := (-1)) hx hb dX9_groups_222 (by decide) ?_
    refine lv_ixor hx hb dX9_groups_223 ?_
    refine lv_iand hx hb dX9_groups_224 ?_
    refine lv_if_ne (tgt := 269) hx hb dX9_groups_225 (by decide) (fun c29 => ?_) (fun c29 => ?_)
    · replace hF := oi_f c29 hF
      refine lv_iinc (v := x4 + 1) (lv' := [(4, .int (x4 + 1)), (0, .ref q_), (2, .int x2), (3, .int x3)]) hx hb dX9_groups_269 hl (k := 3) rfl rfl (by decide) rfl (fun ls hl => ?_)
      refine lv_goto (tgt := 219) hx hb dX9_groups_272 (by decide) ?_
      exact ih (x4 + 1) H locs ls hF hw (lv_sub hl [1, 2, 3, 0] rfl)
    · replace hF := oi_t c29 hF
      refine lv_iload hx hb dX9_groups_228 (lv_at hl 3 rfl) ?_
      refine lv_iload_n hx hb dX9_groups_230 rfl (lv_at hl 2 rfl) ?_
      refine lv_ishr hx hb dX9_groups_231 ?_
      refine lv_iconst (v := 1) hx hb dX9_groups_232 (by decide) ?_
      refine lv_iand hx hb dX9_groups_233 ?_
      refine lv_if_eq (tgt := 269) hx hb dX9_groups_234 (by decide) (fun c30 => ?_) (fun c30 => ?_)
      · replace hF := oi_t c30 hF
        refine lv_iinc (v := x4 + 1) (lv' := [(4, .int (x4 + 1)), (0, .ref q_), (2, .int x2), (3, .int x3)]) hx hb dX9_groups_269 hl (k := 3) rfl rfl (by decide) rfl (fun ls hl => ?_)
        refine lv_goto (tgt := 219) hx hb dX9_groups_272 (by decide) ?_
        exact ih (x4 + 1) H locs ls hF hw (lv_sub hl [1, 2, 3, 0] rfl)
      · replace hF := oi_f c30 hF
        refine lv_aload_n hx hb dX9_groups_237 rfl (lv_at hl 0 rfl) ?_
        refine r_get (ci := 9) (v := .ref q_sum) cx hw iX9 0 24 rfl rfl (by decide) wf_X9_48 rfl dX9_groups_238 ?_
        refine lv_iload hx hb dX9_groups_241 (lv_at hl 3 rfl) ?_
        obtain ⟨g31, hF⟩ := gA_s hF
        refine r_iald cx hw 3 rfl g31 dX9_groups_243 ?_
        refine lv_if_ne (tgt := 269) hx hb dX9_groups_244 (by decide) (fun c32 => ?_) (fun c32 => ?_)
        · replace hF := oi_f c32 hF
          refine lv_iinc (v := x4 + 1) (lv' := [(4, .int (x4 + 1)), (0, .ref q_), (2, .int x2), (3, .int x3)]) hx hb dX9_groups_269 hl (k := 3) rfl rfl (by decide) rfl (fun ls hl => ?_)
          refine lv_goto (tgt := 219) hx hb dX9_groups_272 (by decide) ?_
          exact ih (x4 + 1) H locs ls hF hw (lv_sub hl [1, 2, 3, 0] rfl)
        · replace hF := oi_t c32 hF
          refine lv_aload_n hx hb dX9_groups_247 rfl (lv_at hl 0 rfl) ?_
          refine r_get (ci := 9) (v := .ref q_parts) cx hw iX9 0 25 rfl rfl (by decide) wf_X9_51 rfl dX9_groups_248 ?_
          refine lv_iload_n hx hb dX9_groups_251 rfl (lv_at hl 1 rfl) ?_
          refine lv_iload hx hb dX9_groups_252 (lv_at hl 3 rfl) ?_
          refine lv_iconst (v := (-1)) hx hb dX9_groups_254 (by decide) ?_
          refine lv_ixor hx hb dX9_groups_255 ?_
          refine lv_iand hx hb dX9_groups_256 ?_
          obtain ⟨g33, hF⟩ := gA_s hF
          refine r_iald cx hw 4 rfl g33 dX9_groups_257 ?_
          refine lv_aload_n hx hb dX9_groups_258 rfl (lv_at hl 0 rfl) ?_
          refine r_get (ci := 9) (v := .ref q_parts) cx hw iX9 0 25 rfl rfl (by decide) wf_X9_51 rfl dX9_groups_259 ?_
          refine lv_iload_n hx hb dX9_groups_262 rfl (lv_at hl 1 rfl) ?_
          obtain ⟨g34, hF⟩ := gA_s hF
          refine r_iald cx hw 4 rfl g34 dX9_groups_263 ?_
          refine lv_iconst (v := 1) hx hb dX9_groups_264 (by decide) ?_
          refine lv_isub hx hb dX9_groups_265 ?_
          refine lv_icmp_eq (tgt := 275) hx hb dX9_groups_266 (by decide) (fun c35 => ?_) (fun c35 => ?_)
          · replace hF := oi_t c35 hF
            exact hk275 x4 H locs ls hF hw (lv_sub hl [0, 1, 3] rfl)
          · replace hF := oi_f c35 hF
            refine lv_iinc (v := x4 + 1) (lv' := [(4, .int (x4 + 1)), (0, .ref q_), (2, .int x2), (3, .int x3)]) hx hb dX9_groups_269 hl (k := 3) rfl rfl (by decide) rfl (fun ls hl => ?_)
            refine lv_goto (tgt := 219) hx hb dX9_groups_272 (by decide) ?_
            exact ih (x4 + 1) H locs ls hF hw (lv_sub hl [1, 2, 3, 0] rfl)
set_option maxRecDepth 20000 in
theorem LX9_groups_205 {p : Program} {l : Launch} {e : Env} {R : Room} {s : State} {m : MethodId} {args : Array Value} {below : List Frame} {meth : Method} {c : Code} {Q : State → Prop} {D : va_G} {C : Nat → ClassId} {A : Nat → Prop} (cx : CX p m c s args RX9 cX9_groups 6 D C A R 2) {q_ q_owes q_denies q_debt q_cut q_sight q_event q_book q_text q_path q_ring q_balance q_left q_sum q_parts q_group q_payment q_then q_image q_tapeSort q_tapeSize q_items : Nat} {u_people : Int32} {u_debts : Int32} {u_cuts : Int32} {u_seen : Int32} {u_events : Int32} {u_inBook : Int32} {u_texted : Int32} {u_rule : Int32} {u_rings : Int32} {u_size : Int32} {u_least : Int32} {u_worth : Int64} {u_paid : Int32} {u_imaged : Int32} {u_owes : (Nat → Int32)} {u_balance : (Nat → Int32)} {u_sum : (Nat → Int32)} {u_parts : (Nat → Int32)} {z : (Int32 × (Nat → Int32) × (Nat → Int32) × (Nat → Int32) × (Nat → Int32))} (hret : RT p l e R s m args below meth c Q D A cX9_groups none [(q_, .inr (9, [.int u_people, .ref q_owes, .ref q_denies, .int u_debts, .ref q_debt, .int u_cuts, .ref q_cut, .int u_seen, .ref q_sight, .int u_events, .ref q_event, .int u_inBook, .ref q_book, .int u_texted, .ref q_text, .ref q_path, .int u_rule, .int u_rings, .int u_size, .int u_least, .long u_worth, .ref q_ring, .ref q_balance, .ref q_left, .ref q_sum, .ref q_parts, .int z.1, .ref q_group, .int u_paid, .ref q_payment, .ref q_then, .int u_imaged, .ref q_image, .ref q_tapeSort, .ref q_tapeSize, .ref q_items])), (q_owes, .inl (C 0, 36, .inl u_owes)), (q_balance, .inl (C 0, 6, .inl z.2.1)), (q_sum, .inl (C 0, 64, .inl z.2.2.1)), (q_parts, .inl (C 0, 64, .inl z.2.2.2.1)), (q_group, .inl (C 0, 3, .inl z.2.2.2.2))] none) :
    ∀ (n : Nat) (x2 : Int32) (u_groups : Int32) (u_group : (Nat → Int32)) (H : Heap) (locs : List Loc) (ls : Array Slot), fX9_groups_L205 u_balance u_sum u_parts n x2 u_groups u_group = some z → HW D A s.heap H locs [(q_, .inr (9, [.int u_people, .ref q_owes, .ref q_denies, .int u_debts, .ref q_debt, .int u_cuts, .ref q_cut, .int u_seen, .ref q_sight, .int u_events, .ref q_event, .int u_inBook, .ref q_book, .int u_texted, .ref q_text, .ref q_path, .int u_rule, .int u_rings, .int u_size, .int u_least, .long u_worth, .ref q_ring, .ref q_balance, .ref q_left, .ref q_sum, .ref q_parts, .int u_groups, .ref q_group, .int u_paid, .ref q_payment, .ref q_then, .int u_imaged, .ref q_image, .ref q_tapeSort, .ref q_tapeSize, .ref q_items])), (q_owes, .inl (C 0, 36, .inl u_owes)), (q_balance, .inl (C 0, 6, .inl u_balance)), (q_sum, .inl (C 0, 64, .inl u_sum)), (q_parts, .inl (C 0, 64, .inl u_parts)), (q_group, .inl (C 0, 3, .inl u_group))] → lv_has ls 6 [(0, .ref q_), (2, .int x2)] → W p l e R s m args below meth c H locs 0 0 Q (F0 m 205 ls []) := by
  have hx := cx.1
  have hb := cx.2.1
  intro n
  induction n with
  | zero => intro x2 u_groups u_group H locs ls hF; cases hF
  | succ n ih =>
    intro x2 u_groups u_group H locs ls hF hw hl
    rw [fX9_groups_L205.eq_2] at hF
    refine lv_iload_n hx hb dX9_groups_205 rfl (lv_at hl 1 rfl) ?_
    refine lv_if_eq (tgt := 303) hx hb dX9_groups_206 (by decide) (fun c27 => ?_) (fun c27 => ?_)
    · replace hF := oi_t c27 hF
      obtain rfl := Option.some.inj hF
      exact rt_v hret hw rfl dX9_groups_303
    · replace hF := oi_f c27 hF
      refine lv_iload_n hx hb dX9_groups_209 rfl (lv_at hl 1 rfl) ?_
      obtain ⟨z28, hz28, hF⟩ := ob hF
      refine cS (wr := [(q_, .inr (9, [.int u_people, .ref q_owes, .ref q_denies, .int u_debts, .ref q_debt, .int u_cuts, .ref q_cut, .int u_seen, .ref q_sight, .int u_events, .ref q_event, .int u_inBook, .ref q_book, .int u_texted, .ref q_text, .ref q_path, .int u_rule, .int u_rings, .int u_size, .int u_least, .long u_worth, .ref q_ring, .ref q_balance, .ref q_left, .ref q_sum, .ref q_parts, .int u_groups, .ref q_group, .int u_paid, .ref q_payment, .ref q_then, .int u_imaged, .ref q_image, .ref q_tapeSort, .ref q_tapeSize, .ref q_items])), (q_owes, .inl (C 0, 36, .inl u_owes)), (q_balance, .inl (C 0, 6, .inl u_balance)), (q_sum, .inl (C 0, 64, .inl u_sum)), (q_parts, .inl (C 0, 64, .inl u_parts)), (q_group, .inl (C 0, 3, .inl u_group))]) (w2 := [(q_, .inr (9, [.int u_people, .ref q_owes, .ref q_denies, .int u_debts, .ref q_debt, .int u_cuts, .ref q_cut, .int u_seen, .ref q_sight, .int u_events, .ref q_event, .int u_inBook, .ref q_book, .int u_texted, .ref q_text, .ref q_path, .int u_rule, .int u_rings, .int u_size, .int u_least, .long u_worth, .ref q_ring, .ref q_balance, .ref q_left, .ref q_sum, .ref q_parts, .int u_groups, .ref q_group, .int u_paid, .ref q_payment, .ref q_then, .int u_imaged, .ref q_image, .ref q_tapeSort, .ref q_tapeSize, .ref q_items])), (q_owes, .inl (C 0, 36, .inl u_owes)), (q_balance, .inl (C 0, 6, .inl u_balance)), (q_sum, .inl (C 0, 64, .inl u_sum)), (q_parts, .inl (C 0, 64, .inl u_parts)), (q_group, .inl (C 0, 3, .inl u_group))]) (st2 := [.int z28]) cx (CX9_lowest l D C x2 z28 hz28) lk_X9_178 my_X9_lowest ml_X9_lowest ⟨by decide, by decide⟩ hw [] [0, 1, 2, 3, 4, 5] [0, 1, 2, 3, 4, 5] rfl rfl (by decide) rfl rfl (Nat.le_of_ble_eq_true rfl) dX9_groups_210 rfl (fun H locs hw => ?_) hl.1
      refine lv_istore_n (lv' := [(3, .int z28), (0, .ref q_), (2, .int x2)]) hx hb dX9_groups_213 rfl hl (by decide) rfl (fun ls hl => ?_)
      refine lv_iconst (v := 1) hx hb dX9_groups_214 (by decide) ?_
      refine lv_iload_n hx hb dX9_groups_215 rfl (lv_at hl 0 rfl) ?_
      refine lv_ishl hx hb dX9_groups_216 ?_
      refine lv_istore (lv' := [(4, .int (1 <<< (z28 &&& 31))), (3, .int z28), (0, .ref q_), (2, .int x2)]) hx hb dX9_groups_217 hl (by decide) rfl (fun ls hl => ?_)
      refine LX9_groups_219 cx hret (fun x4_36 H locs ls hF hw hl => ?_) 400 (1 <<< (z28 &&& 31)) H locs ls hF hw (lv_sub hl [2, 3, 1, 0] rfl)
      · refine lv_aload_n hx hb dX9_groups_275 rfl (lv_at hl 0 rfl) ?_
        refine r_get (ci := 9) (v := .ref q_group) cx hw iX9 0 27 rfl rfl (by decide) wf_X9_54 rfl dX9_groups_276 ?_
        refine lv_aload_n hx hb dX9_groups_279 rfl (lv_at hl 0 rfl) ?_
        refine lv_dup hx hb dX9_groups_280 rfl ?_
        refine r_get (ci := 9) (v := .int u_groups) cx hw iX9 0 26 rfl rfl (by decide) wf_X9_181 rfl dX9_groups_281 ?_
        refine lv_dup_x1 hx hb dX9_groups_284 rfl rfl ?_
        refine lv_iconst (v := 1) hx hb dX9_groups_285 (by decide) ?_
        refine lv_iadd hx hb dX9_groups_286 ?_
        refine r_put (ci := 9) (w2 := [(q_, .inr (9, [.int u_people, .ref q_owes, .ref q_denies, .int u_debts, .ref q_debt, .int u_cuts, .ref q_cut, .int u_seen, .ref q_sight, .int u_events, .ref q_event, .int u_inBook, .ref q_book, .int u_texted, .ref q_text, .ref q_path, .int u_rule, .int u_rings, .int u_size, .int u_least, .long u_worth, .ref q_ring, .ref q_balance, .ref q_left, .ref q_sum, .ref q_parts, .int (u_groups + 1), .ref q_group, .int u_paid, .ref q_payment, .ref q_then, .int u_imaged, .ref q_image, .ref q_tapeSort, .ref q_tapeSize, .ref q_items])), (q_owes, .inl (C 0, 36, .inl u_owes)), (q_balance, .inl (C 0, 6, .inl u_balance)), (q_sum, .inl (C 0, 64, .inl u_sum)), (q_parts, .inl (C 0, 64, .inl u_parts)), (q_group, .inl (C 0, 3, .inl u_group))]) cx hw iX9 tyX9_ok nmX9 0 26 rfl rfl (by decide) wf_X9_181 rfl rfl rfl rfl (Nat.le_of_ble_eq_true rfl) dX9_groups_287 rfl (fun H locs hw => ?_)
        refine lv_iload hx hb dX9_groups_290 (lv_at hl 2 rfl) ?_
        obtain ⟨g37, hF⟩ := gA_s hF
        refine r_iast (w2 := [(q_, .inr (9, [.int u_people, .ref q_owes, .ref q_denies, .int u_debts, .ref q_debt, .int u_cuts, .ref q_cut, .int u_seen, .ref q_sight, .int u_events, .ref q_event, .int u_inBook, .ref q_book, .int u_texted, .ref q_text, .ref q_path, .int u_rule, .int u_rings, .int u_size, .int u_least, .long u_worth, .ref q_ring, .ref q_balance, .ref q_left, .ref q_sum, .ref q_parts, .int (u_groups + 1), .ref q_group, .int u_paid, .ref q_payment, .ref q_then, .int u_imaged, .ref q_image, .ref q_tapeSort, .ref q_tapeSize, .ref q_items])), (q_owes, .inl (C 0, 36, .inl u_owes)), (q_balance, .inl (C 0, 6, .inl u_balance)), (q_sum, .inl (C 0, 64, .inl u_sum)), (q_parts, .inl (C 0, 64, .inl u_parts)), (q_group, .inl (C 0, 3, .inl (upd u_group (u_groups : Int32).toNatClampNeg x4_36)))]) cx hw 5 rfl g37 dX9_groups_292 rfl (fun H locs hw => ?_)
        refine lv_iload_n hx hb dX9_groups_293 rfl (lv_at hl 1 rfl) ?_
        refine lv_iload hx hb dX9_groups_294 (lv_at hl 2 rfl) ?_
        refine lv_iconst (v := (-1)) hx hb dX9_groups_296 (by decide) ?_
        refine lv_ixor hx hb dX9_groups_297 ?_
        refine lv_iand hx hb dX9_groups_298 ?_
        refine lv_istore_n (lv' := [(2, .int (x2 &&& (x4_36 ^^^ (-1)))), (0, .ref q_), (4, .int x4_36)]) hx hb dX9_groups_299 rfl hl (by decide) rfl (fun ls hl => ?_)
        refine lv_goto (tgt := 205) hx hb dX9_groups_300 (by decide) ?_
        exact ih (x2 &&& (x4_36 ^^^ (-1))) (u_groups + 1) (upd u_group (u_groups : Int32).toNatClampNeg x4_36) H locs ls hF hw (lv_sub hl [1, 0] rfl)
set_option maxRecDepth 20000 in
theorem CX9_groups (l : Launch) (D : va_G) (C : Nat → ClassId) (q_ q_owes q_denies q_debt q_cut q_sight q_event q_book q_text q_path q_ring q_balance q_left q_sum q_parts q_group q_payment q_then q_image q_tapeSort q_tapeSize q_items : Nat) (u_people : Int32) (u_debts : Int32) (u_cuts : Int32) (u_seen : Int32) (u_events : Int32) (u_inBook : Int32) (u_texted : Int32) (u_rule : Int32) (u_rings : Int32) (u_size : Int32) (u_least : Int32) (u_worth : Int64) (u_groups : Int32) (u_paid : Int32) (u_imaged : Int32) (u_owes : (Nat → Int32)) (u_balance : (Nat → Int32)) (u_sum : (Nat → Int32)) (u_parts : (Nat → Int32)) (u_group : (Nat → Int32)) (z : (Int32 × (Nat → Int32) × (Nat → Int32) × (Nat → Int32) × (Nat → Int32))) (hF : fX9_groups u_people u_owes u_balance u_sum u_parts u_group = some z) : Ct l yX9_groups cX9_groups 6 none 2 D C [.ref q_] [(q_, .inr (9, [.int u_people, .ref q_owes, .ref q_denies, .int u_debts, .ref q_debt, .int u_cuts, .ref q_cut, .int u_seen, .ref q_sight, .int u_events, .ref q_event, .int u_inBook, .ref q_book, .int u_texted, .ref q_text, .ref q_path, .int u_rule, .int u_rings, .int u_size, .int u_least, .long u_worth, .ref q_ring, .ref q_balance, .ref q_left, .ref q_sum, .ref q_parts, .int u_groups, .ref q_group, .int u_paid, .ref q_payment, .ref q_then, .int u_imaged, .ref q_image, .ref q_tapeSort, .ref q_tapeSize, .ref q_items])), (q_owes, .inl (C 0, 36, .inl u_owes)), (q_balance, .inl (C 0, 6, .inl u_balance)), (q_sum, .inl (C 0, 64, .inl u_sum)), (q_parts, .inl (C 0, 64, .inl u_parts)), (q_group, .inl (C 0, 3, .inl u_group))] [(q_, .inr (9, [.int u_people, .ref q_owes, .ref q_denies, .int u_debts, .ref q_debt, .int u_cuts, .ref q_cut, .int u_seen, .ref q_sight, .int u_events, .ref q_event, .int u_inBook, .ref q_book, .int u_texted, .ref q_text, .ref q_path, .int u_rule, .int u_rings, .int u_size, .int u_least, .long u_worth, .ref q_ring, .ref q_balance, .ref q_left, .ref q_sum, .ref q_parts, .int z.1, .ref q_group, .int u_paid, .ref q_payment, .ref q_then, .int u_imaged, .ref q_image, .ref q_tapeSort, .ref q_tapeSize, .ref q_items])), (q_owes, .inl (C 0, 36, .inl u_owes)), (q_balance, .inl (C 0, 6, .inl z.2.1)), (q_sum, .inl (C 0, 64, .inl z.2.2.1)), (q_parts, .inl (C 0, 64, .inl z.2.2.2.1)), (q_group, .inl (C 0, 3, .inl z.2.2.2.2))] none := by
  refine Ct_of (by decide) (Nat.le_of_ble_eq_true rfl) ?_
  intro p e R s m args below meth c A Q H locs ls cx hw hl hret
  have cx : CX p m c s args RX9 cX9_groups 6 D C A R 2 := cx
  have hx := cx.1
  have hb := cx.2.1
  have hl : lv_has ls 6 [(0, .ref q_)] := hl
  rw [fX9_groups.eq_1] at hF
  refine lv_aload_n hx hb dX9_groups_0 rfl (lv_at hl 0 rfl) ?_
  obtain ⟨z1, hz1, hF⟩ := ob hF
  refine cV (wr := [(q_sum, .inl (C 0, 64, .inl u_sum)), (q_parts, .inl (C 0, 64, .inl u_parts)), (q_group, .inl (C 0, 3, .inl u_group))]) (w2 := [(q_, .inr (9, [.int u_people, .ref q_owes, .ref q_denies, .int u_debts, .ref q_debt, .int u_cuts, .ref q_cut, .int u_seen, .ref q_sight, .int u_events, .ref q_event, .int u_inBook, .ref q_book, .int u_texted, .ref q_text, .ref q_path, .int u_rule, .int u_rings, .int u_size, .int u_least, .long u_worth, .ref q_ring, .ref q_balance, .ref q_left, .ref q_sum, .ref q_parts, .int u_groups, .ref q_group, .int u_paid, .ref q_payment, .ref q_then, .int u_imaged, .ref q_image, .ref q_tapeSort, .ref q_tapeSize, .ref q_items])), (q_owes, .inl (C 0, 36, .inl u_owes)), (q_balance, .inl (C 0, 6, .inl z1)), (q_sum, .inl (C 0, 64, .inl u_sum)), (q_parts, .inl (C 0, 64, .inl u_parts)), (q_group, .inl (C 0, 3, .inl u_group))]) (st2 := []) cx (CX9_balances l D C q_ q_owes q_denies q_debt q_cut q_sight q_event q_book q_text q_path q_ring q_balance q_left q_sum q_parts q_group q_payment q_then q_image q_tapeSort q_tapeSize q_items u_people u_debts u_cuts u_seen u_events u_inBook u_texted u_rule u_rings u_size u_least u_worth u_groups u_paid u_imaged u_owes u_balance z1 hz1) lk_X9_175 my_X9_balances ml_X9_balances ⟨by decide, by decide⟩ hw [0, 1, 2] [3, 4, 5] [3, 4, 5, 0, 1, 2] rfl rfl (by decide) rfl rfl rfl rfl (Nat.le_of_ble_eq_true rfl) dX9_groups_1 rfl (fun H locs hw => ?_) hl.1
  refine lv_iconst (v := 0) hx hb dX9_groups_4 (by decide) ?_
  refine lv_istore_n (lv' := [(1, .int 0), (0, .ref q_)]) hx hb dX9_groups_5 rfl hl (by decide) rfl (fun ls hl => ?_)
  refine lv_iconst (v := 0) hx hb dX9_groups_6 (by decide) ?_
  refine lv_istore_n (lv' := [(2, .int 0), (1, .int 0), (0, .ref q_)]) hx hb dX9_groups_7 rfl hl (by decide) rfl (fun ls hl => ?_)
  refine LX9_groups_8 cx hret (fun x1_5 H locs ls hF hw hl => ?_) 400 0 0 H locs ls hF hw (lv_sub hl [2, 1, 0] rfl)
  · refine lv_aload_n hx hb dX9_groups_37 rfl (lv_at hl 0 rfl) ?_
    refine r_get (ci := 9) (v := .ref q_sum) cx hw iX9 0 24 rfl rfl (by decide) wf_X9_48 rfl dX9_groups_38 ?_
    refine lv_iconst (v := 0) hx hb dX9_groups_41 (by decide) ?_
    refine lv_iconst (v := 0) hx hb dX9_groups_42 (by decide) ?_
    obtain ⟨g6, hF⟩ := gA_s hF
    refine r_iast (w2 := [(q_, .inr (9, [.int u_people, .ref q_owes, .ref q_denies, .int u_debts, .ref q_debt, .int u_cuts, .ref q_cut, .int u_seen, .ref q_sight, .int u_events, .ref q_event, .int u_inBook, .ref q_book, .int u_texted, .ref q_text, .ref q_path, .int u_rule, .int u_rings, .int u_size, .int u_least, .long u_worth, .ref q_ring, .ref q_balance, .ref q_left, .ref q_sum, .ref q_parts, .int u_groups, .ref q_group, .int u_paid, .ref q_payment, .ref q_then, .int u_imaged, .ref q_image, .ref q_tapeSort, .ref q_tapeSize, .ref q_items])), (q_owes, .inl (C 0, 36, .inl u_owes)), (q_balance, .inl (C 0, 6, .inl z1)), (q_sum, .inl (C 0, 64, .inl (upd u_sum (0 : Int32).toNatClampNeg 0))), (q_parts, .inl (C 0, 64, .inl u_parts)), (q_group, .inl (C 0, 3, .inl u_group))]) cx hw 3 rfl g6 dX9_groups_43 rfl (fun H locs hw => ?_)
    refine lv_aload_n hx hb dX9_groups_44 rfl (lv_at hl 0 rfl) ?_
    refine r_get (ci := 9) (v := .ref q_parts) cx hw iX9 0 25 rfl rfl (by decide) wf_X9_51 rfl dX9_groups_45 ?_
    refine lv_iconst (v := 0) hx hb dX9_groups_48 (by decide) ?_
    refine lv_iconst (v := 0) hx hb dX9_groups_49 (by decide) ?_
    obtain ⟨g7, hF⟩ := gA_s hF
    refine r_iast (w2 := [(q_, .inr (9, [.int u_people, .ref q_owes, .ref q_denies, .int u_debts, .ref q_debt, .int u_cuts, .ref q_cut, .int u_seen, .ref q_sight, .int u_events, .ref q_event, .int u_inBook, .ref q_book, .int u_texted, .ref q_text, .ref q_path, .int u_rule, .int u_rings, .int u_size, .int u_least, .long u_worth, .ref q_ring, .ref q_balance, .ref q_left, .ref q_sum, .ref q_parts, .int u_groups, .ref q_group, .int u_paid, .ref q_payment, .ref q_then, .int u_imaged, .ref q_image, .ref q_tapeSort, .ref q_tapeSize, .ref q_items])), (q_owes, .inl (C 0, 36, .inl u_owes)), (q_balance, .inl (C 0, 6, .inl z1)), (q_sum, .inl (C 0, 64, .inl (upd u_sum (0 : Int32).toNatClampNeg 0))), (q_parts, .inl (C 0, 64, .inl (upd u_parts (0 : Int32).toNatClampNeg 0))), (q_group, .inl (C 0, 3, .inl u_group))]) cx hw 4 rfl g7 dX9_groups_50 rfl (fun H locs hw => ?_)
    refine lv_iconst (v := 1) hx hb dX9_groups_51 (by decide) ?_
    refine lv_istore_n (lv' := [(2, .int 1), (0, .ref q_), (1, .int x1_5)]) hx hb dX9_groups_52 rfl hl (by decide) rfl (fun ls hl => ?_)
    refine LX9_groups_53 cx hret (fun u_sum_26 u_parts_26 H locs ls hF hw hl => ?_) 400 1 (upd u_sum (0 : Int32).toNatClampNeg 0) (upd u_parts (0 : Int32).toNatClampNeg 0) H locs ls hF hw (lv_sub hl [1, 2, 0] rfl)
    · refine lv_aload_n hx hb dX9_groups_198 rfl (lv_at hl 0 rfl) ?_
      refine lv_iconst (v := 0) hx hb dX9_groups_199 (by decide) ?_
      refine r_put (ci := 9) (w2 := [(q_, .inr (9, [.int u_people, .ref q_owes, .ref q_denies, .int u_debts, .ref q_debt, .int u_cuts, .ref q_cut, .int u_seen, .ref q_sight, .int u_events, .ref q_event, .int u_inBook, .ref q_book, .int u_texted, .ref q_text, .ref q_path, .int u_rule, .int u_rings, .int u_size, .int u_least, .long u_worth, .ref q_ring, .ref q_balance, .ref q_left, .ref q_sum, .ref q_parts, .int 0, .ref q_group, .int u_paid, .ref q_payment, .ref q_then, .int u_imaged, .ref q_image, .ref q_tapeSort, .ref q_tapeSize, .ref q_items])), (q_owes, .inl (C 0, 36, .inl u_owes)), (q_balance, .inl (C 0, 6, .inl z1)), (q_sum, .inl (C 0, 64, .inl u_sum_26)), (q_parts, .inl (C 0, 64, .inl u_parts_26)), (q_group, .inl (C 0, 3, .inl u_group))]) cx hw iX9 tyX9_ok nmX9 0 26 rfl rfl (by decide) wf_X9_181 rfl rfl rfl rfl (Nat.le_of_ble_eq_true rfl) dX9_groups_200 rfl (fun H locs hw => ?_)
      refine lv_iload_n hx hb dX9_groups_203 rfl (lv_at hl 1 rfl) ?_
      refine lv_istore_n (lv' := [(2, .int x1_5), (0, .ref q_), (1, .int x1_5)]) hx hb dX9_groups_204 rfl hl (by decide) rfl (fun ls hl => ?_)
      refine LX9_groups_205 cx hret 400 x1_5 0 u_group H locs ls hF hw (lv_sub hl [1, 0] rfl)
theorem lk_X9_184 : Cond.methodLink RX9 184 yX9_groups ∈ gdt := gdt_of 1076 (by decide +kernel) (by decide +kernel)
theorem my_X9_groups : (yX9_groups.cls ≠ "java/lang/invoke/MethodHandle" ∧ yX9_groups.cls ≠ "java/lang/invoke/VarHandle") ∧ Cond.instanceMethod yX9_groups ∈ gdt ∧ Cond.selects yX9_groups.cls yX9_groups yX9_groups ∈ gdt ∧ Cond.initialized yX9_groups.cls ∈ gdt ∧ Cond.code yX9_groups cX9_groups 6 none ∈ gdt := ⟨⟨by decide +kernel, by decide +kernel⟩, gdt_of 1078 (by decide +kernel) (by decide +kernel), gdt_of 47 (by decide +kernel) (by decide +kernel), gdt_of 77 (by decide +kernel) (by decide +kernel), gdt_of 1079 (by decide +kernel) (by decide +kernel)⟩
theorem ml_X9_groups : (parseMethodDescriptor yX9_groups.desc).map (fun d => d.parameters.length) = some 0 := by decide +kernel
theorem dX9_group_0 : decode cX9_group 0 = .ok (.aload_n 0, 1) := by decide +kernel
theorem dX9_group_1 : decode cX9_group 1 = .ok (.invokevirtual 184, 3) := by decide +kernel
theorem dX9_group_4 : decode cX9_group 4 = .ok (.iload_n 1, 1) := by decide +kernel
theorem dX9_group_5 : decode cX9_group 5 = .ok (.iconst 0, 1) := by decide +kernel
theorem dX9_group_6 : decode cX9_group 6 = .ok (.aload_n 0, 1) := by decide +kernel
theorem dX9_group_7 : decode cX9_group 7 = .ok (.getfield 181, 3) := by decide +kernel
theorem dX9_group_10 : decode cX9_group 10 = .ok (.iconst 1, 1) := by decide +kernel
theorem dX9_group_11 : decode cX9_group 11 = .ok (.isub, 1) := by decide +kernel
theorem dX9_group_12 : decode cX9_group 12 = .ok (.invokestatic 80, 3) := by decide +kernel
theorem dX9_group_15 : decode cX9_group 15 = .ok (.ifCond .eq 12, 3) := by decide +kernel
theorem dX9_group_18 : decode cX9_group 18 = .ok (.aload_n 0, 1) := by decide +kernel
theorem dX9_group_19 : decode cX9_group 19 = .ok (.getfield 54, 3) := by decide +kernel
theorem dX9_group_22 : decode cX9_group 22 = .ok (.iload_n 1, 1) := by decide +kernel
theorem dX9_group_23 : decode cX9_group 23 = .ok (.iaload, 1) := by decide +kernel
theorem dX9_group_24 : decode cX9_group 24 = .ok (.goto 4, 3) := by decide +kernel
theorem dX9_group_27 : decode cX9_group 27 = .ok (.iconst (-1), 1) := by decide +kernel
theorem dX9_group_28 : decode cX9_group 28 = .ok (.ireturn, 1) := by decide +kernel
def fX9_group (u_people : Int32) (u_owes : (Nat → Int32)) (u_balance : (Nat → Int32)) (u_sum : (Nat → Int32)) (u_parts : (Nat → Int32)) (u_group : (Nat → Int32)) (x1 : Int32) : Option (Int32 × Int32 × (Nat → Int32) × (Nat → Int32) × (Nat → Int32) × (Nat → Int32)) := (fX9_groups u_people u_owes u_balance u_sum u_parts u_group).bind (fun z1 => (fX9_within x1 0 (z1.1 - 1)).bind (fun z2 => if z2 = 0 then (some ((-1), z1.1, z1.2.1, z1.2.2.1, z1.2.2.2.1, z1.2.2.2.2)) else (gA x1 3 (some (z1.2.2.2.2 (x1).toNatClampNeg, z1.1, z1.2.1, z1.2.2.1, z1.2.2.2.1, z1.2.2.2.2)))))
set_option maxRecDepth 20000 in
theorem CX9_group (l : Launch) (D : va_G) (C : Nat → ClassId) (q_ q_owes q_denies q_debt q_cut q_sight q_event q_book q_text q_path q_ring q_balance q_left q_sum q_parts q_group q_payment q_then q_image q_tapeSort q_tapeSize q_items : Nat) (u_people : Int32) (u_debts : Int32) (u_cuts : Int32) (u_seen : Int32) (u_events : Int32) (u_inBook : Int32) (u_texted : Int32) (u_rule : Int32) (u_rings : Int32) (u_size : Int32) (u_least : Int32) (u_worth : Int64) (u_groups : Int32) (u_paid : Int32) (u_imaged : Int32) (u_owes : (Nat → Int32)) (u_balance : (Nat → Int32)) (u_sum : (Nat → Int32)) (u_parts : (Nat → Int32)) (u_group : (Nat → Int32)) (x1 : Int32) (z : (Int32 × Int32 × (Nat → Int32) × (Nat → Int32) × (Nat → Int32) × (Nat → Int32))) (hF : fX9_group u_people u_owes u_balance u_sum u_parts u_group x1 = some z) : Ct l yX9_group cX9_group 2 (some .int) 3 D C [.ref q_, .int x1] [(q_, .inr (9, [.int u_people, .ref q_owes, .ref q_denies, .int u_debts, .ref q_debt, .int u_cuts, .ref q_cut, .int u_seen, .ref q_sight, .int u_events, .ref q_event, .int u_inBook, .ref q_book, .int u_texted, .ref q_text, .ref q_path, .int u_rule, .int u_rings, .int u_size, .int u_least, .long u_worth, .ref q_ring, .ref q_balance, .ref q_left, .ref q_sum, .ref q_parts, .int u_groups, .ref q_group, .int u_paid, .ref q_payment, .ref q_then, .int u_imaged, .ref q_image, .ref q_tapeSort, .ref q_tapeSize, .ref q_items])), (q_owes, .inl (C 0, 36, .inl u_owes)), (q_balance, .inl (C 0, 6, .inl u_balance)), (q_sum, .inl (C 0, 64, .inl u_sum)), (q_parts, .inl (C 0, 64, .inl u_parts)), (q_group, .inl (C 0, 3, .inl u_group))] [(q_, .inr (9, [.int u_people, .ref q_owes, .ref q_denies, .int u_debts, .ref q_debt, .int u_cuts, .ref q_cut, .int u_seen, .ref q_sight, .int u_events, .ref q_event, .int u_inBook, .ref q_book, .int u_texted, .ref q_text, .ref q_path, .int u_rule, .int u_rings, .int u_size, .int u_least, .long u_worth, .ref q_ring, .ref q_balance, .ref q_left, .ref q_sum, .ref q_parts, .int z.2.1, .ref q_group, .int u_paid, .ref q_payment, .ref q_then, .int u_imaged, .ref q_image, .ref q_tapeSort, .ref q_tapeSize, .ref q_items])), (q_owes, .inl (C 0, 36, .inl u_owes)), (q_balance, .inl (C 0, 6, .inl z.2.2.1)), (q_sum, .inl (C 0, 64, .inl z.2.2.2.1)), (q_parts, .inl (C 0, 64, .inl z.2.2.2.2.1)), (q_group, .inl (C 0, 3, .inl z.2.2.2.2.2))] (some (.int z.1)) := by
  refine Ct_of (by decide) (Nat.le_of_ble_eq_true rfl) ?_
  intro p e R s m args below meth c A Q H locs ls cx hw hl hret
  have cx : CX p m c s args RX9 cX9_group 2 D C A R 3 := cx
  have hx := cx.1
  have hb := cx.2.1
  have hl : lv_has ls 2 [(0, .ref q_), (1, .int x1)] := hl
  rw [fX9_group.eq_1] at hF
  refine lv_aload_n hx hb dX9_group_0 rfl (lv_at hl 0 rfl) ?_
  obtain ⟨z1, hz1, hF⟩ := ob hF
  refine cV (wr := []) (w2 := [(q_, .inr (9, [.int u_people, .ref q_owes, .ref q_denies, .int u_debts, .ref q_debt, .int u_cuts, .ref q_cut, .int u_seen, .ref q_sight, .int u_events, .ref q_event, .int u_inBook, .ref q_book, .int u_texted, .ref q_text, .ref q_path, .int u_rule, .int u_rings, .int u_size, .int u_least, .long u_worth, .ref q_ring, .ref q_balance, .ref q_left, .ref q_sum, .ref q_parts, .int z1.1, .ref q_group, .int u_paid, .ref q_payment, .ref q_then, .int u_imaged, .ref q_image, .ref q_tapeSort, .ref q_tapeSize, .ref q_items])), (q_owes, .inl (C 0, 36, .inl u_owes)), (q_balance, .inl (C 0, 6, .inl z1.2.1)), (q_sum, .inl (C 0, 64, .inl z1.2.2.1)), (q_parts, .inl (C 0, 64, .inl z1.2.2.2.1)), (q_group, .inl (C 0, 3, .inl z1.2.2.2.2))]) (st2 := []) cx (CX9_groups l D C q_ q_owes q_denies q_debt q_cut q_sight q_event q_book q_text q_path q_ring q_balance q_left q_sum q_parts q_group q_payment q_then q_image q_tapeSort q_tapeSize q_items u_people u_debts u_cuts u_seen u_events u_inBook u_texted u_rule u_rings u_size u_least u_worth u_groups u_paid u_imaged u_owes u_balance u_sum u_parts u_group z1 hz1) lk_X9_184 my_X9_groups ml_X9_groups ⟨by decide, by decide⟩ hw [0, 1, 2, 3, 4, 5] [] [0, 1, 2, 3, 4, 5] rfl rfl (by decide) rfl rfl rfl rfl (Nat.le_of_ble_eq_true rfl) dX9_group_1 rfl (fun H locs hw => ?_) hl.1
  refine lv_iload_n hx hb dX9_group_4 rfl (lv_at hl 1 rfl) ?_
  refine lv_iconst (v := 0) hx hb dX9_group_5 (by decide) ?_
  refine lv_aload_n hx hb dX9_group_6 rfl (lv_at hl 0 rfl) ?_
  refine r_get (ci := 9) (v := .int z1.1) cx hw iX9 0 26 rfl rfl (by decide) wf_X9_181 rfl dX9_group_7 ?_
  refine lv_iconst (v := 1) hx hb dX9_group_10 (by decide) ?_
  refine lv_isub hx hb dX9_group_11 ?_
  obtain ⟨z2, hz2, hF⟩ := ob hF
  refine cS (wr := [(q_, .inr (9, [.int u_people, .ref q_owes, .ref q_denies, .int u_debts, .ref q_debt, .int u_cuts, .ref q_cut, .int u_seen, .ref q_sight, .int u_events, .ref q_event, .int u_inBook, .ref q_book, .int u_texted, .ref q_text, .ref q_path, .int u_rule, .int u_rings, .int u_size, .int u_least, .long u_worth, .ref q_ring, .ref q_balance, .ref q_left, .ref q_sum, .ref q_parts, .int z1.1, .ref q_group, .int u_paid, .ref q_payment, .ref q_then, .int u_imaged, .ref q_image, .ref q_tapeSort, .ref q_tapeSize, .ref q_items])), (q_owes, .inl (C 0, 36, .inl u_owes)), (q_balance, .inl (C 0, 6, .inl z1.2.1)), (q_sum, .inl (C 0, 64, .inl z1.2.2.1)), (q_parts, .inl (C 0, 64, .inl z1.2.2.2.1)), (q_group, .inl (C 0, 3, .inl z1.2.2.2.2))]) (w2 := [(q_, .inr (9, [.int u_people, .ref q_owes, .ref q_denies, .int u_debts, .ref q_debt, .int u_cuts, .ref q_cut, .int u_seen, .ref q_sight, .int u_events, .ref q_event, .int u_inBook, .ref q_book, .int u_texted, .ref q_text, .ref q_path, .int u_rule, .int u_rings, .int u_size, .int u_least, .long u_worth, .ref q_ring, .ref q_balance, .ref q_left, .ref q_sum, .ref q_parts, .int z1.1, .ref q_group, .int u_paid, .ref q_payment, .ref q_then, .int u_imaged, .ref q_image, .ref q_tapeSort, .ref q_tapeSize, .ref q_items])), (q_owes, .inl (C 0, 36, .inl u_owes)), (q_balance, .inl (C 0, 6, .inl z1.2.1)), (q_sum, .inl (C 0, 64, .inl z1.2.2.1)), (q_parts, .inl (C 0, 64, .inl z1.2.2.2.1)), (q_group, .inl (C 0, 3, .inl z1.2.2.2.2))]) (st2 := [.int z2]) cx (CX9_within l D C x1 0 (z1.1 - 1) z2 hz2) lk_X9_80 my_X9_within ml_X9_within ⟨by decide, by decide⟩ hw [] [0, 1, 2, 3, 4, 5] [0, 1, 2, 3, 4, 5] rfl rfl (by decide) rfl rfl (Nat.le_of_ble_eq_true rfl) dX9_group_12 rfl (fun H locs hw => ?_) hl.1
  refine lv_if_eq (tgt := 27) hx hb dX9_group_15 (by decide) (fun c3 => ?_) (fun c3 => ?_)
  · replace hF := oi_t c3 hF
    refine lv_iconst (v := (-1)) hx hb dX9_group_27 (by decide) ?_
    obtain rfl := Option.some.inj hF
    exact rt_i hret hw rfl dX9_group_28
  · replace hF := oi_f c3 hF
    refine lv_aload_n hx hb dX9_group_18 rfl (lv_at hl 0 rfl) ?_
    refine r_get (ci := 9) (v := .ref q_group) cx hw iX9 0 27 rfl rfl (by decide) wf_X9_54 rfl dX9_group_19 ?_
    refine lv_iload_n hx hb dX9_group_22 rfl (lv_at hl 1 rfl) ?_
    obtain ⟨g4, hF⟩ := gA_s hF
    refine r_iald cx hw 5 rfl g4 dX9_group_23 ?_
    refine lv_goto (tgt := 28) hx hb dX9_group_24 (by decide) ?_
    obtain rfl := Option.some.inj hF
    exact rt_i hret hw rfl dX9_group_28
theorem wf_X9_45 : Cond.fieldLink RX9 45 (TX9 23).1 (TX9 23).2.1 (TX9 23).2.2.1 ∈ gdt := gdt_of 863 (by decide +kernel) (by decide +kernel)
theorem wf_X9_57 : Cond.fieldLink RX9 57 (TX9 29).1 (TX9 29).2.1 (TX9 29).2.2.1 ∈ gdt := gdt_of 869 (by decide +kernel) (by decide +kernel)
theorem wf_X9_186 : Cond.fieldLink RX9 186 (TX9 28).1 (TX9 28).2.1 (TX9 28).2.2.1 ∈ gdt := gdt_of 868 (by decide +kernel) (by decide +kernel)
theorem dX9_pays_0 : decode cX9_pays 0 = .ok (.aload_n 0, 1) := by decide +kernel
theorem dX9_pays_1 : decode cX9_pays 1 = .ok (.getfield 45, 3) := by decide +kernel
theorem dX9_pays_4 : decode cX9_pays 4 = .ok (.iload_n 1, 1) := by decide +kernel
theorem dX9_pays_5 : decode cX9_pays 5 = .ok (.iaload, 1) := by decide +kernel
theorem dX9_pays_6 : decode cX9_pays 6 = .ok (.ineg, 1) := by decide +kernel
theorem dX9_pays_7 : decode cX9_pays 7 = .ok (.aload_n 0, 1) := by decide +kernel
theorem dX9_pays_8 : decode cX9_pays 8 = .ok (.getfield 45, 3) := by decide +kernel
theorem dX9_pays_11 : decode cX9_pays 11 = .ok (.iload_n 2, 1) := by decide +kernel
theorem dX9_pays_12 : decode cX9_pays 12 = .ok (.iaload, 1) := by decide +kernel
theorem dX9_pays_13 : decode cX9_pays 13 = .ok (.if_icmp .ge 13, 3) := by decide +kernel
theorem dX9_pays_16 : decode cX9_pays 16 = .ok (.aload_n 0, 1) := by decide +kernel
theorem dX9_pays_17 : decode cX9_pays 17 = .ok (.getfield 45, 3) := by decide +kernel
theorem dX9_pays_20 : decode cX9_pays 20 = .ok (.iload_n 1, 1) := by decide +kernel
theorem dX9_pays_21 : decode cX9_pays 21 = .ok (.iaload, 1) := by decide +kernel
theorem dX9_pays_22 : decode cX9_pays 22 = .ok (.ineg, 1) := by decide +kernel
theorem dX9_pays_23 : decode cX9_pays 23 = .ok (.goto 9, 3) := by decide +kernel
theorem dX9_pays_26 : decode cX9_pays 26 = .ok (.aload_n 0, 1) := by decide +kernel
theorem dX9_pays_27 : decode cX9_pays 27 = .ok (.getfield 45, 3) := by decide +kernel
theorem dX9_pays_30 : decode cX9_pays 30 = .ok (.iload_n 2, 1) := by decide +kernel
theorem dX9_pays_31 : decode cX9_pays 31 = .ok (.iaload, 1) := by decide +kernel
theorem dX9_pays_32 : decode cX9_pays 32 = .ok (.istore_n 3, 1) := by decide +kernel
theorem dX9_pays_33 : decode cX9_pays 33 = .ok (.aload_n 0, 1) := by decide +kernel
theorem dX9_pays_34 : decode cX9_pays 34 = .ok (.getfield 57, 3) := by decide +kernel
theorem dX9_pays_37 : decode cX9_pays 37 = .ok (.iconst 3, 1) := by decide +kernel
theorem dX9_pays_38 : decode cX9_pays 38 = .ok (.aload_n 0, 1) := by decide +kernel
theorem dX9_pays_39 : decode cX9_pays 39 = .ok (.getfield 186, 3) := by decide +kernel
theorem dX9_pays_42 : decode cX9_pays 42 = .ok (.imul, 1) := by decide +kernel
theorem dX9_pays_43 : decode cX9_pays 43 = .ok (.iload_n 1, 1) := by decide +kernel
theorem dX9_pays_44 : decode cX9_pays 44 = .ok (.iastore, 1) := by decide +kernel
theorem dX9_pays_45 : decode cX9_pays 45 = .ok (.aload_n 0, 1) := by decide +kernel
theorem dX9_pays_46 : decode cX9_pays 46 = .ok (.getfield 57, 3) := by decide +kernel
theorem dX9_pays_49 : decode cX9_pays 49 = .ok (.iconst 3, 1) := by decide +kernel
theorem dX9_pays_50 : decode cX9_pays 50 = .ok (.aload_n 0, 1) := by decide +kernel
theorem dX9_pays_51 : decode cX9_pays 51 = .ok (.getfield 186, 3) := by decide +kernel
theorem dX9_pays_54 : decode cX9_pays 54 = .ok (.imul, 1) := by decide +kernel
theorem dX9_pays_55 : decode cX9_pays 55 = .ok (.iconst 1, 1) := by decide +kernel
theorem dX9_pays_56 : decode cX9_pays 56 = .ok (.iadd, 1) := by decide +kernel
theorem dX9_pays_57 : decode cX9_pays 57 = .ok (.iload_n 2, 1) := by decide +kernel
theorem dX9_pays_58 : decode cX9_pays 58 = .ok (.iastore, 1) := by decide +kernel
theorem dX9_pays_59 : decode cX9_pays 59 = .ok (.aload_n 0, 1) := by decide +kernel
theorem dX9_pays_60 : decode cX9_pays 60 = .ok (.getfield 57, 3) := by decide +kernel
theorem dX9_pays_63 : decode cX9_pays 63 = .ok (.iconst 3, 1) := by decide +kernel
theorem dX9_pays_64 : decode cX9_pays 64 = .ok (.aload_n 0, 1) := by decide +kernel
theorem dX9_pays_65 : decode cX9_pays 65 = .ok (.getfield 186, 3) := by decide +kernel
theorem dX9_pays_68 : decode cX9_pays 68 = .ok (.imul, 1) := by decide +kernel
theorem dX9_pays_69 : decode cX9_pays 69 = .ok (.iconst 2, 1) := by decide +kernel
theorem dX9_pays_70 : decode cX9_pays 70 = .ok (.iadd, 1) := by decide +kernel
theorem dX9_pays_71 : decode cX9_pays 71 = .ok (.iload_n 3, 1) := by decide +kernel
theorem dX9_pays_72 : decode cX9_pays 72 = .ok (.iastore, 1) := by decide +kernel
theorem dX9_pays_73 : decode cX9_pays 73 = .ok (.aload_n 0, 1) := by decide +kernel
theorem dX9_pays_74 : decode cX9_pays 74 = .ok (.dup, 1) := by decide +kernel
theorem dX9_pays_75 : decode cX9_pays 75 = .ok (.getfield 186, 3) := by decide +kernel
theorem dX9_pays_78 : decode cX9_pays 78 = .ok (.iconst 1, 1) := by decide +kernel
theorem dX9_pays_79 : decode cX9_pays 79 = .ok (.iadd, 1) := by decide +kernel
theorem dX9_pays_80 : decode cX9_pays 80 = .ok (.putfield 186, 3) := by decide +kernel
theorem dX9_pays_83 : decode cX9_pays 83 = .ok (.aload_n 0, 1) := by decide +kernel
theorem dX9_pays_84 : decode cX9_pays 84 = .ok (.getfield 45, 3) := by decide +kernel
theorem dX9_pays_87 : decode cX9_pays 87 = .ok (.iload_n 1, 1) := by decide +kernel
theorem dX9_pays_88 : decode cX9_pays 88 = .ok (.dup2, 1) := by decide +kernel
theorem dX9_pays_89 : decode cX9_pays 89 = .ok (.iaload, 1) := by decide +kernel
theorem dX9_pays_90 : decode cX9_pays 90 = .ok (.iload_n 3, 1) := by decide +kernel
theorem dX9_pays_91 : decode cX9_pays 91 = .ok (.iadd, 1) := by decide +kernel
theorem dX9_pays_92 : decode cX9_pays 92 = .ok (.iastore, 1) := by decide +kernel
theorem dX9_pays_93 : decode cX9_pays 93 = .ok (.aload_n 0, 1) := by decide +kernel
theorem dX9_pays_94 : decode cX9_pays 94 = .ok (.getfield 45, 3) := by decide +kernel
theorem dX9_pays_97 : decode cX9_pays 97 = .ok (.iload_n 2, 1) := by decide +kernel
theorem dX9_pays_98 : decode cX9_pays 98 = .ok (.dup2, 1) := by decide +kernel
theorem dX9_pays_99 : decode cX9_pays 99 = .ok (.iaload, 1) := by decide +kernel
theorem dX9_pays_100 : decode cX9_pays 100 = .ok (.iload_n 3, 1) := by decide +kernel
theorem dX9_pays_101 : decode cX9_pays 101 = .ok (.isub, 1) := by decide +kernel
theorem dX9_pays_102 : decode cX9_pays 102 = .ok (.iastore, 1) := by decide +kernel
theorem dX9_pays_103 : decode cX9_pays 103 = .ok (.return_, 1) := by decide +kernel
def fX9_pays (u_paid : Int32) (u_left : (Nat → Int32)) (u_payment : (Nat → Int32)) (x1 : Int32) (x2 : Int32) : Option (Int32 × (Nat → Int32) × (Nat → Int32)) := gA x1 6 (gA x2 6 (jn (fun (y32_0 : Int32) => gA (3 * u_paid) 30 (gA ((3 * u_paid) + 1) 30 (gA ((3 * u_paid) + 2) 30 (gA x1 6 (gA x1 6 (gA x2 6 (gA x2 6 (some (u_paid + 1, upd (upd u_left (x1 : Int32).toNatClampNeg ((u_left (x1).toNatClampNeg) + y32_0)) (x2 : Int32).toNatClampNeg (((upd u_left (x1 : Int32).toNatClampNeg ((u_left (x1).toNatClampNeg) + y32_0)) (x2).toNatClampNeg) - y32_0), upd (upd (upd u_payment (3 * u_paid : Int32).toNatClampNeg x1) ((3 * u_paid) + 1 : Int32).toNatClampNeg x2) ((3 * u_paid) + 2 : Int32).toNatClampNeg y32_0))))))))) (fun j32 => if (u_left (x2).toNatClampNeg) ≤ (-(u_left (x1).toNatClampNeg)) then (gA x2 6 (j32 (u_left (x2).toNatClampNeg))) else (gA x1 6 (j32 (-(u_left (x1).toNatClampNeg)))))))
set_option maxRecDepth 20000 in
theorem CX9_pays (l : Launch) (D : va_G) (C : Nat → ClassId) (q_ q_owes q_denies q_debt q_cut q_sight q_event q_book q_text q_path q_ring q_balance q_left q_sum q_parts q_group q_payment q_then q_image q_tapeSort q_tapeSize q_items : Nat) (u_people : Int32) (u_debts : Int32) (u_cuts : Int32) (u_seen : Int32) (u_events : Int32) (u_inBook : Int32) (u_texted : Int32) (u_rule : Int32) (u_rings : Int32) (u_size : Int32) (u_least : Int32) (u_worth : Int64) (u_groups : Int32) (u_paid : Int32) (u_imaged : Int32) (u_left : (Nat → Int32)) (u_payment : (Nat → Int32)) (x1 : Int32) (x2 : Int32) (z : (Int32 × (Nat → Int32) × (Nat → Int32))) (hF : fX9_pays u_paid u_left u_payment x1 x2 = some z) : Ct l yX9_pays cX9_pays 4 none 1 D C [.ref q_, .int x1, .int x2] [(q_, .inr (9, [.int u_people, .ref q_owes, .ref q_denies, .int u_debts, .ref q_debt, .int u_cuts, .ref q_cut, .int u_seen, .ref q_sight, .int u_events, .ref q_event, .int u_inBook, .ref q_book, .int u_texted, .ref q_text, .ref q_path, .int u_rule, .int u_rings, .int u_size, .int u_least, .long u_worth, .ref q_ring, .ref q_balance, .ref q_left, .ref q_sum, .ref q_parts, .int u_groups, .ref q_group, .int u_paid, .ref q_payment, .ref q_then, .int u_imaged, .ref q_image, .ref q_tapeSort, .ref q_tapeSize, .ref q_items])), (q_left, .inl (C 0, 6, .inl u_left)), (q_payment, .inl (C 0, 30, .inl u_payment))] [(q_, .inr (9, [.int u_people, .ref q_owes, .ref q_denies, .int u_debts, .ref q_debt, .int u_cuts, .ref q_cut, .int u_seen, .ref q_sight, .int u_events, .ref q_event, .int u_inBook, .ref q_book, .int u_texted, .ref q_text, .ref q_path, .int u_rule, .int u_rings, .int u_size, .int u_least, .long u_worth, .ref q_ring, .ref q_balance, .ref q_left, .ref q_sum, .ref q_parts, .int u_groups, .ref q_group, .int z.1, .ref q_payment, .ref q_then, .int u_imaged, .ref q_image, .ref q_tapeSort, .ref q_tapeSize, .ref q_items])), (q_left, .inl (C 0, 6, .inl z.2.1)), (q_payment, .inl (C 0, 30, .inl z.2.2))] none := by
  refine Ct_of (by decide) (Nat.le_of_ble_eq_true rfl) ?_
  intro p e R s m args below meth c A Q H locs ls cx hw hl hret
  have cx : CX p m c s args RX9 cX9_pays 4 D C A R 1 := cx
  have hx := cx.1
  have hb := cx.2.1
  have hl : lv_has ls 4 [(0, .ref q_), (1, .int x1), (2, .int x2)] := hl
  rw [fX9_pays.eq_1] at hF
  refine lv_aload_n hx hb dX9_pays_0 rfl (lv_at hl 0 rfl) ?_
  refine r_get (ci := 9) (v := .ref q_left) cx hw iX9 0 23 rfl rfl (by decide) wf_X9_45 rfl dX9_pays_1 ?_
  refine lv_iload_n hx hb dX9_pays_4 rfl (lv_at hl 1 rfl) ?_
  obtain ⟨g1, hF⟩ := gA_s hF
  refine r_iald cx hw 1 rfl g1 dX9_pays_5 ?_
  refine lv_ineg hx hb dX9_pays_6 ?_
  refine lv_aload_n hx hb dX9_pays_7 rfl (lv_at hl 0 rfl) ?_
  refine r_get (ci := 9) (v := .ref q_left) cx hw iX9 0 23 rfl rfl (by decide) wf_X9_45 rfl dX9_pays_8 ?_
  refine lv_iload_n hx hb dX9_pays_11 rfl (lv_at hl 2 rfl) ?_
  obtain ⟨g2, hF⟩ := gA_s hF
  refine r_iald cx hw 1 rfl g2 dX9_pays_12 ?_
  obtain ⟨j32, ej32, hF⟩ := jn_s hF
  have J32 : ∀ (y32_0 : Int32) (H : Heap) (locs : List Loc) (ls : Array Slot), j32 y32_0 = some z → HW D A s.heap H locs [(q_, .inr (9, [.int u_people, .ref q_owes, .ref q_denies, .int u_debts, .ref q_debt, .int u_cuts, .ref q_cut, .int u_seen, .ref q_sight, .int u_events, .ref q_event, .int u_inBook, .ref q_book, .int u_texted, .ref q_text, .ref q_path, .int u_rule, .int u_rings, .int u_size, .int u_least, .long u_worth, .ref q_ring, .ref q_balance, .ref q_left, .ref q_sum, .ref q_parts, .int u_groups, .ref q_group, .int u_paid, .ref q_payment, .ref q_then, .int u_imaged, .ref q_image, .ref q_tapeSort, .ref q_tapeSize, .ref q_items])), (q_left, .inl (C 0, 6, .inl u_left)), (q_payment, .inl (C 0, 30, .inl u_payment))] → lv_has ls 4 [(0, .ref q_), (1, .int x1), (2, .int x2)] → W p l e R s m args below meth c H locs 0 0 Q (F0 m 32 ls [.int y32_0]) := by
    intro y32_0 H locs ls hF hw hl
    rw [ej32] at hF
    refine lv_istore_n (lv' := [(3, .int y32_0), (0, .ref q_), (1, .int x1), (2, .int x2)]) hx hb dX9_pays_32 rfl hl (by decide) rfl (fun ls hl => ?_)
    refine lv_aload_n hx hb dX9_pays_33 rfl (lv_at hl 1 rfl) ?_
    refine r_get (ci := 9) (v := .ref q_payment) cx hw iX9 0 29 rfl rfl (by decide) wf_X9_57 rfl dX9_pays_34 ?_
    refine lv_iconst (v := 3) hx hb dX9_pays_37 (by decide) ?_
    refine lv_aload_n hx hb dX9_pays_38 rfl (lv_at hl 1 rfl) ?_
    refine r_get (ci := 9) (v := .int u_paid) cx hw iX9 0 28 rfl rfl (by decide) wf_X9_186 rfl dX9_pays_39 ?_
    refine lv_imul hx hb dX9_pays_42 ?_
    refine lv_iload_n hx hb dX9_pays_43 rfl (lv_at hl 2 rfl) ?_
    obtain ⟨g3, hF⟩ := gA_s hF
    refine r_iast (w2 := [(q_, .inr (9, [.int u_people, .ref q_owes, .ref q_denies, .int u_debts, .ref q_debt, .int u_cuts, .ref q_cut, .int u_seen, .ref q_sight, .int u_events, .ref q_event, .int u_inBook, .ref q_book, .int u_texted, .ref q_text, .ref q_path, .int u_rule, .int u_rings, .int u_size, .int u_least, .long u_worth, .ref q_ring, .ref q_balance, .ref q_left, .ref q_sum, .ref q_parts, .int u_groups, .ref q_group, .int u_paid, .ref q_payment, .ref q_then, .int u_imaged, .ref q_image, .ref q_tapeSort, .ref q_tapeSize, .ref q_items])), (q_left, .inl (C 0, 6, .inl u_left)), (q_payment, .inl (C 0, 30, .inl (upd u_payment (3 * u_paid : Int32).toNatClampNeg x1)))]) cx hw 2 rfl g3 dX9_pays_44 rfl (fun H locs hw => ?_)
    refine lv_aload_n hx hb dX9_pays_45 rfl (lv_at hl 1 rfl) ?_
    refine r_get (ci := 9) (v := .ref q_payment) cx hw iX9 0 29 rfl rfl (by decide) wf_X9_57 rfl dX9_pays_46 ?_
    refine lv_iconst (v := 3) hx hb dX9_pays_49 (by decide) ?_
    refine lv_aload_n hx hb dX9_pays_50 rfl (lv_at hl 1 rfl) ?_
    refine r_get (ci := 9) (v := .int u_paid) cx hw iX9 0 28 rfl rfl (by decide) wf_X9_186 rfl dX9_pays_51 ?_
    refine lv_imul hx hb dX9_pays_54 ?_
    refine lv_iconst (v := 1) hx hb dX9_pays_55 (by decide) ?_
    refine lv_iadd hx hb dX9_pays_56 ?_
    refine lv_iload_n hx hb dX9_pays_57 rfl (lv_at hl 3 rfl) ?_
    obtain ⟨g4, hF⟩ := gA_s hF
    refine r_iast (w2 := [(q_, .inr (9, [.int u_people, .ref q_owes, .ref q_denies, .int u_debts, .ref q_debt, .int u_cuts, .ref q_cut, .int u_seen, .ref q_sight, .int u_events, .ref q_event, .int u_inBook, .ref q_book, .int u_texted, .ref q_text, .ref q_path, .int u_rule, .int u_rings, .int u_size, .int u_least, .long u_worth, .ref q_ring, .ref q_balance, .ref q_left, .ref q_sum, .ref q_parts, .int u_groups, .ref q_group, .int u_paid, .ref q_payment, .ref q_then, .int u_imaged, .ref q_image, .ref q_tapeSort, .ref q_tapeSize, .ref q_items])), (q_left, .inl (C 0, 6, .inl u_left)), (q_payment, .inl (C 0, 30, .inl (upd (upd u_payment (3 * u_paid : Int32).toNatClampNeg x1) ((3 * u_paid) + 1 : Int32).toNatClampNeg x2)))]) cx hw 2 rfl g4 dX9_pays_58 rfl (fun H locs hw => ?_)
    refine lv_aload_n hx hb dX9_pays_59 rfl (lv_at hl 1 rfl) ?_
    refine r_get (ci := 9) (v := .ref q_payment) cx hw iX9 0 29 rfl rfl (by decide) wf_X9_57 rfl dX9_pays_60 ?_
    refine lv_iconst (v := 3) hx hb dX9_pays_63 (by decide) ?_
    refine lv_aload_n hx hb dX9_pays_64 rfl (lv_at hl 1 rfl) ?_
    refine r_get (ci := 9) (v := .int u_paid) cx hw iX9 0 28 rfl rfl (by decide) wf_X9_186 rfl dX9_pays_65 ?_
    refine lv_imul hx hb dX9_pays_68 ?_
    refine lv_iconst (v := 2) hx hb dX9_pays_69 (by decide) ?_
    refine lv_iadd hx hb dX9_pays_70 ?_
    refine lv_iload_n hx hb dX9_pays_71 rfl (lv_at hl 0 rfl) ?_
    obtain ⟨g5, hF⟩ := gA_s hF
    refine r_iast (w2 := [(q_, .inr (9, [.int u_people, .ref q_owes, .ref q_denies, .int u_debts, .ref q_debt, .int u_cuts, .ref q_cut, .int u_seen, .ref q_sight, .int u_events, .ref q_event, .int u_inBook, .ref q_book, .int u_texted, .ref q_text, .ref q_path, .int u_rule, .int u_rings, .int u_size, .int u_least, .long u_worth, .ref q_ring, .ref q_balance, .ref q_left, .ref q_sum, .ref q_parts, .int u_groups, .ref q_group, .int u_paid, .ref q_payment, .ref q_then, .int u_imaged, .ref q_image, .ref q_tapeSort, .ref q_tapeSize, .ref q_items])), (q_left, .inl (C 0, 6, .inl u_left)), (q_payment, .inl (C 0, 30, .inl (upd (upd (upd u_payment (3 * u_paid : Int32).toNatClampNeg x1) ((3 * u_paid) + 1 : Int32).toNatClampNeg x2) ((3 * u_paid) + 2 : Int32).toNatClampNeg y32_0)))]) cx hw 2 rfl g5 dX9_pays_72 rfl (fun H locs hw => ?_)
    refine lv_aload_n hx hb dX9_pays_73 rfl (lv_at hl 1 rfl) ?_
    refine lv_dup hx hb dX9_pays_74 rfl ?_
    refine r_get (ci := 9) (v := .int u_paid) cx hw iX9 0 28 rfl rfl (by decide) wf_X9_186 rfl dX9_pays_75 ?_
    refine lv_iconst (v := 1) hx hb dX9_pays_78 (by decide) ?_
    refine lv_iadd hx hb dX9_pays_79 ?_
    refine r_put (ci := 9) (w2 := [(q_, .inr (9, [.int u_people, .ref q_owes, .ref q_denies, .int u_debts, .ref q_debt, .int u_cuts, .ref q_cut, .int u_seen, .ref q_sight, .int u_events, .ref q_event, .int u_inBook, .ref q_book, .int u_texted, .ref q_text, .ref q_path, .int u_rule, .int u_rings, .int u_size, .int u_least, .long u_worth, .ref q_ring, .ref q_balance, .ref q_left, .ref q_sum, .ref q_parts, .int u_groups, .ref q_group, .int (u_paid + 1), .ref q_payment, .ref q_then, .int u_imaged, .ref q_image, .ref q_tapeSort, .ref q_tapeSize, .ref q_items])), (q_left, .inl (C 0, 6, .inl u_left)), (q_payment, .inl (C 0, 30, .inl (upd (upd (upd u_payment (3 * u_paid : Int32).toNatClampNeg x1) ((3 * u_paid) + 1 : Int32).toNatClampNeg x2) ((3 * u_paid) + 2 : Int32).toNatClampNeg y32_0)))]) cx hw iX9 tyX9_ok nmX9 0 28 rfl rfl (by decide) wf_X9_186 rfl rfl rfl rfl (Nat.le_of_ble_eq_true rfl) dX9_pays_80 rfl (fun H locs hw => ?_)
    refine lv_aload_n hx hb dX9_pays_83 rfl (lv_at hl 1 rfl) ?_
    refine r_get (ci := 9) (v := .ref q_left) cx hw iX9 0 23 rfl rfl (by decide) wf_X9_45 rfl dX9_pays_84 ?_
    refine lv_iload_n hx hb dX9_pays_87 rfl (lv_at hl 2 rfl) ?_
    refine lv_dup2_11 hx hb dX9_pays_88 rfl rfl ?_
    obtain ⟨g6, hF⟩ := gA_s hF
    refine r_iald cx hw 1 rfl g6 dX9_pays_89 ?_
    refine lv_iload_n hx hb dX9_pays_90 rfl (lv_at hl 0 rfl) ?_
    refine lv_iadd hx hb dX9_pays_91 ?_
    obtain ⟨g7, hF⟩ := gA_s hF
    refine r_iast (w2 := [(q_, .inr (9, [.int u_people, .ref q_owes, .ref q_denies, .int u_debts, .ref q_debt, .int u_cuts, .ref q_cut, .int u_seen, .ref q_sight, .int u_events, .ref q_event, .int u_inBook, .ref q_book, .int u_texted, .ref q_text, .ref q_path, .int u_rule, .int u_rings, .int u_size, .int u_least, .long u_worth, .ref q_ring, .ref q_balance, .ref q_left, .ref q_sum, .ref q_parts, .int u_groups, .ref q_group, .int (u_paid + 1), .ref q_payment, .ref q_then, .int u_imaged, .ref q_image, .ref q_tapeSort, .ref q_tapeSize, .ref q_items])), (q_left, .inl (C 0, 6, .inl (upd u_left (x1 : Int32).toNatClampNeg ((u_left (x1).toNatClampNeg) + y32_0)))), (q_payment, .inl (C 0, 30, .inl (upd (upd (upd u_payment (3 * u_paid : Int32).toNatClampNeg x1) ((3 * u_paid) + 1 : Int32).toNatClampNeg x2) ((3 * u_paid) + 2 : Int32).toNatClampNeg y32_0)))]) cx hw 1 rfl g7 dX9_pays_92 rfl (fun H locs hw => ?_)
    refine lv_aload_n hx hb dX9_pays_93 rfl (lv_at hl 1 rfl) ?_
    refine r_get (ci := 9) (v := .ref q_left) cx hw iX9 0 23 rfl rfl (by decide) wf_X9_45 rfl dX9_pays_94 ?_
    refine lv_iload_n hx hb dX9_pays_97 rfl (lv_at hl 3 rfl) ?_
    refine lv_dup2_11 hx hb dX9_pays_98 rfl rfl ?_
    obtain ⟨g8, hF⟩ := gA_s hF
    refine r_iald cx hw 1 rfl g8 dX9_pays_99 ?_
    refine lv_iload_n hx hb dX9_pays_100 rfl (lv_at hl 0 rfl) ?_
    refine lv_isub hx hb dX9_pays_101 ?_
    obtain ⟨g9, hF⟩ := gA_s hF
    refine r_iast (w2 := [(q_, .inr (9, [.int u_people, .ref q_owes, .ref q_denies, .int u_debts, .ref q_debt, .int u_cuts, .ref q_cut, .int u_seen, .ref q_sight, .int u_events, .ref q_event, .int u_inBook, .ref q_book, .int u_texted, .ref q_text, .ref q_path, .int u_rule, .int u_rings, .int u_size, .int u_least, .long u_worth, .ref q_ring, .ref q_balance, .ref q_left, .ref q_sum, .ref q_parts, .int u_groups, .ref q_group, .int (u_paid + 1), .ref q_payment, .ref q_then, .int u_imaged, .ref q_image, .ref q_tapeSort, .ref q_tapeSize, .ref q_items])), (q_left, .inl (C 0, 6, .inl (upd (upd u_left (x1 : Int32).toNatClampNeg ((u_left (x1).toNatClampNeg) + y32_0)) (x2 : Int32).toNatClampNeg (((upd u_left (x1 : Int32).toNatClampNeg ((u_left (x1).toNatClampNeg) + y32_0)) (x2).toNatClampNeg) - y32_0)))), (q_payment, .inl (C 0, 30, .inl (upd (upd (upd u_payment (3 * u_paid : Int32).toNatClampNeg x1) ((3 * u_paid) + 1 : Int32).toNatClampNeg x2) ((3 * u_paid) + 2 : Int32).toNatClampNeg y32_0)))]) cx hw 1 rfl g9 dX9_pays_102 rfl (fun H locs hw => ?_)
    obtain rfl := Option.some.inj hF
    exact rt_v hret hw rfl dX9_pays_103
  refine lv_icmp_ge (tgt := 26) hx hb dX9_pays_13 (by decide) (fun c10 => ?_) (fun c10 => ?_)
  · replace hF := oi_t c10 hF
    refine lv_aload_n hx hb dX9_pays_26 rfl (lv_at hl 0 rfl) ?_
    refine r_get (ci := 9) (v := .ref q_left) cx hw iX9 0 23 rfl rfl (by decide) wf_X9_45 rfl dX9_pays_27 ?_
    refine lv_iload_n hx hb dX9_pays_30 rfl (lv_at hl 2 rfl) ?_
    obtain ⟨g11, hF⟩ := gA_s hF
    refine r_iald cx hw 1 rfl g11 dX9_pays_31 ?_
    exact J32 (u_left (x2).toNatClampNeg) H locs ls hF hw (lv_sub hl [0, 1, 2] rfl)
  · replace hF := oi_f c10 hF
    refine lv_aload_n hx hb dX9_pays_16 rfl (lv_at hl 0 rfl) ?_
    refine r_get (ci := 9) (v := .ref q_left) cx hw iX9 0 23 rfl rfl (by decide) wf_X9_45 rfl dX9_pays_17 ?_
    refine lv_iload_n hx hb dX9_pays_20 rfl (lv_at hl 1 rfl) ?_
    obtain ⟨g12, hF⟩ := gA_s hF
    refine r_iald cx hw 1 rfl g12 dX9_pays_21 ?_
    refine lv_ineg hx hb dX9_pays_22 ?_
    refine lv_goto (tgt := 32) hx hb dX9_pays_23 (by decide) ?_
    exact J32 (-(u_left (x1).toNatClampNeg)) H locs ls hF hw (lv_sub hl [0, 1, 2] rfl)
theorem lk_X9_189 : Cond.methodLink RX9 189 yX9_pays ∈ gdt := gdt_of 1091 (by decide +kernel) (by decide +kernel)
theorem my_X9_pays : (yX9_pays.cls ≠ "java/lang/invoke/MethodHandle" ∧ yX9_pays.cls ≠ "java/lang/invoke/VarHandle") ∧ Cond.instanceMethod yX9_pays ∈ gdt ∧ Cond.selects yX9_pays.cls yX9_pays yX9_pays ∈ gdt ∧ Cond.initialized yX9_pays.cls ∈ gdt ∧ Cond.code yX9_pays cX9_pays 4 none ∈ gdt := ⟨⟨by decide +kernel, by decide +kernel⟩, gdt_of 1093 (by decide +kernel) (by decide +kernel), gdt_of 49 (by decide +kernel) (by decide +kernel), gdt_of 77 (by decide +kernel) (by decide +kernel), gdt_of 1094 (by decide +kernel) (by decide +kernel)⟩
theorem ml_X9_pays : (parseMethodDescriptor yX9_pays.desc).map (fun d => d.parameters.length) = some 2 := by decide +kernel
theorem dX9_payments_0 : decode cX9_payments 0 = .ok (.aload_n 0, 1) := by decide +kernel
theorem dX9_payments_1 : decode cX9_payments 1 = .ok (.invokevirtual 184, 3) := by decide +kernel
theorem dX9_payments_4 : decode cX9_payments 4 = .ok (.aload_n 0, 1) := by decide +kernel
theorem dX9_payments_5 : decode cX9_payments 5 = .ok (.iconst 0, 1) := by decide +kernel
theorem dX9_payments_6 : decode cX9_payments 6 = .ok (.putfield 186, 3) := by decide +kernel
theorem dX9_payments_9 : decode cX9_payments 9 = .ok (.iconst 0, 1) := by decide +kernel
theorem dX9_payments_10 : decode cX9_payments 10 = .ok (.istore_n 1, 1) := by decide +kernel
theorem dX9_payments_11 : decode cX9_payments 11 = .ok (.iload_n 1, 1) := by decide +kernel
theorem dX9_payments_12 : decode cX9_payments 12 = .ok (.bipush 6, 2) := by decide +kernel
theorem dX9_payments_14 : decode cX9_payments 14 = .ok (.if_icmp .ge 21, 3) := by decide +kernel
theorem dX9_payments_17 : decode cX9_payments 17 = .ok (.aload_n 0, 1) := by decide +kernel
theorem dX9_payments_18 : decode cX9_payments 18 = .ok (.getfield 45, 3) := by decide +kernel
theorem dX9_payments_21 : decode cX9_payments 21 = .ok (.iload_n 1, 1) := by decide +kernel
theorem dX9_payments_22 : decode cX9_payments 22 = .ok (.aload_n 0, 1) := by decide +kernel
theorem dX9_payments_23 : decode cX9_payments 23 = .ok (.getfield 42, 3) := by decide +kernel
theorem dX9_payments_26 : decode cX9_payments 26 = .ok (.iload_n 1, 1) := by decide +kernel
theorem dX9_payments_27 : decode cX9_payments 27 = .ok (.iaload, 1) := by decide +kernel
theorem dX9_payments_28 : decode cX9_payments 28 = .ok (.iastore, 1) := by decide +kernel
theorem dX9_payments_29 : decode cX9_payments 29 = .ok (.iinc 1 1, 3) := by decide +kernel
theorem dX9_payments_32 : decode cX9_payments 32 = .ok (.goto (-21), 3) := by decide +kernel
theorem dX9_payments_35 : decode cX9_payments 35 = .ok (.iconst 0, 1) := by decide +kernel
theorem dX9_payments_36 : decode cX9_payments 36 = .ok (.istore_n 1, 1) := by decide +kernel
theorem dX9_payments_37 : decode cX9_payments 37 = .ok (.iload_n 1, 1) := by decide +kernel
theorem dX9_payments_38 : decode cX9_payments 38 = .ok (.aload_n 0, 1) := by decide +kernel
theorem dX9_payments_39 : decode cX9_payments 39 = .ok (.getfield 181, 3) := by decide +kernel
theorem dX9_payments_42 : decode cX9_payments 42 = .ok (.if_icmp .ge 93, 3) := by decide +kernel
theorem dX9_payments_45 : decode cX9_payments 45 = .ok (.iconst 0, 1) := by decide +kernel
theorem dX9_payments_46 : decode cX9_payments 46 = .ok (.istore_n 2, 1) := by decide +kernel
theorem dX9_payments_47 : decode cX9_payments 47 = .ok (.iload_n 2, 1) := by decide +kernel
theorem dX9_payments_48 : decode cX9_payments 48 = .ok (.aload_n 0, 1) := by decide +kernel
theorem dX9_payments_49 : decode cX9_payments 49 = .ok (.getfield 76, 3) := by decide +kernel
theorem dX9_payments_52 : decode cX9_payments 52 = .ok (.if_icmp .ge 77, 3) := by decide +kernel
theorem dX9_payments_55 : decode cX9_payments 55 = .ok (.iconst 0, 1) := by decide +kernel
theorem dX9_payments_56 : decode cX9_payments 56 = .ok (.istore_n 3, 1) := by decide +kernel
theorem dX9_payments_57 : decode cX9_payments 57 = .ok (.iload_n 3, 1) := by decide +kernel
theorem dX9_payments_58 : decode cX9_payments 58 = .ok (.aload_n 0, 1) := by decide +kernel
theorem dX9_payments_59 : decode cX9_payments 59 = .ok (.getfield 76, 3) := by decide +kernel
theorem dX9_payments_62 : decode cX9_payments 62 = .ok (.if_icmp .ge 61, 3) := by decide +kernel
theorem dX9_payments_65 : decode cX9_payments 65 = .ok (.aload_n 0, 1) := by decide +kernel
theorem dX9_payments_66 : decode cX9_payments 66 = .ok (.getfield 54, 3) := by decide +kernel
theorem dX9_payments_69 : decode cX9_payments 69 = .ok (.iload_n 1, 1) := by decide +kernel
theorem dX9_payments_70 : decode cX9_payments 70 = .ok (.iaload, 1) := by decide +kernel
theorem dX9_payments_71 : decode cX9_payments 71 = .ok (.iload_n 2, 1) := by decide +kernel
theorem dX9_payments_72 : decode cX9_payments 72 = .ok (.ishr, 1) := by decide +kernel
theorem dX9_payments_73 : decode cX9_payments 73 = .ok (.iconst 1, 1) := by decide +kernel
theorem dX9_payments_74 : decode cX9_payments 74 = .ok (.iand, 1) := by decide +kernel
theorem dX9_payments_75 : decode cX9_payments 75 = .ok (.iconst 1, 1) := by decide +kernel
theorem dX9_payments_76 : decode cX9_payments 76 = .ok (.if_icmp .ne 41, 3) := by decide +kernel
theorem dX9_payments_79 : decode cX9_payments 79 = .ok (.aload_n 0, 1) := by decide +kernel
theorem dX9_payments_80 : decode cX9_payments 80 = .ok (.getfield 54, 3) := by decide +kernel
theorem dX9_payments_83 : decode cX9_payments 83 = .ok (.iload_n 1, 1) := by decide +kernel
theorem dX9_payments_84 : decode cX9_payments 84 = .ok (.iaload, 1) := by decide +kernel
theorem dX9_payments_85 : decode cX9_payments 85 = .ok (.iload_n 3, 1) := by decide +kernel
theorem dX9_payments_86 : decode cX9_payments 86 = .ok (.ishr, 1) := by decide +kernel
theorem dX9_payments_87 : decode cX9_payments 87 = .ok (.iconst 1, 1) := by decide +kernel
theorem dX9_payments_88 : decode cX9_payments 88 = .ok (.iand, 1) := by decide +kernel
theorem dX9_payments_89 : decode cX9_payments 89 = .ok (.iconst 1, 1) := by decide +kernel
theorem dX9_payments_90 : decode cX9_payments 90 = .ok (.if_icmp .ne 27, 3) := by decide +kernel
theorem dX9_payments_93 : decode cX9_payments 93 = .ok (.aload_n 0, 1) := by decide +kernel
theorem dX9_payments_94 : decode cX9_payments 94 = .ok (.getfield 45, 3) := by decide +kernel
theorem dX9_payments_97 : decode cX9_payments 97 = .ok (.iload_n 2, 1) := by decide +kernel
theorem dX9_payments_98 : decode cX9_payments 98 = .ok (.iaload, 1) := by decide +kernel
theorem dX9_payments_99 : decode cX9_payments 99 = .ok (.ifCond .ge 18, 3) := by decide +kernel
theorem dX9_payments_102 : decode cX9_payments 102 = .ok (.aload_n 0, 1) := by decide +kernel
theorem dX9_payments_103 : decode cX9_payments 103 = .ok (.getfield 45, 3) := by decide +kernel
theorem dX9_payments_106 : decode cX9_payments 106 = .ok (.iload_n 3, 1) := by decide +kernel
theorem dX9_payments_107 : decode cX9_payments 107 = .ok (.iaload, 1) := by decide +kernel
theorem dX9_payments_108 : decode cX9_payments 108 = .ok (.ifCond .le 9, 3) := by decide +kernel
theorem dX9_payments_111 : decode cX9_payments 111 = .ok (.aload_n 0, 1) := by decide +kernel
theorem dX9_payments_112 : decode cX9_payments 112 = .ok (.iload_n 2, 1) := by decide +kernel
theorem dX9_payments_113 : decode cX9_payments 113 = .ok (.iload_n 3, 1) := by decide +kernel
theorem dX9_payments_114 : decode cX9_payments 114 = .ok (.invokevirtual 189, 3) := by decide +kernel
theorem dX9_payments_117 : decode cX9_payments 117 = .ok (.iinc 3 1, 3) := by decide +kernel
theorem dX9_payments_120 : decode cX9_payments 120 = .ok (.goto (-63), 3) := by decide +kernel
theorem dX9_payments_123 : decode cX9_payments 123 = .ok (.iinc 2 1, 3) := by decide +kernel
theorem dX9_payments_126 : decode cX9_payments 126 = .ok (.goto (-79), 3) := by decide +kernel
theorem dX9_payments_129 : decode cX9_payments 129 = .ok (.iinc 1 1, 3) := by decide +kernel
theorem dX9_payments_132 : decode cX9_payments 132 = .ok (.goto (-95), 3) := by decide +kernel
theorem dX9_payments_135 : decode cX9_payments 135 = .ok (.return_, 1) := by decide +kernel
def fX9_payments_L11 (k35 : (Nat → Int32) → Option (Int32 × Int32 × (Nat → Int32) × (Nat → Int32) × (Nat → Int32) × (Nat → Int32) × (Nat → Int32) × (Nat → Int32))) (u_balance : (Nat → Int32)) : Nat → Int32 → (Nat → Int32) → Option (Int32 × Int32 × (Nat → Int32) × (Nat → Int32) × (Nat → Int32) × (Nat → Int32) × (Nat → Int32) × (Nat → Int32))
  | 0, _, _ => none
  | n + 1, x1, u_left => if 6 ≤ x1 then (k35 u_left) else (gA x1 6 (gA x1 6 (fX9_payments_L11 k35 u_balance n (x1 + 1) (upd u_left (x1 : Int32).toNatClampNeg (u_balance (x1).toNatClampNeg)))))
def fX9_payments_L57 (k123 : Int32 → (Nat → Int32) → (Nat → Int32) → Option (Int32 × Int32 × (Nat → Int32) × (Nat → Int32) × (Nat → Int32) × (Nat → Int32) × (Nat → Int32) × (Nat → Int32))) (u_people : Int32) (u_group : (Nat → Int32)) (x1 : Int32) (x2 : Int32) : Nat → Int32 → Int32 → (Nat → Int32) → (Nat → Int32) → Option (Int32 × Int32 × (Nat → Int32) × (Nat → Int32) × (Nat → Int32) × (Nat → Int32) × (Nat → Int32) × (Nat → Int32))
  | 0, _, _, _, _ => none
  | n + 1, x3, u_paid, u_left, u_payment => if u_people ≤ x3 then (k123 u_paid u_left u_payment) else (gA x1 3 (if (((u_group (x1).toNatClampNeg) >>> (x2 &&& 31)) &&& 1) = 1 then (gA x1 3 (if (((u_group (x1).toNatClampNeg) >>> (x3 &&& 31)) &&& 1) = 1 then (gA x2 6 (if 0 ≤ (u_left (x2).toNatClampNeg) then (fX9_payments_L57 k123 u_people u_group x1 x2 n (x3 + 1) u_paid u_left u_payment) else (gA x3 6 (if (u_left (x3).toNatClampNeg) ≤ 0 then (fX9_payments_L57 k123 u_people u_group x1 x2 n (x3 + 1) u_paid u_left u_payment) else ((fX9_pays u_paid u_left u_payment x2 x3).bind (fun z17 => fX9_payments_L57 k123 u_people u_group x1 x2 n (x3 + 1) z17.1 z17.2.1 z17.2.2)))))) else (fX9_payments_L57 k123 u_people u_group x1 x2 n (x3 + 1) u_paid u_left u_payment))) else (fX9_payments_L57 k123 u_people u_group x1 x2 n (x3 + 1) u_paid u_left u_payment)))
def fX9_payments_L47 (k129 : Int32 → (Nat → Int32) → (Nat → Int32) → Option (Int32 × Int32 × (Nat → Int32) × (Nat → Int32) × (Nat → Int32) × (Nat → Int32) × (Nat → Int32) × (Nat → Int32))) (u_people : Int32) (u_group : (Nat → Int32)) (x1 : Int32) : Nat → Int32 → Int32 → (Nat → Int32) → (Nat → Int32) → Option (Int32 × Int32 × (Nat → Int32) × (Nat → Int32) × (Nat → Int32) × (Nat → Int32) × (Nat → Int32) × (Nat → Int32))
  | 0, _, _, _, _ => none
  | n + 1, x2, u_paid, u_left, u_payment => if u_people ≤ x2 then (k129 u_paid u_left u_payment) else (fX9_payments_L57 (fun (u_paid_18 : Int32) (u_left_18 : (Nat → Int32)) (u_payment_18 : (Nat → Int32)) => fX9_payments_L47 k129 u_people u_group x1 n (x2 + 1) u_paid_18 u_left_18 u_payment_18) u_people u_group x1 x2 400 0 u_paid u_left u_payment)
def fX9_payments_L37 (u_people : Int32) (u_groups : Int32) (u_balance : (Nat → Int32)) (u_sum : (Nat → Int32)) (u_parts : (Nat → Int32)) (u_group : (Nat → Int32)) : Nat → Int32 → Int32 → (Nat → Int32) → (Nat → Int32) → Option (Int32 × Int32 × (Nat → Int32) × (Nat → Int32) × (Nat → Int32) × (Nat → Int32) × (Nat → Int32) × (Nat → Int32))
  | 0, _, _, _, _ => none
  | n + 1, x1, u_paid, u_left, u_payment => if u_groups ≤ x1 then (some (u_groups, u_paid, u_balance, u_left, u_sum, u_parts, u_group, u_payment)) else (fX9_payments_L47 (fun (u_paid_19 : Int32) (u_left_19 : (Nat → Int32)) (u_payment_19 : (Nat → Int32)) => fX9_payments_L37 u_people u_groups u_balance u_sum u_parts u_group n (x1 + 1) u_paid_19 u_left_19 u_payment_19) u_people u_group x1 400 0 u_paid u_left u_payment)
def fX9_payments (u_people : Int32) (u_owes : (Nat → Int32)) (u_balance : (Nat → Int32)) (u_left : (Nat → Int32)) (u_sum : (Nat → Int32)) (u_parts : (Nat → Int32)) (u_group : (Nat → Int32)) (u_payment : (Nat → Int32)) : Option (Int32 × Int32 × (Nat → Int32) × (Nat → Int32) × (Nat → Int32) × (Nat → Int32) × (Nat → Int32) × (Nat → Int32)) := (fX9_groups u_people u_owes u_balance u_sum u_parts u_group).bind (fun z1 => fX9_payments_L11 (fun (u_left_5 : (Nat → Int32)) => fX9_payments_L37 u_people z1.1 z1.2.1 z1.2.2.1 z1.2.2.2.1 z1.2.2.2.2 400 0 0 u_left_5 u_payment) z1.2.1 400 0 u_left)
set_option maxRecDepth 20000 in
theorem LX9_payments_11 {p : Program} {l : Launch} {e : Env} {R : Room} {s : State} {m : MethodId} {args : Array Value} {below : List Frame} {meth : Method} {c : Code} {Q : State → Prop} {D : va_G} {C : Nat → ClassId} {A : Nat → Prop} (cx : CX p m c s args RX9 cX9_payments 4 D C A R 3) {q_ q_owes q_denies q_debt q_cut q_sight q_event q_book q_text q_path q_ring q_balance q_left q_sum q_parts q_group q_payment q_then q_image q_tapeSort q_tapeSize q_items : Nat} {u_people : Int32} {u_debts : Int32} {u_cuts : Int32} {u_seen : Int32} {u_events : Int32} {u_inBook : Int32} {u_texted : Int32} {u_rule : Int32} {u_rings : Int32} {u_size : Int32} {u_least : Int32} {u_worth : Int64} {u_groups : Int32} {u_paid : Int32} {u_imaged : Int32} {u_owes : (Nat → Int32)} {u_balance : (Nat → Int32)} {u_sum : (Nat → Int32)} {u_parts : (Nat → Int32)} {u_group : (Nat → Int32)} {u_payment : (Nat → Int32)} {z : (Int32 × Int32 × (Nat → Int32) × (Nat → Int32) × (Nat → Int32) × (Nat → Int32) × (Nat → Int32) × (Nat → Int32))} (hret : RT p l e R s m args below meth c Q D A cX9_payments none [(q_, .inr (9, [.int u_people, .ref q_owes, .ref q_denies, .int u_debts, .ref q_debt, .int u_cuts, .ref q_cut, .int u_seen, .ref q_sight, .int u_events, .ref q_event, .int u_inBook, .ref q_book, .int u_texted, .ref q_text, .ref q_path, .int u_rule, .int u_rings, .int u_size, .int u_least, .long u_worth, .ref q_ring, .ref q_balance, .ref q_left, .ref q_sum, .ref q_parts, .int z.1, .ref q_group, .int z.2.1, .ref q_payment, .ref q_then, .int u_imaged, .ref q_image, .ref q_tapeSort, .ref q_tapeSize, .ref q_items])), (q_owes, .inl (C 0, 36, .inl u_owes)), (q_balance, .inl (C 0, 6, .inl z.2.2.1)), (q_left, .inl (C 0, 6, .inl z.2.2.2.1)), (q_sum, .inl (C 0, 64, .inl z.2.2.2.2.1)), (q_parts, .inl (C 0, 64, .inl z.2.2.2.2.2.1)), (q_group, .inl (C 0, 3, .inl z.2.2.2.2.2.2.1)), (q_payment, .inl (C 0, 30, .inl z.2.2.2.2.2.2.2))] none) {k35 : (Nat → Int32) → Option (Int32 × Int32 × (Nat → Int32) × (Nat → Int32) × (Nat → Int32) × (Nat → Int32) × (Nat → Int32) × (Nat → Int32))} (hk35 : ∀ (u_left : (Nat → Int32)) (H : Heap) (locs : List Loc) (ls : Array Slot), k35 u_left = some z → HW D A s.heap H locs [(q_, .inr (9, [.int u_people, .ref q_owes, .ref q_denies, .int u_debts, .ref q_debt, .int u_cuts, .ref q_cut, .int u_seen, .ref q_sight, .int u_events, .ref q_event, .int u_inBook, .ref q_book, .int u_texted, .ref q_text, .ref q_path, .int u_rule, .int u_rings, .int u_size, .int u_least, .long u_worth, .ref q_ring, .ref q_balance, .ref q_left, .ref q_sum, .ref q_parts, .int u_groups, .ref q_group, .int u_paid, .ref q_payment, .ref q_then, .int u_imaged, .ref q_image, .ref q_tapeSort, .ref q_tapeSize, .ref q_items])), (q_owes, .inl (C 0, 36, .inl u_owes)), (q_balance, .inl (C 0, 6, .inl u_balance)), (q_left, .inl (C 0, 6, .inl u_left)), (q_sum, .inl (C 0, 64, .inl u_sum)), (q_parts, .inl (C 0, 64, .inl u_parts)), (q_group, .inl (C 0, 3, .inl u_group)), (q_payment, .inl (C 0, 30, .inl u_payment))] → lv_has ls 4 [(0, .ref q_)] → W p l e R s m args below meth c H locs 0 0 Q (F0 m 35 ls [])) :
    ∀ (n : Nat) (x1 : Int32) (u_left : (Nat → Int32)) (H : Heap) (locs : List Loc) (ls : Array Slot), fX9_payments_L11 k35 u_balance n x1 u_left = some z → HW D A s.heap H locs [(q_, .inr (9, [.int u_people, .ref q_owes, .ref q_denies, .int u_debts, .ref q_debt, .int u_cuts, .ref q_cut, .int u_seen, .ref q_sight, .int u_events, .ref q_event, .int u_inBook, .ref q_book, .int u_texted, .ref q_text, .ref q_path, .int u_rule, .int u_rings, .int u_size, .int u_least, .long u_worth, .ref q_ring, .ref q_balance, .ref q_left, .ref q_sum, .ref q_parts, .int u_groups, .ref q_group, .int u_paid, .ref q_payment, .ref q_then, .int u_imaged, .ref q_image, .ref q_tapeSort, .ref q_tapeSize, .ref q_items])), (q_owes, .inl (C 0, 36, .inl u_owes)), (q_balance, .inl (C 0, 6, .inl u_balance)), (q_left, .inl (C 0, 6, .inl u_left)), (q_sum, .inl (C 0, 64, .inl u_sum)), (q_parts, .inl (C 0, 64, .inl u_parts)), (q_group, .inl (C 0, 3, .inl u_group)), (q_payment, .inl (C 0, 30, .inl u_payment))] → lv_has ls 4 [(0, .ref q_), (1, .int x1)] → W p l e R s m args below meth c H locs 0 0 Q (F0 m 11 ls []) := by
  have hx := cx.1
  have hb := cx.2.1
  intro n
  induction n with
  | zero => intro x1 u_left H locs ls hF; cases hF
  | succ n ih =>
    intro x1 u_left H locs ls hF hw hl
    rw [fX9_payments_L11.eq_2] at hF
    refine lv_iload_n hx hb dX9_payments_11 rfl (lv_at hl 1 rfl) ?_
    refine lv_bipush (v := 6) hx hb dX9_payments_12 (by decide) ?_
    refine lv_icmp_ge (tgt := 35) hx hb dX9_payments_14 (by decide) (fun c2 => ?_) (fun c2 => ?_)
    · replace hF := oi_t c2 hF
      exact hk35 u_left H locs ls hF hw (lv_sub hl [0] rfl)
    · replace hF := oi_f c2 hF
      refine lv_aload_n hx hb dX9_payments_17 rfl (lv_at hl 0 rfl) ?_
      refine r_get (ci := 9) (v := .ref q_left) cx hw iX9 0 23 rfl rfl (by decide) wf_X9_45 rfl dX9_payments_18 ?_
      refine lv_iload_n hx hb dX9_payments_21 rfl (lv_at hl 1 rfl) ?_
      refine lv_aload_n hx hb dX9_payments_22 rfl (lv_at hl 0 rfl) ?_
      refine r_get (ci := 9) (v := .ref q_balance) cx hw iX9 0 22 rfl rfl (by decide) wf_X9_42 rfl dX9_payments_23 ?_
      refine lv_iload_n hx hb dX9_payments_26 rfl (lv_at hl 1 rfl) ?_
      obtain ⟨g3, hF⟩ := gA_s hF
      refine r_iald cx hw 2 rfl g3 dX9_payments_27 ?_
      obtain ⟨g4, hF⟩ := gA_s hF
      refine r_iast (w2 := [(q_, .inr (9, [.int u_people, .ref q_owes, .ref q_denies, .int u_debts, .ref q_debt, .int u_cuts, .ref q_cut, .int u_seen, .ref q_sight, .int u_events, .ref q_event, .int u_inBook, .ref q_book, .int u_texted, .ref q_text, .ref q_path, .int u_rule, .int u_rings, .int u_size, .int u_least, .long u_worth, .ref q_ring, .ref q_balance, .ref q_left, .ref q_sum, .ref q_parts, .int u_groups, .ref q_group, .int u_paid, .ref q_payment, .ref q_then, .int u_imaged, .ref q_image, .ref q_tapeSort, .ref q_tapeSize, .ref q_items])), (q_owes, .inl (C 0, 36, .inl u_owes)), (q_balance, .inl (C 0, 6, .inl u_balance)), (q_left, .inl (C 0, 6, .inl (upd u_left (x1 : Int32).toNatClampNeg (u_balance (x1).toNatClampNeg)))), (q_sum, .inl (C 0, 64, .inl u_sum)), (q_parts, .inl (C 0, 64, .inl u_parts)), (q_group, .inl (C 0, 3, .inl u_group)), (q_payment, .inl (C 0, 30, .inl u_payment))]) cx hw 3 rfl g4 dX9_payments_28 rfl (fun H locs hw => ?_)
      refine lv_iinc (v := x1 + 1) (lv' := [(1, .int (x1 + 1)), (0, .ref q_)]) hx hb dX9_payments_29 hl (k := 1) rfl rfl (by decide) rfl (fun ls hl => ?_)
      refine lv_goto (tgt := 11) hx hb dX9_payments_32 (by decide) ?_
      exact ih (x1 + 1) (upd u_left (x1 : Int32).toNatClampNeg (u_balance (x1).toNatClampNeg)) H locs ls hF hw (lv_sub hl [1, 0] rfl)
set_option maxRecDepth 20000 in
theorem LX9_payments_57 {p : Program} {l : Launch} {e : Env} {R : Room} {s : State} {m : MethodId} {args : Array Value} {below : List Frame} {meth : Method} {c : Code} {Q : State → Prop} {D : va_G} {C : Nat → ClassId} {A : Nat → Prop} (cx : CX p m c s args RX9 cX9_payments 4 D C A R 3) {q_ q_owes q_denies q_debt q_cut q_sight q_event q_book q_text q_path q_ring q_balance q_left q_sum q_parts q_group q_payment q_then q_image q_tapeSort q_tapeSize q_items : Nat} {u_people : Int32} {u_debts : Int32} {u_cuts : Int32} {u_seen : Int32} {u_events : Int32} {u_inBook : Int32} {u_texted : Int32} {u_rule : Int32} {u_rings : Int32} {u_size : Int32} {u_least : Int32} {u_worth : Int64} {u_groups : Int32} {u_imaged : Int32} {u_owes : (Nat → Int32)} {u_balance : (Nat → Int32)} {u_sum : (Nat → Int32)} {u_parts : (Nat → Int32)} {u_group : (Nat → Int32)} {x1 : Int32} {x2 : Int32} {z : (Int32 × Int32 × (Nat → Int32) × (Nat → Int32) × (Nat → Int32) × (Nat → Int32) × (Nat → Int32) × (Nat → Int32))} (hret : RT p l e R s m args below meth c Q D A cX9_payments none [(q_, .inr (9, [.int u_people, .ref q_owes, .ref q_denies, .int u_debts, .ref q_debt, .int u_cuts, .ref q_cut, .int u_seen, .ref q_sight, .int u_events, .ref q_event, .int u_inBook, .ref q_book, .int u_texted, .ref q_text, .ref q_path, .int u_rule, .int u_rings, .int u_size, .int u_least, .long u_worth, .ref q_ring, .ref q_balance, .ref q_left, .ref q_sum, .ref q_parts, .int z.1, .ref q_group, .int z.2.1, .ref q_payment, .ref q_then, .int u_imaged, .ref q_image, .ref q_tapeSort, .ref q_tapeSize, .ref q_items])), (q_owes, .inl (C 0, 36, .inl u_owes)), (q_balance, .inl (C 0, 6, .inl z.2.2.1)), (q_left, .inl (C 0, 6, .inl z.2.2.2.1)), (q_sum, .inl (C 0, 64, .inl z.2.2.2.2.1)), (q_parts, .inl (C 0, 64, .inl z.2.2.2.2.2.1)), (q_group, .inl (C 0, 3, .inl z.2.2.2.2.2.2.1)), (q_payment, .inl (C 0, 30, .inl z.2.2.2.2.2.2.2))] none) {k123 : Int32 → (Nat → Int32) → (Nat → Int32) → Option (Int32 × Int32 × (Nat → Int32) × (Nat → Int32) × (Nat → Int32) × (Nat → Int32) × (Nat → Int32) × (Nat → Int32))} (hk123 : ∀ (u_paid : Int32) (u_left : (Nat → Int32)) (u_payment : (Nat → Int32)) (H : Heap) (locs : List Loc) (ls : Array Slot), k123 u_paid u_left u_payment = some z → HW D A s.heap H locs [(q_, .inr (9, [.int u_people, .ref q_owes, .ref q_denies, .int u_debts, .ref q_debt, .int u_cuts, .ref q_cut, .int u_seen, .ref q_sight, .int u_events, .ref q_event, .int u_inBook, .ref q_book, .int u_texted, .ref q_text, .ref q_path, .int u_rule, .int u_rings, .int u_size, .int u_least, .long u_worth, .ref q_ring, .ref q_balance, .ref q_left, .ref q_sum, .ref q_parts, .int u_groups, .ref q_group, .int u_paid, .ref q_payment, .ref q_then, .int u_imaged, .ref q_image, .ref q_tapeSort, .ref q_tapeSize, .ref q_items])), (q_owes, .inl (C 0, 36, .inl u_owes)), (q_balance, .inl (C 0, 6, .inl u_balance)), (q_left, .inl (C 0, 6, .inl u_left)), (q_sum, .inl (C 0, 64, .inl u_sum)), (q_parts, .inl (C 0, 64, .inl u_parts)), (q_group, .inl (C 0, 3, .inl u_group)), (q_payment, .inl (C 0, 30, .inl u_payment))] → lv_has ls 4 [(0, .ref q_), (1, .int x1), (2, .int x2)] → W p l e R s m args below meth c H locs 0 0 Q (F0 m 123 ls [])) :
    ∀ (n : Nat) (x3 : Int32) (u_paid : Int32) (u_left : (Nat → Int32)) (u_payment : (Nat → Int32)) (H : Heap) (locs : List Loc) (ls : Array Slot), fX9_payments_L57 k123 u_people u_group x1 x2 n x3 u_paid u_left u_payment = some z → HW D A s.heap H locs [(q_, .inr (9, [.int u_people, .ref q_owes, .ref q_denies, .int u_debts, .ref q_debt, .int u_cuts, .ref q_cut, .int u_seen, .ref q_sight, .int u_events, .ref q_event, .int u_inBook, .ref q_book, .int u_texted, .ref q_text, .ref q_path, .int u_rule, .int u_rings, .int u_size, .int u_least, .long u_worth, .ref q_ring, .ref q_balance, .ref q_left, .ref q_sum, .ref q_parts, .int u_groups, .ref q_group, .int u_paid, .ref q_payment, .ref q_then, .int u_imaged, .ref q_image, .ref q_tapeSort, .ref q_tapeSize, .ref q_items])), (q_owes, .inl (C 0, 36, .inl u_owes)), (q_balance, .inl (C 0, 6, .inl u_balance)), (q_left, .inl (C 0, 6, .inl u_left)), (q_sum, .inl (C 0, 64, .inl u_sum)), (q_parts, .inl (C 0, 64, .inl u_parts)), (q_group, .inl (C 0, 3, .inl u_group)), (q_payment, .inl (C 0, 30, .inl u_payment))] → lv_has ls 4 [(0, .ref q_), (1, .int x1), (2, .int x2), (3, .int x3)] → W p l e R s m args below meth c H locs 0 0 Q (F0 m 57 ls []) := by
  have hx := cx.1
  have hb := cx.2.1
  intro n
  induction n with
  | zero => intro x3 u_paid u_left u_payment H locs ls hF; cases hF
  | succ n ih =>
    intro x3 u_paid u_left u_payment H locs ls hF hw hl
    rw [fX9_payments_L57.eq_2] at hF
    refine lv_iload_n hx hb dX9_payments_57 rfl (lv_at hl 3 rfl) ?_
    refine lv_aload_n hx hb dX9_payments_58 rfl (lv_at hl 0 rfl) ?_
    refine r_get (ci := 9) (v := .int u_people) cx hw iX9 0 0 rfl rfl (by decide) wf_X9_76 rfl dX9_payments_59 ?_
    refine lv_icmp_ge (tgt := 123) hx hb dX9_payments_62 (by decide) (fun c8 => ?_) (fun c8 => ?_)
    · replace hF := oi_t c8 hF
      exact hk123 u_paid u_left u_payment H locs ls hF hw (lv_sub hl [0, 1, 2] rfl)
    · replace hF := oi_f c8 hF
      refine lv_aload_n hx hb dX9_payments_65 rfl (lv_at hl 0 rfl) ?_
      refine r_get (ci := 9) (v := .ref q_group) cx hw iX9 0 27 rfl rfl (by decide) wf_X9_54 rfl dX9_payments_66 ?_
      refine lv_iload_n hx hb dX9_payments_69 rfl (lv_at hl 1 rfl) ?_
      obtain ⟨g9, hF⟩ := gA_s hF
      refine r_iald cx hw 6 rfl g9 dX9_payments_70 ?_
      refine lv_iload_n hx hb dX9_payments_71 rfl (lv_at hl 2 rfl) ?_
      refine lv_ishr hx hb dX9_payments_72 ?_
      refine lv_iconst (v := 1) hx hb dX9_payments_73 (by decide) ?_
      refine lv_iand hx hb dX9_payments_74 ?_
      refine lv_iconst (v := 1) hx hb dX9_payments_75 (by decide) ?_
      refine lv_icmp_ne (tgt := 117) hx hb dX9_payments_76 (by decide) (fun c10 => ?_) (fun c10 => ?_)
      · replace hF := oi_f c10 hF
        refine lv_iinc (v := x3 + 1) (lv' := [(3, .int (x3 + 1)), (0, .ref q_), (1, .int x1), (2, .int x2)]) hx hb dX9_payments_117 hl (k := 3) rfl rfl (by decide) rfl (fun ls hl => ?_)
        refine lv_goto (tgt := 57) hx hb dX9_payments_120 (by decide) ?_
        exact ih (x3 + 1) u_paid u_left u_payment H locs ls hF hw (lv_sub hl [1, 2, 3, 0] rfl)
      · replace hF := oi_t c10 hF
        refine lv_aload_n hx hb dX9_payments_79 rfl (lv_at hl 0 rfl) ?_
        refine r_get (ci := 9) (v := .ref q_group) cx hw iX9 0 27 rfl rfl (by decide) wf_X9_54 rfl dX9_payments_80 ?_
        refine lv_iload_n hx hb dX9_payments_83 rfl (lv_at hl 1 rfl) ?_
        obtain ⟨g11, hF⟩ := gA_s hF
        refine r_iald cx hw 6 rfl g11 dX9_payments_84 ?_
        refine lv_iload_n hx hb dX9_payments_85 rfl (lv_at hl 3 rfl) ?_
        refine lv_ishr hx hb dX9_payments_86 ?_
        refine lv_iconst (v := 1) hx hb dX9_payments_87 (by decide) ?_
        refine lv_iand hx hb dX9_payments_88 ?_
        refine lv_iconst (v := 1) hx hb dX9_payments_89 (by decide) ?_
        refine lv_icmp_ne (tgt := 117) hx hb dX9_payments_90 (by decide) (fun c12 => ?_) (fun c12 => ?_)
        · replace hF := oi_f c12 hF
          refine lv_iinc (v := x3 + 1) (lv' := [(3, .int (x3 + 1)), (0, .ref q_), (1, .int x1), (2, .int x2)]) hx hb dX9_payments_117 hl (k := 3) rfl rfl (by decide) rfl (fun ls hl => ?_)
          refine lv_goto (tgt := 57) hx hb dX9_payments_120 (by decide) ?_
          exact ih (x3 + 1) u_paid u_left u_payment H locs ls hF hw (lv_sub hl [1, 2, 3, 0] rfl)
        · replace hF := oi_t c12 hF
          refine lv_aload_n hx hb dX9_payments_93 rfl (lv_at hl 0 rfl) ?_
          refine r_get (ci := 9) (v := .ref q_left) cx hw iX9 0 23 rfl rfl (by decide) wf_X9_45 rfl dX9_payments_94 ?_
          refine lv_iload_n hx hb dX9_payments_97 rfl (lv_at hl 2 rfl) ?_
          obtain ⟨g13, hF⟩ := gA_s hF
          refine r_iald cx hw 3 rfl g13 dX9_payments_98 ?_
          refine lv_if_ge (tgt := 117) hx hb dX9_payments_99 (by decide) (fun c14 => ?_) (fun c14 => ?_)
          · replace hF := oi_t c14 hF
            refine lv_iinc (v := x3 + 1) (lv' := [(3, .int (x3 + 1)), (0, .ref q_), (1, .int x1), (2, .int x2)]) hx hb dX9_payments_117 hl (k := 3) rfl rfl (by decide) rfl (fun ls hl => ?_)
            refine lv_goto (tgt := 57) hx hb dX9_payments_120 (by decide) ?_
            exact ih (x3 + 1) u_paid u_left u_payment H locs ls hF hw (lv_sub hl [1, 2, 3, 0] rfl)
          · replace hF := oi_f c14 hF
            refine lv_aload_n hx hb dX9_payments_102 rfl (lv_at hl 0 rfl) ?_
            refine r_get (ci := 9) (v := .ref q_left) cx hw iX9 0 23 rfl rfl (by decide) wf_X9_45 rfl dX9_payments_103 ?_
            refine lv_iload_n hx hb dX9_payments_106 rfl (lv_at hl 3 rfl) ?_
            obtain ⟨g15, hF⟩ := gA_s hF
            refine r_iald cx hw 3 rfl g15 dX9_payments_107 ?_
            refine lv_if_le (tgt := 117) hx hb dX9_payments_108 (by decide) (fun c16 => ?_) (fun c16 => ?_)
            · replace hF := oi_t c16 hF
              refine lv_iinc (v := x3 + 1) (lv' := [(3, .int (x3 + 1)), (0, .ref q_), (1, .int x1), (2, .int x2)]) hx hb dX9_payments_117 hl (k := 3) rfl rfl (by decide) rfl (fun ls hl => ?_)
              refine lv_goto (tgt := 57) hx hb dX9_payments_120 (by decide) ?_
              exact ih (x3 + 1) u_paid u_left u_payment H locs ls hF hw (lv_sub hl [1, 2, 3, 0] rfl)
            · replace hF := oi_f c16 hF
              refine lv_aload_n hx hb dX9_payments_111 rfl (lv_at hl 0 rfl) ?_
              refine lv_iload_n hx hb dX9_payments_112 rfl (lv_at hl 2 rfl) ?_
              refine lv_iload_n hx hb dX9_payments_113 rfl (lv_at hl 3 rfl) ?_
              obtain ⟨z17, hz17, hF⟩ := ob hF
              refine cV (wr := [(q_owes, .inl (C 0, 36, .inl u_owes)), (q_balance, .inl (C 0, 6, .inl u_balance)), (q_sum, .inl (C 0, 64, .inl u_sum)), (q_parts, .inl (C 0, 64, .inl u_parts)), (q_group, .inl (C 0, 3, .inl u_group))]) (w2 := [(q_, .inr (9, [.int u_people, .ref q_owes, .ref q_denies, .int u_debts, .ref q_debt, .int u_cuts, .ref q_cut, .int u_seen, .ref q_sight, .int u_events, .ref q_event, .int u_inBook, .ref q_book, .int u_texted, .ref q_text, .ref q_path, .int u_rule, .int u_rings, .int u_size, .int u_least, .long u_worth, .ref q_ring, .ref q_balance, .ref q_left, .ref q_sum, .ref q_parts, .int u_groups, .ref q_group, .int z17.1, .ref q_payment, .ref q_then, .int u_imaged, .ref q_image, .ref q_tapeSort, .ref q_tapeSize, .ref q_items])), (q_owes, .inl (C 0, 36, .inl u_owes)), (q_balance, .inl (C 0, 6, .inl u_balance)), (q_left, .inl (C 0, 6, .inl z17.2.1)), (q_sum, .inl (C 0, 64, .inl u_sum)), (q_parts, .inl (C 0, 64, .inl u_parts)), (q_group, .inl (C 0, 3, .inl u_group)), (q_payment, .inl (C 0, 30, .inl z17.2.2))]) (st2 := []) cx (CX9_pays l D C q_ q_owes q_denies q_debt q_cut q_sight q_event q_book q_text q_path q_ring q_balance q_left q_sum q_parts q_group q_payment q_then q_image q_tapeSort q_tapeSize q_items u_people u_debts u_cuts u_seen u_events u_inBook u_texted u_rule u_rings u_size u_least u_worth u_groups u_paid u_imaged u_left u_payment x2 x3 z17 hz17) lk_X9_189 my_X9_pays ml_X9_pays ⟨by decide, by decide⟩ hw [0, 3, 7] [1, 2, 4, 5, 6] [5, 0, 1, 6, 2, 3, 4, 7] rfl rfl (by decide) rfl rfl rfl rfl (Nat.le_of_ble_eq_true rfl) dX9_payments_114 rfl (fun H locs hw => ?_) hl.1
              refine lv_iinc (v := x3 + 1) (lv' := [(3, .int (x3 + 1)), (0, .ref q_), (1, .int x1), (2, .int x2)]) hx hb dX9_payments_117 hl (k := 3) rfl rfl (by decide) rfl (fun ls hl => ?_)
              refine lv_goto (tgt := 57) hx hb dX9_payments_120 (by decide) ?_
              exact ih (x3 + 1) z17.1 z17.2.1 z17.2.2 H locs ls hF hw (lv_sub hl [1, 2, 3, 0] rfl)
set_option maxRecDepth 20000 in
theorem LX9_payments_47 {p : Program} {l : Launch} {e : Env} {R : Room} {s : State} {m : MethodId} {args : Array Value} {below : List Frame} {meth : Method} {c : Code} {Q : State → Prop} {D : va_G} {C : Nat → ClassId} {A : Nat → Prop} (cx : CX p m c s args RX9 cX9_payments 4 D C A R 3) {q_ q_owes q_denies q_debt q_cut q_sight q_event q_book q_text q_path q_ring q_balance q_left q_sum q_parts q_group q_payment q_then q_image q_tapeSort q_tapeSize q_items : Nat} {u_people : Int32} {u_debts : Int32} {u_cuts : Int32} {u_seen : Int32} {u_events : Int32} {u_inBook : Int32} {u_texted : Int32} {u_rule : Int32} {u_rings : Int32} {u_size : Int32} {u_least : Int32} {u_worth : Int64} {u_groups : Int32} {u_imaged : Int32} {u_owes : (Nat → Int32)} {u_balance : (Nat → Int32)} {u_sum : (Nat → Int32)} {u_parts : (Nat → Int32)} {u_group : (Nat → Int32)} {x1 : Int32} {z : (Int32 × Int32 × (Nat → Int32) × (Nat → Int32) × (Nat → Int32) × (Nat → Int32) × (Nat → Int32) × (Nat → Int32))} (hret : RT p l e R s m args below meth c Q D A cX9_payments none [(q_, .inr (9, [.int u_people, .ref q_owes, .ref q_denies, .int u_debts, .ref q_debt, .int u_cuts, .ref q_cut, .int u_seen, .ref q_sight, .int u_events, .ref q_event, .int u_inBook, .ref q_book, .int u_texted, .ref q_text, .ref q_path, .int u_rule, .int u_rings, .int u_size, .int u_least, .long u_worth, .ref q_ring, .ref q_balance, .ref q_left, .ref q_sum, .ref q_parts, .int z.1, .ref q_group, .int z.2.1, .ref q_payment, .ref q_then, .int u_imaged, .ref q_image, .ref q_tapeSort, .ref q_tapeSize, .ref q_items])), (q_owes, .inl (C 0, 36, .inl u_owes)), (q_balance, .inl (C 0, 6, .inl z.2.2.1)), (q_left, .inl (C 0, 6, .inl z.2.2.2.1)), (q_sum, .inl (C 0, 64, .inl z.2.2.2.2.1)), (q_parts, .inl (C 0, 64, .inl z.2.2.2.2.2.1)), (q_group, .inl (C 0, 3, .inl z.2.2.2.2.2.2.1)), (q_payment, .inl (C 0, 30, .inl z.2.2.2.2.2.2.2))] none) {k129 : Int32 → (Nat → Int32) → (Nat → Int32) → Option (Int32 × Int32 × (Nat → Int32) × (Nat → Int32) × (Nat → Int32) × (Nat → Int32) × (Nat → Int32) × (Nat → Int32))} (hk129 : ∀ (u_paid : Int32) (u_left : (Nat → Int32)) (u_payment : (Nat → Int32)) (H : Heap) (locs : List Loc) (ls : Array Slot), k129 u_paid u_left u_payment = some z → HW D A s.heap H locs [(q_, .inr (9, [.int u_people, .ref q_owes, .ref q_denies, .int u_debts, .ref q_debt, .int u_cuts, .ref q_cut, .int u_seen, .ref q_sight, .int u_events, .ref q_event, .int u_inBook, .ref q_book, .int u_texted, .ref q_text, .ref q_path, .int u_rule, .int u_rings, .int u_size, .int u_least, .long u_worth, .ref q_ring, .ref q_balance, .ref q_left, .ref q_sum, .ref q_parts, .int u_groups, .ref q_group, .int u_paid, .ref q_payment, .ref q_then, .int u_imaged, .ref q_image, .ref q_tapeSort, .ref q_tapeSize, .ref q_items])), (q_owes, .inl (C 0, 36, .inl u_owes)), (q_balance, .inl (C 0, 6, .inl u_balance)), (q_left, .inl (C 0, 6, .inl u_left)), (q_sum, .inl (C 0, 64, .inl u_sum)), (q_parts, .inl (C 0, 64, .inl u_parts)), (q_group, .inl (C 0, 3, .inl u_group)), (q_payment, .inl (C 0, 30, .inl u_payment))] → lv_has ls 4 [(0, .ref q_), (1, .int x1)] → W p l e R s m args below meth c H locs 0 0 Q (F0 m 129 ls [])) :
    ∀ (n : Nat) (x2 : Int32) (u_paid : Int32) (u_left : (Nat → Int32)) (u_payment : (Nat → Int32)) (H : Heap) (locs : List Loc) (ls : Array Slot), fX9_payments_L47 k129 u_people u_group x1 n x2 u_paid u_left u_payment = some z → HW D A s.heap H locs [(q_, .inr (9, [.int u_people, .ref q_owes, .ref q_denies, .int u_debts, .ref q_debt, .int u_cuts, .ref q_cut, .int u_seen, .ref q_sight, .int u_events, .ref q_event, .int u_inBook, .ref q_book, .int u_texted, .ref q_text, .ref q_path, .int u_rule, .int u_rings, .int u_size, .int u_least, .long u_worth, .ref q_ring, .ref q_balance, .ref q_left, .ref q_sum, .ref q_parts, .int u_groups, .ref q_group, .int u_paid, .ref q_payment, .ref q_then, .int u_imaged, .ref q_image, .ref q_tapeSort, .ref q_tapeSize, .ref q_items])), (q_owes, .inl (C 0, 36, .inl u_owes)), (q_balance, .inl (C 0, 6, .inl u_balance)), (q_left, .inl (C 0, 6, .inl u_left)), (q_sum, .inl (C 0, 64, .inl u_sum)), (q_parts, .inl (C 0, 64, .inl u_parts)), (q_group, .inl (C 0, 3, .inl u_group)), (q_payment, .inl (C 0, 30, .inl u_payment))] → lv_has ls 4 [(0, .ref q_), (1, .int x1), (2, .int x2)] → W p l e R s m args below meth c H locs 0 0 Q (F0 m 47 ls []) := by
  have hx := cx.1
  have hb := cx.2.1
  intro n
  induction n with
  | zero => intro x2 u_paid u_left u_payment H locs ls hF; cases hF
  | succ n ih =>
    intro x2 u_paid u_left u_payment H locs ls hF hw hl
    rw [fX9_payments_L47.eq_2] at hF
    refine lv_iload_n hx hb dX9_payments_47 rfl (lv_at hl 2 rfl) ?_
    refine lv_aload_n hx hb dX9_payments_48 rfl (lv_at hl 0 rfl) ?_
    refine r_get (ci := 9) (v := .int u_people) cx hw iX9 0 0 rfl rfl (by decide) wf_X9_76 rfl dX9_payments_49 ?_
    refine lv_icmp_ge (tgt := 129) hx hb dX9_payments_52 (by decide) (fun c7 => ?_) (fun c7 => ?_)
    · replace hF := oi_t c7 hF
      exact hk129 u_paid u_left u_payment H locs ls hF hw (lv_sub hl [0, 1] rfl)
    · replace hF := oi_f c7 hF
      refine lv_iconst (v := 0) hx hb dX9_payments_55 (by decide) ?_
      refine lv_istore_n (lv' := [(3, .int 0), (0, .ref q_), (1, .int x1), (2, .int x2)]) hx hb dX9_payments_56 rfl hl (by decide) rfl (fun ls hl => ?_)
      refine LX9_payments_57 cx hret (fun u_paid_18 u_left_18 u_payment_18 H locs ls hF hw hl => ?_) 400 0 u_paid u_left u_payment H locs ls hF hw (lv_sub hl [1, 2, 3, 0] rfl)
      · refine lv_iinc (v := x2 + 1) (lv' := [(2, .int (x2 + 1)), (0, .ref q_), (1, .int x1)]) hx hb dX9_payments_123 hl (k := 2) rfl rfl (by decide) rfl (fun ls hl => ?_)
        refine lv_goto (tgt := 47) hx hb dX9_payments_126 (by decide) ?_
        exact ih (x2 + 1) u_paid_18 u_left_18 u_payment_18 H locs ls hF hw (lv_sub hl [1, 2, 0] rfl)
set_option maxRecDepth 20000 in
theorem LX9_payments_37 {p : Program} {l : Launch} {e : Env} {R : Room} {s : State} {m : MethodId} {args : Array Value} {below : List Frame} {meth : Method} {c : Code} {Q : State → Prop} {D : va_G} {C : Nat → ClassId} {A : Nat → Prop} (cx : CX p m c s args RX9 cX9_payments 4 D C A R 3) {q_ q_owes q_denies q_debt q_cut q_sight q_event q_book q_text q_path q_ring q_balance q_left q_sum q_parts q_group q_payment q_then q_image q_tapeSort q_tapeSize q_items : Nat} {u_people : Int32} {u_debts : Int32} {u_cuts : Int32} {u_seen : Int32} {u_events : Int32} {u_inBook : Int32} {u_texted : Int32} {u_rule : Int32} {u_rings : Int32} {u_size : Int32} {u_least : Int32} {u_worth : Int64} {u_groups : Int32} {u_imaged : Int32} {u_owes : (Nat → Int32)} {u_balance : (Nat → Int32)} {u_sum : (Nat → Int32)} {u_parts : (Nat → Int32)} {u_group : (Nat → Int32)} {z : (Int32 × Int32 × (Nat → Int32) × (Nat → Int32) × (Nat → Int32) × (Nat → Int32) × (Nat → Int32) × (Nat → Int32))} (hret : RT p l e R s m args below meth c Q D A cX9_payments none [(q_, .inr (9, [.int u_people, .ref q_owes, .ref q_denies, .int u_debts, .ref q_debt, .int u_cuts, .ref q_cut, .int u_seen, .ref q_sight, .int u_events, .ref q_event, .int u_inBook, .ref q_book, .int u_texted, .ref q_text, .ref q_path, .int u_rule, .int u_rings, .int u_size, .int u_least, .long u_worth, .ref q_ring, .ref q_balance, .ref q_left, .ref q_sum, .ref q_parts, .int z.1, .ref q_group, .int z.2.1, .ref q_payment, .ref q_then, .int u_imaged, .ref q_image, .ref q_tapeSort, .ref q_tapeSize, .ref q_items])), (q_owes, .inl (C 0, 36, .inl u_owes)), (q_balance, .inl (C 0, 6, .inl z.2.2.1)), (q_left, .inl (C 0, 6, .inl z.2.2.2.1)), (q_sum, .inl (C 0, 64, .inl z.2.2.2.2.1)), (q_parts, .inl (C 0, 64, .inl z.2.2.2.2.2.1)), (q_group, .inl (C 0, 3, .inl z.2.2.2.2.2.2.1)), (q_payment, .inl (C 0, 30, .inl z.2.2.2.2.2.2.2))] none) :
    ∀ (n : Nat) (x1 : Int32) (u_paid : Int32) (u_left : (Nat → Int32)) (u_payment : (Nat → Int32)) (H : Heap) (locs : List Loc) (ls : Array Slot), fX9_payments_L37 u_people u_groups u_balance u_sum u_parts u_group n x1 u_paid u_left u_payment = some z → HW D A s.heap H locs [(q_, .inr (9, [.int u_people, .ref q_owes, .ref q_denies, .int u_debts, .ref q_debt, .int u_cuts, .ref q_cut, .int u_seen, .ref q_sight, .int u_events, .ref q_event, .int u_inBook, .ref q_book, .int u_texted, .ref q_text, .ref q_path, .int u_rule, .int u_rings, .int u_size, .int u_least, .long u_worth, .ref q_ring, .ref q_balance, .ref q_left, .ref q_sum, .ref q_parts, .int u_groups, .ref q_group, .int u_paid, .ref q_payment, .ref q_then, .int u_imaged, .ref q_image, .ref q_tapeSort, .ref q_tapeSize, .ref q_items])), (q_owes, .inl (C 0, 36, .inl u_owes)), (q_balance, .inl (C 0, 6, .inl u_balance)), (q_left, .inl (C 0, 6, .inl u_left)), (q_sum, .inl (C 0, 64, .inl u_sum)), (q_parts, .inl (C 0, 64, .inl u_parts)), (q_group, .inl (C 0, 3, .inl u_group)), (q_payment, .inl (C 0, 30, .inl u_payment))] → lv_has ls 4 [(0, .ref q_), (1, .int x1)] → W p l e R s m args below meth c H locs 0 0 Q (F0 m 37 ls []) := by
  have hx := cx.1
  have hb := cx.2.1
  intro n
  induction n with
  | zero => intro x1 u_paid u_left u_payment H locs ls hF; cases hF
  | succ n ih =>
    intro x1 u_paid u_left u_payment H locs ls hF hw hl
    rw [fX9_payments_L37.eq_2] at hF
    refine lv_iload_n hx hb dX9_payments_37 rfl (lv_at hl 1 rfl) ?_
    refine lv_aload_n hx hb dX9_payments_38 rfl (lv_at hl 0 rfl) ?_
    refine r_get (ci := 9) (v := .int u_groups) cx hw iX9 0 26 rfl rfl (by decide) wf_X9_181 rfl dX9_payments_39 ?_
    refine lv_icmp_ge (tgt := 135) hx hb dX9_payments_42 (by decide) (fun c6 => ?_) (fun c6 => ?_)
    · replace hF := oi_t c6 hF
      obtain rfl := Option.some.inj hF
      exact rt_v hret hw rfl dX9_payments_135
    · replace hF := oi_f c6 hF
      refine lv_iconst (v := 0) hx hb dX9_payments_45 (by decide) ?_
      refine lv_istore_n (lv' := [(2, .int 0), (0, .ref q_), (1, .int x1)]) hx hb dX9_payments_46 rfl hl (by decide) rfl (fun ls hl => ?_)
      refine LX9_payments_47 cx hret (fun u_paid_19 u_left_19 u_payment_19 H locs ls hF hw hl => ?_) 400 0 u_paid u_left u_payment H locs ls hF hw (lv_sub hl [1, 2, 0] rfl)
      · refine lv_iinc (v := x1 + 1) (lv' := [(1, .int (x1 + 1)), (0, .ref q_)]) hx hb dX9_payments_129 hl (k := 1) rfl rfl (by decide) rfl (fun ls hl => ?_)
        refine lv_goto (tgt := 37) hx hb dX9_payments_132 (by decide) ?_
        exact ih (x1 + 1) u_paid_19 u_left_19 u_payment_19 H locs ls hF hw (lv_sub hl [1, 0] rfl)
set_option maxRecDepth 20000 in
theorem CX9_payments (l : Launch) (D : va_G) (C : Nat → ClassId) (q_ q_owes q_denies q_debt q_cut q_sight q_event q_book q_text q_path q_ring q_balance q_left q_sum q_parts q_group q_payment q_then q_image q_tapeSort q_tapeSize q_items : Nat) (u_people : Int32) (u_debts : Int32) (u_cuts : Int32) (u_seen : Int32) (u_events : Int32) (u_inBook : Int32) (u_texted : Int32) (u_rule : Int32) (u_rings : Int32) (u_size : Int32) (u_least : Int32) (u_worth : Int64) (u_groups : Int32) (u_paid : Int32) (u_imaged : Int32) (u_owes : (Nat → Int32)) (u_balance : (Nat → Int32)) (u_left : (Nat → Int32)) (u_sum : (Nat → Int32)) (u_parts : (Nat → Int32)) (u_group : (Nat → Int32)) (u_payment : (Nat → Int32)) (z : (Int32 × Int32 × (Nat → Int32) × (Nat → Int32) × (Nat → Int32) × (Nat → Int32) × (Nat → Int32) × (Nat → Int32))) (hF : fX9_payments u_people u_owes u_balance u_left u_sum u_parts u_group u_payment = some z) : Ct l yX9_payments cX9_payments 4 none 3 D C [.ref q_] [(q_, .inr (9, [.int u_people, .ref q_owes, .ref q_denies, .int u_debts, .ref q_debt, .int u_cuts, .ref q_cut, .int u_seen, .ref q_sight, .int u_events, .ref q_event, .int u_inBook, .ref q_book, .int u_texted, .ref q_text, .ref q_path, .int u_rule, .int u_rings, .int u_size, .int u_least, .long u_worth, .ref q_ring, .ref q_balance, .ref q_left, .ref q_sum, .ref q_parts, .int u_groups, .ref q_group, .int u_paid, .ref q_payment, .ref q_then, .int u_imaged, .ref q_image, .ref q_tapeSort, .ref q_tapeSize, .ref q_items])), (q_owes, .inl (C 0, 36, .inl u_owes)), (q_balance, .inl (C 0, 6, .inl u_balance)), (q_left, .inl (C 0, 6, .inl u_left)), (q_sum, .inl (C 0, 64, .inl u_sum)), (q_parts, .inl (C 0, 64, .inl u_parts)), (q_group, .inl (C 0, 3, .inl u_group)), (q_payment, .inl (C 0, 30, .inl u_payment))] [(q_, .inr (9, [.int u_people, .ref q_owes, .ref q_denies, .int u_debts, .ref q_debt, .int u_cuts, .ref q_cut, .int u_seen, .ref q_sight, .int u_events, .ref q_event, .int u_inBook, .ref q_book, .int u_texted, .ref q_text, .ref q_path, .int u_rule, .int u_rings, .int u_size, .int u_least, .long u_worth, .ref q_ring, .ref q_balance, .ref q_left, .ref q_sum, .ref q_parts, .int z.1, .ref q_group, .int z.2.1, .ref q_payment, .ref q_then, .int u_imaged, .ref q_image, .ref q_tapeSort, .ref q_tapeSize, .ref q_items])), (q_owes, .inl (C 0, 36, .inl u_owes)), (q_balance, .inl (C 0, 6, .inl z.2.2.1)), (q_left, .inl (C 0, 6, .inl z.2.2.2.1)), (q_sum, .inl (C 0, 64, .inl z.2.2.2.2.1)), (q_parts, .inl (C 0, 64, .inl z.2.2.2.2.2.1)), (q_group, .inl (C 0, 3, .inl z.2.2.2.2.2.2.1)), (q_payment, .inl (C 0, 30, .inl z.2.2.2.2.2.2.2))] none := by
  refine Ct_of (by decide) (Nat.le_of_ble_eq_true rfl) ?_
  intro p e R s m args below meth c A Q H locs ls cx hw hl hret
  have cx : CX p m c s args RX9 cX9_payments 4 D C A R 3 := cx
  have hx := cx.1
  have hb := cx.2.1
  have hl : lv_has ls 4 [(0, .ref q_)] := hl
  rw [fX9_payments.eq_1] at hF
  refine lv_aload_n hx hb dX9_payments_0 rfl (lv_at hl 0 rfl) ?_
  obtain ⟨z1, hz1, hF⟩ := ob hF
  refine cV (wr := [(q_left, .inl (C 0, 6, .inl u_left)), (q_payment, .inl (C 0, 30, .inl u_payment))]) (w2 := [(q_, .inr (9, [.int u_people, .ref q_owes, .ref q_denies, .int u_debts, .ref q_debt, .int u_cuts, .ref q_cut, .int u_seen, .ref q_sight, .int u_events, .ref q_event, .int u_inBook, .ref q_book, .int u_texted, .ref q_text, .ref q_path, .int u_rule, .int u_rings, .int u_size, .int u_least, .long u_worth, .ref q_ring, .ref q_balance, .ref q_left, .ref q_sum, .ref q_parts, .int z1.1, .ref q_group, .int u_paid, .ref q_payment, .ref q_then, .int u_imaged, .ref q_image, .ref q_tapeSort, .ref q_tapeSize, .ref q_items])), (q_owes, .inl (C 0, 36, .inl u_owes)), (q_balance, .inl (C 0, 6, .inl z1.2.1)), (q_left, .inl (C 0, 6, .inl u_left)), (q_sum, .inl (C 0, 64, .inl z1.2.2.1)), (q_parts, .inl (C 0, 64, .inl z1.2.2.2.1)), (q_group, .inl (C 0, 3, .inl z1.2.2.2.2)), (q_payment, .inl (C 0, 30, .inl u_payment))]) (st2 := []) cx (CX9_groups l D C q_ q_owes q_denies q_debt q_cut q_sight q_event q_book q_text q_path q_ring q_balance q_left q_sum q_parts q_group q_payment q_then q_image q_tapeSort q_tapeSize q_items u_people u_debts u_cuts u_seen u_events u_inBook u_texted u_rule u_rings u_size u_least u_worth u_groups u_paid u_imaged u_owes u_balance u_sum u_parts u_group z1 hz1) lk_X9_184 my_X9_groups ml_X9_groups ⟨by decide, by decide⟩ hw [0, 1, 2, 4, 5, 6] [3, 7] [2, 3, 4, 0, 5, 6, 7, 1] rfl rfl (by decide) rfl rfl rfl rfl (Nat.le_of_ble_eq_true rfl) dX9_payments_1 rfl (fun H locs hw => ?_) hl.1
  refine lv_aload_n hx hb dX9_payments_4 rfl (lv_at hl 0 rfl) ?_
  refine lv_iconst (v := 0) hx hb dX9_payments_5 (by decide) ?_
  refine r_put (ci := 9) (w2 := [(q_, .inr (9, [.int u_people, .ref q_owes, .ref q_denies, .int u_debts, .ref q_debt, .int u_cuts, .ref q_cut, .int u_seen, .ref q_sight, .int u_events, .ref q_event, .int u_inBook, .ref q_book, .int u_texted, .ref q_text, .ref q_path, .int u_rule, .int u_rings, .int u_size, .int u_least, .long u_worth, .ref q_ring, .ref q_balance, .ref q_left, .ref q_sum, .ref q_parts, .int z1.1, .ref q_group, .int 0, .ref q_payment, .ref q_then, .int u_imaged, .ref q_image, .ref q_tapeSort, .ref q_tapeSize, .ref q_items])), (q_owes, .inl (C 0, 36, .inl u_owes)), (q_balance, .inl (C 0, 6, .inl z1.2.1)), (q_left, .inl (C 0, 6, .inl u_left)), (q_sum, .inl (C 0, 64, .inl z1.2.2.1)), (q_parts, .inl (C 0, 64, .inl z1.2.2.2.1)), (q_group, .inl (C 0, 3, .inl z1.2.2.2.2)), (q_payment, .inl (C 0, 30, .inl u_payment))]) cx hw iX9 tyX9_ok nmX9 0 28 rfl rfl (by decide) wf_X9_186 rfl rfl rfl rfl (Nat.le_of_ble_eq_true rfl) dX9_payments_6 rfl (fun H locs hw => ?_)
  refine lv_iconst (v := 0) hx hb dX9_payments_9 (by decide) ?_
  refine lv_istore_n (lv' := [(1, .int 0), (0, .ref q_)]) hx hb dX9_payments_10 rfl hl (by decide) rfl (fun ls hl => ?_)
  refine LX9_payments_11 cx hret (fun u_left_5 H locs ls hF hw hl => ?_) 400 0 u_left H locs ls hF hw (lv_sub hl [1, 0] rfl)
  · refine lv_iconst (v := 0) hx hb dX9_payments_35 (by decide) ?_
    refine lv_istore_n (lv' := [(1, .int 0), (0, .ref q_)]) hx hb dX9_payments_36 rfl hl (by decide) rfl (fun ls hl => ?_)
    refine LX9_payments_37 cx hret 400 0 0 u_left_5 u_payment H locs ls hF hw (lv_sub hl [1, 0] rfl)
theorem dX9_willing_0 : decode cX9_willing 0 = .ok (.aload_n 0, 1) := by decide +kernel
theorem dX9_willing_1 : decode cX9_willing 1 = .ok (.invokevirtual 175, 3) := by decide +kernel
theorem dX9_willing_4 : decode cX9_willing 4 = .ok (.aload_n 0, 1) := by decide +kernel
theorem dX9_willing_5 : decode cX9_willing 5 = .ok (.iconst 0, 1) := by decide +kernel
theorem dX9_willing_6 : decode cX9_willing 6 = .ok (.putfield 186, 3) := by decide +kernel
theorem dX9_willing_9 : decode cX9_willing 9 = .ok (.iconst 0, 1) := by decide +kernel
theorem dX9_willing_10 : decode cX9_willing 10 = .ok (.istore_n 1, 1) := by decide +kernel
theorem dX9_willing_11 : decode cX9_willing 11 = .ok (.iload_n 1, 1) := by decide +kernel
theorem dX9_willing_12 : decode cX9_willing 12 = .ok (.bipush 6, 2) := by decide +kernel
theorem dX9_willing_14 : decode cX9_willing 14 = .ok (.if_icmp .ge 21, 3) := by decide +kernel
theorem dX9_willing_17 : decode cX9_willing 17 = .ok (.aload_n 0, 1) := by decide +kernel
theorem dX9_willing_18 : decode cX9_willing 18 = .ok (.getfield 45, 3) := by decide +kernel
theorem dX9_willing_21 : decode cX9_willing 21 = .ok (.iload_n 1, 1) := by decide +kernel
theorem dX9_willing_22 : decode cX9_willing 22 = .ok (.aload_n 0, 1) := by decide +kernel
theorem dX9_willing_23 : decode cX9_willing 23 = .ok (.getfield 42, 3) := by decide +kernel
theorem dX9_willing_26 : decode cX9_willing 26 = .ok (.iload_n 1, 1) := by decide +kernel
theorem dX9_willing_27 : decode cX9_willing 27 = .ok (.iaload, 1) := by decide +kernel
theorem dX9_willing_28 : decode cX9_willing 28 = .ok (.iastore, 1) := by decide +kernel
theorem dX9_willing_29 : decode cX9_willing 29 = .ok (.iinc 1 1, 3) := by decide +kernel
theorem dX9_willing_32 : decode cX9_willing 32 = .ok (.goto (-21), 3) := by decide +kernel
theorem dX9_willing_35 : decode cX9_willing 35 = .ok (.iconst 0, 1) := by decide +kernel
theorem dX9_willing_36 : decode cX9_willing 36 = .ok (.istore_n 1, 1) := by decide +kernel
theorem dX9_willing_37 : decode cX9_willing 37 = .ok (.iload_n 1, 1) := by decide +kernel
theorem dX9_willing_38 : decode cX9_willing 38 = .ok (.aload_n 0, 1) := by decide +kernel
theorem dX9_willing_39 : decode cX9_willing 39 = .ok (.getfield 76, 3) := by decide +kernel
theorem dX9_willing_42 : decode cX9_willing 42 = .ok (.if_icmp .ge 63, 3) := by decide +kernel
theorem dX9_willing_45 : decode cX9_willing 45 = .ok (.iconst 0, 1) := by decide +kernel
theorem dX9_willing_46 : decode cX9_willing 46 = .ok (.istore_n 2, 1) := by decide +kernel
theorem dX9_willing_47 : decode cX9_willing 47 = .ok (.iload_n 2, 1) := by decide +kernel
theorem dX9_willing_48 : decode cX9_willing 48 = .ok (.aload_n 0, 1) := by decide +kernel
theorem dX9_willing_49 : decode cX9_willing 49 = .ok (.getfield 76, 3) := by decide +kernel
theorem dX9_willing_52 : decode cX9_willing 52 = .ok (.if_icmp .ge 47, 3) := by decide +kernel
theorem dX9_willing_55 : decode cX9_willing 55 = .ok (.aload_n 0, 1) := by decide +kernel
theorem dX9_willing_56 : decode cX9_willing 56 = .ok (.getfield 45, 3) := by decide +kernel
theorem dX9_willing_59 : decode cX9_willing 59 = .ok (.iload_n 1, 1) := by decide +kernel
theorem dX9_willing_60 : decode cX9_willing 60 = .ok (.iaload, 1) := by decide +kernel
theorem dX9_willing_61 : decode cX9_willing 61 = .ok (.ifCond .ge 32, 3) := by decide +kernel
theorem dX9_willing_64 : decode cX9_willing 64 = .ok (.aload_n 0, 1) := by decide +kernel
theorem dX9_willing_65 : decode cX9_willing 65 = .ok (.getfield 45, 3) := by decide +kernel
theorem dX9_willing_68 : decode cX9_willing 68 = .ok (.iload_n 2, 1) := by decide +kernel
theorem dX9_willing_69 : decode cX9_willing 69 = .ok (.iaload, 1) := by decide +kernel
theorem dX9_willing_70 : decode cX9_willing 70 = .ok (.ifCond .le 23, 3) := by decide +kernel
theorem dX9_willing_73 : decode cX9_willing 73 = .ok (.aload_n 0, 1) := by decide +kernel
theorem dX9_willing_74 : decode cX9_willing 74 = .ok (.getfield 15, 3) := by decide +kernel
theorem dX9_willing_77 : decode cX9_willing 77 = .ok (.bipush 6, 2) := by decide +kernel
theorem dX9_willing_79 : decode cX9_willing 79 = .ok (.iload_n 1, 1) := by decide +kernel
theorem dX9_willing_80 : decode cX9_willing 80 = .ok (.imul, 1) := by decide +kernel
theorem dX9_willing_81 : decode cX9_willing 81 = .ok (.iload_n 2, 1) := by decide +kernel
theorem dX9_willing_82 : decode cX9_willing 82 = .ok (.iadd, 1) := by decide +kernel
theorem dX9_willing_83 : decode cX9_willing 83 = .ok (.iaload, 1) := by decide +kernel
theorem dX9_willing_84 : decode cX9_willing 84 = .ok (.ifCond .ne 9, 3) := by decide +kernel
theorem dX9_willing_87 : decode cX9_willing 87 = .ok (.aload_n 0, 1) := by decide +kernel
theorem dX9_willing_88 : decode cX9_willing 88 = .ok (.iload_n 1, 1) := by decide +kernel
theorem dX9_willing_89 : decode cX9_willing 89 = .ok (.iload_n 2, 1) := by decide +kernel
theorem dX9_willing_90 : decode cX9_willing 90 = .ok (.invokevirtual 189, 3) := by decide +kernel
theorem dX9_willing_93 : decode cX9_willing 93 = .ok (.iinc 2 1, 3) := by decide +kernel
theorem dX9_willing_96 : decode cX9_willing 96 = .ok (.goto (-49), 3) := by decide +kernel
theorem dX9_willing_99 : decode cX9_willing 99 = .ok (.iinc 1 1, 3) := by decide +kernel
theorem dX9_willing_102 : decode cX9_willing 102 = .ok (.goto (-65), 3) := by decide +kernel
theorem dX9_willing_105 : decode cX9_willing 105 = .ok (.return_, 1) := by decide +kernel
def fX9_willing_L11 (k35 : (Nat → Int32) → Option (Int32 × (Nat → Int32) × (Nat → Int32) × (Nat → Int32))) (u_balance : (Nat → Int32)) : Nat → Int32 → (Nat → Int32) → Option (Int32 × (Nat → Int32) × (Nat → Int32) × (Nat → Int32))
  | 0, _, _ => none
  | n + 1, x1, u_left => if 6 ≤ x1 then (k35 u_left) else (gA x1 6 (gA x1 6 (fX9_willing_L11 k35 u_balance n (x1 + 1) (upd u_left (x1 : Int32).toNatClampNeg (u_balance (x1).toNatClampNeg)))))
def fX9_willing_L47 (k99 : Int32 → (Nat → Int32) → (Nat → Int32) → Option (Int32 × (Nat → Int32) × (Nat → Int32) × (Nat → Int32))) (u_people : Int32) (u_denies : (Nat → Int32)) (x1 : Int32) : Nat → Int32 → Int32 → (Nat → Int32) → (Nat → Int32) → Option (Int32 × (Nat → Int32) × (Nat → Int32) × (Nat → Int32))
  | 0, _, _, _, _ => none
  | n + 1, x2, u_paid, u_left, u_payment => if u_people ≤ x2 then (k99 u_paid u_left u_payment) else (gA x1 6 (if 0 ≤ (u_left (x1).toNatClampNeg) then (fX9_willing_L47 k99 u_people u_denies x1 n (x2 + 1) u_paid u_left u_payment) else (gA x2 6 (if (u_left (x2).toNatClampNeg) ≤ 0 then (fX9_willing_L47 k99 u_people u_denies x1 n (x2 + 1) u_paid u_left u_payment) else (gA ((6 * x1) + x2) 36 (if (u_denies ((6 * x1) + x2).toNatClampNeg) = 0 then ((fX9_pays u_paid u_left u_payment x1 x2).bind (fun z14 => fX9_willing_L47 k99 u_people u_denies x1 n (x2 + 1) z14.1 z14.2.1 z14.2.2)) else (fX9_willing_L47 k99 u_people u_denies x1 n (x2 + 1) u_paid u_left u_payment)))))))
def fX9_willing_L37 (u_people : Int32) (u_denies : (Nat → Int32)) (u_balance : (Nat → Int32)) : Nat → Int32 → Int32 → (Nat → Int32) → (Nat → Int32) → Option (Int32 × (Nat → Int32) × (Nat → Int32) × (Nat → Int32))
  | 0, _, _, _, _ => none
  | n + 1, x1, u_paid, u_left, u_payment => if u_people ≤ x1 then (some (u_paid, u_balance, u_left, u_payment)) else (fX9_willing_L47 (fun (u_paid_15 : Int32) (u_left_15 : (Nat → Int32)) (u_payment_15 : (Nat → Int32)) => fX9_willing_L37 u_people u_denies u_balance n (x1 + 1) u_paid_15 u_left_15 u_payment_15) u_people u_denies x1 400 0 u_paid u_left u_payment)
def fX9_willing (u_people : Int32) (u_owes : (Nat → Int32)) (u_denies : (Nat → Int32)) (u_balance : (Nat → Int32)) (u_left : (Nat → Int32)) (u_payment : (Nat → Int32)) : Option (Int32 × (Nat → Int32) × (Nat → Int32) × (Nat → Int32)) := (fX9_balances u_people u_owes u_balance).bind (fun z1 => fX9_willing_L11 (fun (u_left_5 : (Nat → Int32)) => fX9_willing_L37 u_people u_denies z1 400 0 0 u_left_5 u_payment) z1 400 0 u_left)
set_option maxRecDepth 20000 in
theorem LX9_willing_11 {p : Program} {l : Launch} {e : Env} {R : Room} {s : State} {m : MethodId} {args : Array Value} {below : List Frame} {meth : Method} {c : Code} {Q : State → Prop} {D : va_G} {C : Nat → ClassId} {A : Nat → Prop} (cx : CX p m c s args RX9 cX9_willing 3 D C A R 2) {q_ q_owes q_denies q_debt q_cut q_sight q_event q_book q_text q_path q_ring q_balance q_left q_sum q_parts q_group q_payment q_then q_image q_tapeSort q_tapeSize q_items : Nat} {u_people : Int32} {u_debts : Int32} {u_cuts : Int32} {u_seen : Int32} {u_events : Int32} {u_inBook : Int32} {u_texted : Int32} {u_rule : Int32} {u_rings : Int32} {u_size : Int32} {u_least : Int32} {u_worth : Int64} {u_groups : Int32} {u_paid : Int32} {u_imaged : Int32} {u_owes : (Nat → Int32)} {u_denies : (Nat → Int32)} {u_balance : (Nat → Int32)} {u_payment : (Nat → Int32)} {z : (Int32 × (Nat → Int32) × (Nat → Int32) × (Nat → Int32))} (hret : RT p l e R s m args below meth c Q D A cX9_willing none [(q_, .inr (9, [.int u_people, .ref q_owes, .ref q_denies, .int u_debts, .ref q_debt, .int u_cuts, .ref q_cut, .int u_seen, .ref q_sight, .int u_events, .ref q_event, .int u_inBook, .ref q_book, .int u_texted, .ref q_text, .ref q_path, .int u_rule, .int u_rings, .int u_size, .int u_least, .long u_worth, .ref q_ring, .ref q_balance, .ref q_left, .ref q_sum, .ref q_parts, .int u_groups, .ref q_group, .int z.1, .ref q_payment, .ref q_then, .int u_imaged, .ref q_image, .ref q_tapeSort, .ref q_tapeSize, .ref q_items])), (q_owes, .inl (C 0, 36, .inl u_owes)), (q_denies, .inl (C 0, 36, .inl u_denies)), (q_balance, .inl (C 0, 6, .inl z.2.1)), (q_left, .inl (C 0, 6, .inl z.2.2.1)), (q_payment, .inl (C 0, 30, .inl z.2.2.2))] none) {k35 : (Nat → Int32) → Option (Int32 × (Nat → Int32) × (Nat → Int32) × (Nat → Int32))} (hk35 : ∀ (u_left : (Nat → Int32)) (H : Heap) (locs : List Loc) (ls : Array Slot), k35 u_left = some z → HW D A s.heap H locs [(q_, .inr (9, [.int u_people, .ref q_owes, .ref q_denies, .int u_debts, .ref q_debt, .int u_cuts, .ref q_cut, .int u_seen, .ref q_sight, .int u_events, .ref q_event, .int u_inBook, .ref q_book, .int u_texted, .ref q_text, .ref q_path, .int u_rule, .int u_rings, .int u_size, .int u_least, .long u_worth, .ref q_ring, .ref q_balance, .ref q_left, .ref q_sum, .ref q_parts, .int u_groups, .ref q_group, .int u_paid, .ref q_payment, .ref q_then, .int u_imaged, .ref q_image, .ref q_tapeSort, .ref q_tapeSize, .ref q_items])), (q_owes, .inl (C 0, 36, .inl u_owes)), (q_denies, .inl (C 0, 36, .inl u_denies)), (q_balance, .inl (C 0, 6, .inl u_balance)), (q_left, .inl (C 0, 6, .inl u_left)), (q_payment, .inl (C 0, 30, .inl u_payment))] → lv_has ls 3 [(0, .ref q_)] → W p l e R s m args below meth c H locs 0 0 Q (F0 m 35 ls [])) :
    ∀ (n : Nat) (x1 : Int32) (u_left : (Nat → Int32)) (H : Heap) (locs : List Loc) (ls : Array Slot), fX9_willing_L11 k35 u_balance n x1 u_left = some z → HW D A s.heap H locs [(q_, .inr (9, [.int u_people, .ref q_owes, .ref q_denies, .int u_debts, .ref q_debt, .int u_cuts, .ref q_cut, .int u_seen, .ref q_sight, .int u_events, .ref q_event, .int u_inBook, .ref q_book, .int u_texted, .ref q_text, .ref q_path, .int u_rule, .int u_rings, .int u_size, .int u_least, .long u_worth, .ref q_ring, .ref q_balance, .ref q_left, .ref q_sum, .ref q_parts, .int u_groups, .ref q_group, .int u_paid, .ref q_payment, .ref q_then, .int u_imaged, .ref q_image, .ref q_tapeSort, .ref q_tapeSize, .ref q_items])), (q_owes, .inl (C 0, 36, .inl u_owes)), (q_denies, .inl (C 0, 36, .inl u_denies)), (q_balance, .inl (C 0, 6, .inl u_balance)), (q_left, .inl (C 0, 6, .inl u_left)), (q_payment, .inl (C 0, 30, .inl u_payment))] → lv_has ls 3 [(0, .ref q_), (1, .int x1)] → W p l e R s m args below meth c H locs 0 0 Q (F0 m 11 ls []) := by
  have hx := cx.1
  have hb := cx.2.1
  intro n
  induction n with
  | zero => intro x1 u_left H locs ls hF; cases hF
  | succ n ih =>
    intro x1 u_left H locs ls hF hw hl
    rw [fX9_willing_L11.eq_2] at hF
    refine lv_iload_n hx hb dX9_willing_11 rfl (lv_at hl 1 rfl) ?_
    refine lv_bipush (v := 6) hx hb dX9_willing_12 (by decide) ?_
    refine lv_icmp_ge (tgt := 35) hx hb dX9_willing_14 (by decide) (fun c2 => ?_) (fun c2 => ?_)
    · replace hF := oi_t c2 hF
      exact hk35 u_left H locs ls hF hw (lv_sub hl [0] rfl)
    · replace hF := oi_f c2 hF
      refine lv_aload_n hx hb dX9_willing_17 rfl (lv_at hl 0 rfl) ?_
      refine r_get (ci := 9) (v := .ref q_left) cx hw iX9 0 23 rfl rfl (by decide) wf_X9_45 rfl dX9_willing_18 ?_
      refine lv_iload_n hx hb dX9_willing_21 rfl (lv_at hl 1 rfl) ?_
      refine lv_aload_n hx hb dX9_willing_22 rfl (lv_at hl 0 rfl) ?_
      refine r_get (ci := 9) (v := .ref q_balance) cx hw iX9 0 22 rfl rfl (by decide) wf_X9_42 rfl dX9_willing_23 ?_
      refine lv_iload_n hx hb dX9_willing_26 rfl (lv_at hl 1 rfl) ?_
      obtain ⟨g3, hF⟩ := gA_s hF
      refine r_iald cx hw 3 rfl g3 dX9_willing_27 ?_
      obtain ⟨g4, hF⟩ := gA_s hF
      refine r_iast (w2 := [(q_, .inr (9, [.int u_people, .ref q_owes, .ref q_denies, .int u_debts, .ref q_debt, .int u_cuts, .ref q_cut, .int u_seen, .ref q_sight, .int u_events, .ref q_event, .int u_inBook, .ref q_book, .int u_texted, .ref q_text, .ref q_path, .int u_rule, .int u_rings, .int u_size, .int u_least, .long u_worth, .ref q_ring, .ref q_balance, .ref q_left, .ref q_sum, .ref q_parts, .int u_groups, .ref q_group, .int u_paid, .ref q_payment, .ref q_then, .int u_imaged, .ref q_image, .ref q_tapeSort, .ref q_tapeSize, .ref q_items])), (q_owes, .inl (C 0, 36, .inl u_owes)), (q_denies, .inl (C 0, 36, .inl u_denies)), (q_balance, .inl (C 0, 6, .inl u_balance)), (q_left, .inl (C 0, 6, .inl (upd u_left (x1 : Int32).toNatClampNeg (u_balance (x1).toNatClampNeg)))), (q_payment, .inl (C 0, 30, .inl u_payment))]) cx hw 4 rfl g4 dX9_willing_28 rfl (fun H locs hw => ?_)
      refine lv_iinc (v := x1 + 1) (lv' := [(1, .int (x1 + 1)), (0, .ref q_)]) hx hb dX9_willing_29 hl (k := 1) rfl rfl (by decide) rfl (fun ls hl => ?_)
      refine lv_goto (tgt := 11) hx hb dX9_willing_32 (by decide) ?_
      exact ih (x1 + 1) (upd u_left (x1 : Int32).toNatClampNeg (u_balance (x1).toNatClampNeg)) H locs ls hF hw (lv_sub hl [1, 0] rfl)
set_option maxRecDepth 20000 in
theorem LX9_willing_47 {p : Program} {l : Launch} {e : Env} {R : Room} {s : State} {m : MethodId} {args : Array Value} {below : List Frame} {meth : Method} {c : Code} {Q : State → Prop} {D : va_G} {C : Nat → ClassId} {A : Nat → Prop} (cx : CX p m c s args RX9 cX9_willing 3 D C A R 2) {q_ q_owes q_denies q_debt q_cut q_sight q_event q_book q_text q_path q_ring q_balance q_left q_sum q_parts q_group q_payment q_then q_image q_tapeSort q_tapeSize q_items : Nat} {u_people : Int32} {u_debts : Int32} {u_cuts : Int32} {u_seen : Int32} {u_events : Int32} {u_inBook : Int32} {u_texted : Int32} {u_rule : Int32} {u_rings : Int32} {u_size : Int32} {u_least : Int32} {u_worth : Int64} {u_groups : Int32} {u_imaged : Int32} {u_owes : (Nat → Int32)} {u_denies : (Nat → Int32)} {u_balance : (Nat → Int32)} {x1 : Int32} {z : (Int32 × (Nat → Int32) × (Nat → Int32) × (Nat → Int32))} (hret : RT p l e R s m args below meth c Q D A cX9_willing none [(q_, .inr (9, [.int u_people, .ref q_owes, .ref q_denies, .int u_debts, .ref q_debt, .int u_cuts, .ref q_cut, .int u_seen, .ref q_sight, .int u_events, .ref q_event, .int u_inBook, .ref q_book, .int u_texted, .ref q_text, .ref q_path, .int u_rule, .int u_rings, .int u_size, .int u_least, .long u_worth, .ref q_ring, .ref q_balance, .ref q_left, .ref q_sum, .ref q_parts, .int u_groups, .ref q_group, .int z.1, .ref q_payment, .ref q_then, .int u_imaged, .ref q_image, .ref q_tapeSort, .ref q_tapeSize, .ref q_items])), (q_owes, .inl (C 0, 36, .inl u_owes)), (q_denies, .inl (C 0, 36, .inl u_denies)), (q_balance, .inl (C 0, 6, .inl z.2.1)), (q_left, .inl (C 0, 6, .inl z.2.2.1)), (q_payment, .inl (C 0, 30, .inl z.2.2.2))] none) {k99 : Int32 → (Nat → Int32) → (Nat → Int32) → Option (Int32 × (Nat → Int32) × (Nat → Int32) × (Nat → Int32))} (hk99 : ∀ (u_paid : Int32) (u_left : (Nat → Int32)) (u_payment : (Nat → Int32)) (H : Heap) (locs : List Loc) (ls : Array Slot), k99 u_paid u_left u_payment = some z → HW D A s.heap H locs [(q_, .inr (9, [.int u_people, .ref q_owes, .ref q_denies, .int u_debts, .ref q_debt, .int u_cuts, .ref q_cut, .int u_seen, .ref q_sight, .int u_events, .ref q_event, .int u_inBook, .ref q_book, .int u_texted, .ref q_text, .ref q_path, .int u_rule, .int u_rings, .int u_size, .int u_least, .long u_worth, .ref q_ring, .ref q_balance, .ref q_left, .ref q_sum, .ref q_parts, .int u_groups, .ref q_group, .int u_paid, .ref q_payment, .ref q_then, .int u_imaged, .ref q_image, .ref q_tapeSort, .ref q_tapeSize, .ref q_items])), (q_owes, .inl (C 0, 36, .inl u_owes)), (q_denies, .inl (C 0, 36, .inl u_denies)), (q_balance, .inl (C 0, 6, .inl u_balance)), (q_left, .inl (C 0, 6, .inl u_left)), (q_payment, .inl (C 0, 30, .inl u_payment))] → lv_has ls 3 [(0, .ref q_), (1, .int x1)] → W p l e R s m args below meth c H locs 0 0 Q (F0 m 99 ls [])) :
    ∀ (n : Nat) (x2 : Int32) (u_paid : Int32) (u_left : (Nat → Int32)) (u_payment : (Nat → Int32)) (H : Heap) (locs : List Loc) (ls : Array Slot), fX9_willing_L47 k99 u_people u_denies x1 n x2 u_paid u_left u_payment = some z → HW D A s.heap H locs [(q_, .inr (9, [.int u_people, .ref q_owes, .ref q_denies, .int u_debts, .ref q_debt, .int u_cuts, .ref q_cut, .int u_seen, .ref q_sight, .int u_events, .ref q_event, .int u_inBook, .ref q_book, .int u_texted, .ref q_text, .ref q_path, .int u_rule, .int u_rings, .int u_size, .int u_least, .long u_worth, .ref q_ring, .ref q_balance, .ref q_left, .ref q_sum, .ref q_parts, .int u_groups, .ref q_group, .int u_paid, .ref q_payment, .ref q_then, .int u_imaged, .ref q_image, .ref q_tapeSort, .ref q_tapeSize, .ref q_items])), (q_owes, .inl (C 0, 36, .inl u_owes)), (q_denies, .inl (C 0, 36, .inl u_denies)), (q_balance, .inl (C 0, 6, .inl u_balance)), (q_left, .inl (C 0, 6, .inl u_left)), (q_payment, .inl (C 0, 30, .inl u_payment))] → lv_has ls 3 [(0, .ref q_), (1, .int x1), (2, .int x2)] → W p l e R s m args below meth c H locs 0 0 Q (F0 m 47 ls []) := by
  have hx := cx.1
  have hb := cx.2.1
  intro n
  induction n with
  | zero => intro x2 u_paid u_left u_payment H locs ls hF; cases hF
  | succ n ih =>
    intro x2 u_paid u_left u_payment H locs ls hF hw hl
    rw [fX9_willing_L47.eq_2] at hF
    refine lv_iload_n hx hb dX9_willing_47 rfl (lv_at hl 2 rfl) ?_
    refine lv_aload_n hx hb dX9_willing_48 rfl (lv_at hl 0 rfl) ?_
    refine r_get (ci := 9) (v := .int u_people) cx hw iX9 0 0 rfl rfl (by decide) wf_X9_76 rfl dX9_willing_49 ?_
    refine lv_icmp_ge (tgt := 99) hx hb dX9_willing_52 (by decide) (fun c7 => ?_) (fun c7 => ?_)
    · replace hF := oi_t c7 hF
      exact hk99 u_paid u_left u_payment H locs ls hF hw (lv_sub hl [0, 1] rfl)
    · replace hF := oi_f c7 hF
      refine lv_aload_n hx hb dX9_willing_55 rfl (lv_at hl 0 rfl) ?_
      refine r_get (ci := 9) (v := .ref q_left) cx hw iX9 0 23 rfl rfl (by decide) wf_X9_45 rfl dX9_willing_56 ?_
      refine lv_iload_n hx hb dX9_willing_59 rfl (lv_at hl 1 rfl) ?_
      obtain ⟨g8, hF⟩ := gA_s hF
      refine r_iald cx hw 4 rfl g8 dX9_willing_60 ?_
      refine lv_if_ge (tgt := 93) hx hb dX9_willing_61 (by decide) (fun c9 => ?_) (fun c9 => ?_)
      · replace hF := oi_t c9 hF
        refine lv_iinc (v := x2 + 1) (lv' := [(2, .int (x2 + 1)), (0, .ref q_), (1, .int x1)]) hx hb dX9_willing_93 hl (k := 2) rfl rfl (by decide) rfl (fun ls hl => ?_)
        refine lv_goto (tgt := 47) hx hb dX9_willing_96 (by decide) ?_
        exact ih (x2 + 1) u_paid u_left u_payment H locs ls hF hw (lv_sub hl [1, 2, 0] rfl)
      · replace hF := oi_f c9 hF
        refine lv_aload_n hx hb dX9_willing_64 rfl (lv_at hl 0 rfl) ?_
        refine r_get (ci := 9) (v := .ref q_left) cx hw iX9 0 23 rfl rfl (by decide) wf_X9_45 rfl dX9_willing_65 ?_
        refine lv_iload_n hx hb dX9_willing_68 rfl (lv_at hl 2 rfl) ?_
        obtain ⟨g10, hF⟩ := gA_s hF
        refine r_iald cx hw 4 rfl g10 dX9_willing_69 ?_
        refine lv_if_le (tgt := 93) hx hb dX9_willing_70 (by decide) (fun c11 => ?_) (fun c11 => ?_)
        · replace hF := oi_t c11 hF
          refine lv_iinc (v := x2 + 1) (lv' := [(2, .int (x2 + 1)), (0, .ref q_), (1, .int x1)]) hx hb dX9_willing_93 hl (k := 2) rfl rfl (by decide) rfl (fun ls hl => ?_)
          refine lv_goto (tgt := 47) hx hb dX9_willing_96 (by decide) ?_
          exact ih (x2 + 1) u_paid u_left u_payment H locs ls hF hw (lv_sub hl [1, 2, 0] rfl)
        · replace hF := oi_f c11 hF
          refine lv_aload_n hx hb dX9_willing_73 rfl (lv_at hl 0 rfl) ?_
          refine r_get (ci := 9) (v := .ref q_denies) cx hw iX9 0 2 rfl rfl (by decide) wf_X9_15 rfl dX9_willing_74 ?_
          refine lv_bipush (v := 6) hx hb dX9_willing_77 (by decide) ?_
          refine lv_iload_n hx hb dX9_willing_79 rfl (lv_at hl 1 rfl) ?_
          refine lv_imul hx hb dX9_willing_80 ?_
          refine lv_iload_n hx hb dX9_willing_81 rfl (lv_at hl 2 rfl) ?_
          refine lv_iadd hx hb dX9_willing_82 ?_
          obtain ⟨g12, hF⟩ := gA_s hF
          refine r_iald cx hw 2 rfl g12 dX9_willing_83 ?_
          refine lv_if_ne (tgt := 93) hx hb dX9_willing_84 (by decide) (fun c13 => ?_) (fun c13 => ?_)
          · replace hF := oi_f c13 hF
            refine lv_iinc (v := x2 + 1) (lv' := [(2, .int (x2 + 1)), (0, .ref q_), (1, .int x1)]) hx hb dX9_willing_93 hl (k := 2) rfl rfl (by decide) rfl (fun ls hl => ?_)
            refine lv_goto (tgt := 47) hx hb dX9_willing_96 (by decide) ?_
            exact ih (x2 + 1) u_paid u_left u_payment H locs ls hF hw (lv_sub hl [1, 2, 0] rfl)
          · replace hF := oi_t c13 hF
            refine lv_aload_n hx hb dX9_willing_87 rfl (lv_at hl 0 rfl) ?_
            refine lv_iload_n hx hb dX9_willing_88 rfl (lv_at hl 1 rfl) ?_
            refine lv_iload_n hx hb dX9_willing_89 rfl (lv_at hl 2 rfl) ?_
            obtain ⟨z14, hz14, hF⟩ := ob hF
            refine cV (wr := [(q_owes, .inl (C 0, 36, .inl u_owes)), (q_denies, .inl (C 0, 36, .inl u_denies)), (q_balance, .inl (C 0, 6, .inl u_balance))]) (w2 := [(q_, .inr (9, [.int u_people, .ref q_owes, .ref q_denies, .int u_debts, .ref q_debt, .int u_cuts, .ref q_cut, .int u_seen, .ref q_sight, .int u_events, .ref q_event, .int u_inBook, .ref q_book, .int u_texted, .ref q_text, .ref q_path, .int u_rule, .int u_rings, .int u_size, .int u_least, .long u_worth, .ref q_ring, .ref q_balance, .ref q_left, .ref q_sum, .ref q_parts, .int u_groups, .ref q_group, .int z14.1, .ref q_payment, .ref q_then, .int u_imaged, .ref q_image, .ref q_tapeSort, .ref q_tapeSize, .ref q_items])), (q_owes, .inl (C 0, 36, .inl u_owes)), (q_denies, .inl (C 0, 36, .inl u_denies)), (q_balance, .inl (C 0, 6, .inl u_balance)), (q_left, .inl (C 0, 6, .inl z14.2.1)), (q_payment, .inl (C 0, 30, .inl z14.2.2))]) (st2 := []) cx (CX9_pays l D C q_ q_owes q_denies q_debt q_cut q_sight q_event q_book q_text q_path q_ring q_balance q_left q_sum q_parts q_group q_payment q_then q_image q_tapeSort q_tapeSize q_items u_people u_debts u_cuts u_seen u_events u_inBook u_texted u_rule u_rings u_size u_least u_worth u_groups u_paid u_imaged u_left u_payment x1 x2 z14 hz14) lk_X9_189 my_X9_pays ml_X9_pays ⟨by decide, by decide⟩ hw [0, 4, 5] [1, 2, 3] [3, 0, 1, 2, 4, 5] rfl rfl (by decide) rfl rfl rfl rfl (Nat.le_of_ble_eq_true rfl) dX9_willing_90 rfl (fun H locs hw => ?_) hl.1
            refine lv_iinc (v := x2 + 1) (lv' := [(2, .int (x2 + 1)), (0, .ref q_), (1, .int x1)]) hx hb dX9_willing_93 hl (k := 2) rfl rfl (by decide) rfl (fun ls hl => ?_)
            refine lv_goto (tgt := 47) hx hb dX9_willing_96 (by decide) ?_
            exact ih (x2 + 1) z14.1 z14.2.1 z14.2.2 H locs ls hF hw (lv_sub hl [1, 2, 0] rfl)
set_option maxRecDepth 20000 in
theorem LX9_willing_37 {p : Program} {l : Launch} {e : Env} {R : Room} {s : State} {m : MethodId} {args : Array Value} {below : List Frame} {meth : Method} {c : Code} {Q : State → Prop} {D : va_G} {C : Nat → ClassId} {A : Nat → Prop} (cx : CX p m c s args RX9 cX9_willing 3 D C A R 2) {q_ q_owes q_denies q_debt q_cut q_sight q_event q_book q_text q_path q_ring q_balance q_left q_sum q_parts q_group q_payment q_then q_image q_tapeSort q_tapeSize q_items : Nat} {u_people : Int32} {u_debts : Int32} {u_cuts : Int32} {u_seen : Int32} {u_events : Int32} {u_inBook : Int32} {u_texted : Int32} {u_rule : Int32} {u_rings : Int32} {u_size : Int32} {u_least : Int32} {u_worth : Int64} {u_groups : Int32} {u_imaged : Int32} {u_owes : (Nat → Int32)} {u_denies : (Nat → Int32)} {u_balance : (Nat → Int32)} {z : (Int32 × (Nat → Int32) × (Nat → Int32) × (Nat → Int32))} (hret : RT p l e R s m args below meth c Q D A cX9_willing none [(q_, .inr (9, [.int u_people, .ref q_owes, .ref q_denies, .int u_debts, .ref q_debt, .int u_cuts, .ref q_cut, .int u_seen, .ref q_sight, .int u_events, .ref q_event, .int u_inBook, .ref q_book, .int u_texted, .ref q_text, .ref q_path, .int u_rule, .int u_rings, .int u_size, .int u_least, .long u_worth, .ref q_ring, .ref q_balance, .ref q_left, .ref q_sum, .ref q_parts, .int u_groups, .ref q_group, .int z.1, .ref q_payment, .ref q_then, .int u_imaged, .ref q_image, .ref q_tapeSort, .ref q_tapeSize, .ref q_items])), (q_owes, .inl (C 0, 36, .inl u_owes)), (q_denies, .inl (C 0, 36, .inl u_denies)), (q_balance, .inl (C 0, 6, .inl z.2.1)), (q_left, .inl (C 0, 6, .inl z.2.2.1)), (q_payment, .inl (C 0, 30, .inl z.2.2.2))] none) :
    ∀ (n : Nat) (x1 : Int32) (u_paid : Int32) (u_left : (Nat → Int32)) (u_payment : (Nat → Int32)) (H : Heap) (locs : List Loc) (ls : Array Slot), fX9_willing_L37 u_people u_denies u_balance n x1 u_paid u_left u_payment = some z → HW D A s.heap H locs [(q_, .inr (9, [.int u_people, .ref q_owes, .ref q_denies, .int u_debts, .ref q_debt, .int u_cuts, .ref q_cut, .int u_seen, .ref q_sight, .int u_events, .ref q_event, .int u_inBook, .ref q_book, .int u_texted, .ref q_text, .ref q_path, .int u_rule, .int u_rings, .int u_size, .int u_least, .long u_worth, .ref q_ring, .ref q_balance, .ref q_left, .ref q_sum, .ref q_parts, .int u_groups, .ref q_group, .int u_paid, .ref q_payment, .ref q_then, .int u_imaged, .ref q_image, .ref q_tapeSort, .ref q_tapeSize, .ref q_items])), (q_owes, .inl (C 0, 36, .inl u_owes)), (q_denies, .inl (C 0, 36, .inl u_denies)), (q_balance, .inl (C 0, 6, .inl u_balance)), (q_left, .inl (C 0, 6, .inl u_left)), (q_payment, .inl (C 0, 30, .inl u_payment))] → lv_has ls 3 [(0, .ref q_), (1, .int x1)] → W p l e R s m args below meth c H locs 0 0 Q (F0 m 37 ls []) := by
  have hx := cx.1
  have hb := cx.2.1
  intro n
  induction n with
  | zero => intro x1 u_paid u_left u_payment H locs ls hF; cases hF
  | succ n ih =>
    intro x1 u_paid u_left u_payment H locs ls hF hw hl
    rw [fX9_willing_L37.eq_2] at hF
    refine lv_iload_n hx hb dX9_willing_37 rfl (lv_at hl 1 rfl) ?_
    refine lv_aload_n hx hb dX9_willing_38 rfl (lv_at hl 0 rfl) ?_
    refine r_get (ci := 9) (v := .int u_people) cx hw iX9 0 0 rfl rfl (by decide) wf_X9_76 rfl dX9_willing_39 ?_
    refine lv_icmp_ge (tgt := 105) hx hb dX9_willing_42 (by decide) (fun c6 => ?_) (fun c6 => ?_)
    · replace hF := oi_t c6 hF
      obtain rfl := Option.some.inj hF
      exact rt_v hret hw rfl dX9_willing_105
    · replace hF := oi_f c6 hF
      refine lv_iconst (v := 0) hx hb dX9_willing_45 (by decide) ?_
      refine lv_istore_n (lv' := [(2, .int 0), (0, .ref q_), (1, .int x1)]) hx hb dX9_willing_46 rfl hl (by decide) rfl (fun ls hl => ?_)
      refine LX9_willing_47 cx hret (fun u_paid_15 u_left_15 u_payment_15 H locs ls hF hw hl => ?_) 400 0 u_paid u_left u_payment H locs ls hF hw (lv_sub hl [1, 2, 0] rfl)
      · refine lv_iinc (v := x1 + 1) (lv' := [(1, .int (x1 + 1)), (0, .ref q_)]) hx hb dX9_willing_99 hl (k := 1) rfl rfl (by decide) rfl (fun ls hl => ?_)
        refine lv_goto (tgt := 37) hx hb dX9_willing_102 (by decide) ?_
        exact ih (x1 + 1) u_paid_15 u_left_15 u_payment_15 H locs ls hF hw (lv_sub hl [1, 0] rfl)
set_option maxRecDepth 20000 in
theorem CX9_willing (l : Launch) (D : va_G) (C : Nat → ClassId) (q_ q_owes q_denies q_debt q_cut q_sight q_event q_book q_text q_path q_ring q_balance q_left q_sum q_parts q_group q_payment q_then q_image q_tapeSort q_tapeSize q_items : Nat) (u_people : Int32) (u_debts : Int32) (u_cuts : Int32) (u_seen : Int32) (u_events : Int32) (u_inBook : Int32) (u_texted : Int32) (u_rule : Int32) (u_rings : Int32) (u_size : Int32) (u_least : Int32) (u_worth : Int64) (u_groups : Int32) (u_paid : Int32) (u_imaged : Int32) (u_owes : (Nat → Int32)) (u_denies : (Nat → Int32)) (u_balance : (Nat → Int32)) (u_left : (Nat → Int32)) (u_payment : (Nat → Int32)) (z : (Int32 × (Nat → Int32) × (Nat → Int32) × (Nat → Int32))) (hF : fX9_willing u_people u_owes u_denies u_balance u_left u_payment = some z) : Ct l yX9_willing cX9_willing 3 none 2 D C [.ref q_] [(q_, .inr (9, [.int u_people, .ref q_owes, .ref q_denies, .int u_debts, .ref q_debt, .int u_cuts, .ref q_cut, .int u_seen, .ref q_sight, .int u_events, .ref q_event, .int u_inBook, .ref q_book, .int u_texted, .ref q_text, .ref q_path, .int u_rule, .int u_rings, .int u_size, .int u_least, .long u_worth, .ref q_ring, .ref q_balance, .ref q_left, .ref q_sum, .ref q_parts, .int u_groups, .ref q_group, .int u_paid, .ref q_payment, .ref q_then, .int u_imaged, .ref q_image, .ref q_tapeSort, .ref q_tapeSize, .ref q_items])), (q_owes, .inl (C 0, 36, .inl u_owes)), (q_denies, .inl (C 0, 36, .inl u_denies)), (q_balance, .inl (C 0, 6, .inl u_balance)), (q_left, .inl (C 0, 6, .inl u_left)), (q_payment, .inl (C 0, 30, .inl u_payment))] [(q_, .inr (9, [.int u_people, .ref q_owes, .ref q_denies, .int u_debts, .ref q_debt, .int u_cuts, .ref q_cut, .int u_seen, .ref q_sight, .int u_events, .ref q_event, .int u_inBook, .ref q_book, .int u_texted, .ref q_text, .ref q_path, .int u_rule, .int u_rings, .int u_size, .int u_least, .long u_worth, .ref q_ring, .ref q_balance, .ref q_left, .ref q_sum, .ref q_parts, .int u_groups, .ref q_group, .int z.1, .ref q_payment, .ref q_then, .int u_imaged, .ref q_image, .ref q_tapeSort, .ref q_tapeSize, .ref q_items])), (q_owes, .inl (C 0, 36, .inl u_owes)), (q_denies, .inl (C 0, 36, .inl u_denies)), (q_balance, .inl (C 0, 6, .inl z.2.1)), (q_left, .inl (C 0, 6, .inl z.2.2.1)), (q_payment, .inl (C 0, 30, .inl z.2.2.2))] none := by
  refine Ct_of (by decide) (Nat.le_of_ble_eq_true rfl) ?_
  intro p e R s m args below meth c A Q H locs ls cx hw hl hret
  have cx : CX p m c s args RX9 cX9_willing 3 D C A R 2 := cx
  have hx := cx.1
  have hb := cx.2.1
  have hl : lv_has ls 3 [(0, .ref q_)] := hl
  rw [fX9_willing.eq_1] at hF
  refine lv_aload_n hx hb dX9_willing_0 rfl (lv_at hl 0 rfl) ?_
  obtain ⟨z1, hz1, hF⟩ := ob hF
  refine cV (wr := [(q_denies, .inl (C 0, 36, .inl u_denies)), (q_left, .inl (C 0, 6, .inl u_left)), (q_payment, .inl (C 0, 30, .inl u_payment))]) (w2 := [(q_, .inr (9, [.int u_people, .ref q_owes, .ref q_denies, .int u_debts, .ref q_debt, .int u_cuts, .ref q_cut, .int u_seen, .ref q_sight, .int u_events, .ref q_event, .int u_inBook, .ref q_book, .int u_texted, .ref q_text, .ref q_path, .int u_rule, .int u_rings, .int u_size, .int u_least, .long u_worth, .ref q_ring, .ref q_balance, .ref q_left, .ref q_sum, .ref q_parts, .int u_groups, .ref q_group, .int u_paid, .ref q_payment, .ref q_then, .int u_imaged, .ref q_image, .ref q_tapeSort, .ref q_tapeSize, .ref q_items])), (q_owes, .inl (C 0, 36, .inl u_owes)), (q_denies, .inl (C 0, 36, .inl u_denies)), (q_balance, .inl (C 0, 6, .inl z1)), (q_left, .inl (C 0, 6, .inl u_left)), (q_payment, .inl (C 0, 30, .inl u_payment))]) (st2 := []) cx (CX9_balances l D C q_ q_owes q_denies q_debt q_cut q_sight q_event q_book q_text q_path q_ring q_balance q_left q_sum q_parts q_group q_payment q_then q_image q_tapeSort q_tapeSize q_items u_people u_debts u_cuts u_seen u_events u_inBook u_texted u_rule u_rings u_size u_least u_worth u_groups u_paid u_imaged u_owes u_balance z1 hz1) lk_X9_175 my_X9_balances ml_X9_balances ⟨by decide, by decide⟩ hw [0, 1, 3] [2, 4, 5] [3, 4, 0, 5, 1, 2] rfl rfl (by decide) rfl rfl rfl rfl (Nat.le_of_ble_eq_true rfl) dX9_willing_1 rfl (fun H locs hw => ?_) hl.1
  refine lv_aload_n hx hb dX9_willing_4 rfl (lv_at hl 0 rfl) ?_
  refine lv_iconst (v := 0) hx hb dX9_willing_5 (by decide) ?_
  refine r_put (ci := 9) (w2 := [(q_, .inr (9, [.int u_people, .ref q_owes, .ref q_denies, .int u_debts, .ref q_debt, .int u_cuts, .ref q_cut, .int u_seen, .ref q_sight, .int u_events, .ref q_event, .int u_inBook, .ref q_book, .int u_texted, .ref q_text, .ref q_path, .int u_rule, .int u_rings, .int u_size, .int u_least, .long u_worth, .ref q_ring, .ref q_balance, .ref q_left, .ref q_sum, .ref q_parts, .int u_groups, .ref q_group, .int 0, .ref q_payment, .ref q_then, .int u_imaged, .ref q_image, .ref q_tapeSort, .ref q_tapeSize, .ref q_items])), (q_owes, .inl (C 0, 36, .inl u_owes)), (q_denies, .inl (C 0, 36, .inl u_denies)), (q_balance, .inl (C 0, 6, .inl z1)), (q_left, .inl (C 0, 6, .inl u_left)), (q_payment, .inl (C 0, 30, .inl u_payment))]) cx hw iX9 tyX9_ok nmX9 0 28 rfl rfl (by decide) wf_X9_186 rfl rfl rfl rfl (Nat.le_of_ble_eq_true rfl) dX9_willing_6 rfl (fun H locs hw => ?_)
  refine lv_iconst (v := 0) hx hb dX9_willing_9 (by decide) ?_
  refine lv_istore_n (lv' := [(1, .int 0), (0, .ref q_)]) hx hb dX9_willing_10 rfl hl (by decide) rfl (fun ls hl => ?_)
  refine LX9_willing_11 cx hret (fun u_left_5 H locs ls hF hw hl => ?_) 400 0 u_left H locs ls hF hw (lv_sub hl [1, 0] rfl)
  · refine lv_iconst (v := 0) hx hb dX9_willing_35 (by decide) ?_
    refine lv_istore_n (lv' := [(1, .int 0), (0, .ref q_)]) hx hb dX9_willing_36 rfl hl (by decide) rfl (fun ls hl => ?_)
    refine LX9_willing_37 cx hret 400 0 0 u_left_5 u_payment H locs ls hF hw (lv_sub hl [1, 0] rfl)
theorem dX9_paidOf_0 : decode cX9_paidOf 0 = .ok (.iload_n 1, 1) := by decide +kernel
theorem dX9_paidOf_1 : decode cX9_paidOf 1 = .ok (.iconst 0, 1) := by decide +kernel
theorem dX9_paidOf_2 : decode cX9_paidOf 2 = .ok (.aload_n 0, 1) := by decide +kernel
theorem dX9_paidOf_3 : decode cX9_paidOf 3 = .ok (.getfield 186, 3) := by decide +kernel
theorem dX9_paidOf_6 : decode cX9_paidOf 6 = .ok (.iconst 1, 1) := by decide +kernel
theorem dX9_paidOf_7 : decode cX9_paidOf 7 = .ok (.isub, 1) := by decide +kernel
theorem dX9_paidOf_8 : decode cX9_paidOf 8 = .ok (.invokestatic 80, 3) := by decide +kernel
theorem dX9_paidOf_11 : decode cX9_paidOf 11 = .ok (.ifCond .eq 25, 3) := by decide +kernel
theorem dX9_paidOf_14 : decode cX9_paidOf 14 = .ok (.iload_n 2, 1) := by decide +kernel
theorem dX9_paidOf_15 : decode cX9_paidOf 15 = .ok (.iconst 0, 1) := by decide +kernel
theorem dX9_paidOf_16 : decode cX9_paidOf 16 = .ok (.iconst 2, 1) := by decide +kernel
theorem dX9_paidOf_17 : decode cX9_paidOf 17 = .ok (.invokestatic 80, 3) := by decide +kernel
theorem dX9_paidOf_20 : decode cX9_paidOf 20 = .ok (.ifCond .eq 16, 3) := by decide +kernel
theorem dX9_paidOf_23 : decode cX9_paidOf 23 = .ok (.aload_n 0, 1) := by decide +kernel
theorem dX9_paidOf_24 : decode cX9_paidOf 24 = .ok (.getfield 57, 3) := by decide +kernel
theorem dX9_paidOf_27 : decode cX9_paidOf 27 = .ok (.iconst 3, 1) := by decide +kernel
theorem dX9_paidOf_28 : decode cX9_paidOf 28 = .ok (.iload_n 1, 1) := by decide +kernel
theorem dX9_paidOf_29 : decode cX9_paidOf 29 = .ok (.imul, 1) := by decide +kernel
theorem dX9_paidOf_30 : decode cX9_paidOf 30 = .ok (.iload_n 2, 1) := by decide +kernel
theorem dX9_paidOf_31 : decode cX9_paidOf 31 = .ok (.iadd, 1) := by decide +kernel
theorem dX9_paidOf_32 : decode cX9_paidOf 32 = .ok (.iaload, 1) := by decide +kernel
theorem dX9_paidOf_33 : decode cX9_paidOf 33 = .ok (.goto 4, 3) := by decide +kernel
theorem dX9_paidOf_36 : decode cX9_paidOf 36 = .ok (.iconst (-1), 1) := by decide +kernel
theorem dX9_paidOf_37 : decode cX9_paidOf 37 = .ok (.ireturn, 1) := by decide +kernel
def fX9_paidOf (u_paid : Int32) (u_payment : (Nat → Int32)) (x1 : Int32) (x2 : Int32) : Option Int32 := (fX9_within x1 0 (u_paid - 1)).bind (fun z1 => if z1 = 0 then (some (-1)) else ((fX9_within x2 0 2).bind (fun z3 => if z3 = 0 then (some (-1)) else (gA ((3 * x1) + x2) 30 (some (u_payment ((3 * x1) + x2).toNatClampNeg))))))
set_option maxRecDepth 20000 in
theorem CX9_paidOf (l : Launch) (D : va_G) (C : Nat → ClassId) (q_ q_owes q_denies q_debt q_cut q_sight q_event q_book q_text q_path q_ring q_balance q_left q_sum q_parts q_group q_payment q_then q_image q_tapeSort q_tapeSize q_items : Nat) (u_people : Int32) (u_debts : Int32) (u_cuts : Int32) (u_seen : Int32) (u_events : Int32) (u_inBook : Int32) (u_texted : Int32) (u_rule : Int32) (u_rings : Int32) (u_size : Int32) (u_least : Int32) (u_worth : Int64) (u_groups : Int32) (u_paid : Int32) (u_imaged : Int32) (u_payment : (Nat → Int32)) (x1 : Int32) (x2 : Int32) (z : Int32) (hF : fX9_paidOf u_paid u_payment x1 x2 = some z) : Ct l yX9_paidOf cX9_paidOf 3 (some .int) 2 D C [.ref q_, .int x1, .int x2] [(q_, .inr (9, [.int u_people, .ref q_owes, .ref q_denies, .int u_debts, .ref q_debt, .int u_cuts, .ref q_cut, .int u_seen, .ref q_sight, .int u_events, .ref q_event, .int u_inBook, .ref q_book, .int u_texted, .ref q_text, .ref q_path, .int u_rule, .int u_rings, .int u_size, .int u_least, .long u_worth, .ref q_ring, .ref q_balance, .ref q_left, .ref q_sum, .ref q_parts, .int u_groups, .ref q_group, .int u_paid, .ref q_payment, .ref q_then, .int u_imaged, .ref q_image, .ref q_tapeSort, .ref q_tapeSize, .ref q_items])), (q_payment, .inl (C 0, 30, .inl u_payment))] [(q_, .inr (9, [.int u_people, .ref q_owes, .ref q_denies, .int u_debts, .ref q_debt, .int u_cuts, .ref q_cut, .int u_seen, .ref q_sight, .int u_events, .ref q_event, .int u_inBook, .ref q_book, .int u_texted, .ref q_text, .ref q_path, .int u_rule, .int u_rings, .int u_size, .int u_least, .long u_worth, .ref q_ring, .ref q_balance, .ref q_left, .ref q_sum, .ref q_parts, .int u_groups, .ref q_group, .int u_paid, .ref q_payment, .ref q_then, .int u_imaged, .ref q_image, .ref q_tapeSort, .ref q_tapeSize, .ref q_items])), (q_payment, .inl (C 0, 30, .inl u_payment))] (some (.int z)) := by
  refine Ct_of (by decide) (Nat.le_of_ble_eq_true rfl) ?_
  intro p e R s m args below meth c A Q H locs ls cx hw hl hret
  have cx : CX p m c s args RX9 cX9_paidOf 3 D C A R 2 := cx
  have hx := cx.1
  have hb := cx.2.1
  have hl : lv_has ls 3 [(0, .ref q_), (1, .int x1), (2, .int x2)] := hl
  rw [fX9_paidOf.eq_1] at hF
  refine lv_iload_n hx hb dX9_paidOf_0 rfl (lv_at hl 1 rfl) ?_
  refine lv_iconst (v := 0) hx hb dX9_paidOf_1 (by decide) ?_
  refine lv_aload_n hx hb dX9_paidOf_2 rfl (lv_at hl 0 rfl) ?_
  refine r_get (ci := 9) (v := .int u_paid) cx hw iX9 0 28 rfl rfl (by decide) wf_X9_186 rfl dX9_paidOf_3 ?_
  refine lv_iconst (v := 1) hx hb dX9_paidOf_6 (by decide) ?_
  refine lv_isub hx hb dX9_paidOf_7 ?_
  obtain ⟨z1, hz1, hF⟩ := ob hF
  refine cS (wr := [(q_, .inr (9, [.int u_people, .ref q_owes, .ref q_denies, .int u_debts, .ref q_debt, .int u_cuts, .ref q_cut, .int u_seen, .ref q_sight, .int u_events, .ref q_event, .int u_inBook, .ref q_book, .int u_texted, .ref q_text, .ref q_path, .int u_rule, .int u_rings, .int u_size, .int u_least, .long u_worth, .ref q_ring, .ref q_balance, .ref q_left, .ref q_sum, .ref q_parts, .int u_groups, .ref q_group, .int u_paid, .ref q_payment, .ref q_then, .int u_imaged, .ref q_image, .ref q_tapeSort, .ref q_tapeSize, .ref q_items])), (q_payment, .inl (C 0, 30, .inl u_payment))]) (w2 := [(q_, .inr (9, [.int u_people, .ref q_owes, .ref q_denies, .int u_debts, .ref q_debt, .int u_cuts, .ref q_cut, .int u_seen, .ref q_sight, .int u_events, .ref q_event, .int u_inBook, .ref q_book, .int u_texted, .ref q_text, .ref q_path, .int u_rule, .int u_rings, .int u_size, .int u_least, .long u_worth, .ref q_ring, .ref q_balance, .ref q_left, .ref q_sum, .ref q_parts, .int u_groups, .ref q_group, .int u_paid, .ref q_payment, .ref q_then, .int u_imaged, .ref q_image, .ref q_tapeSort, .ref q_tapeSize, .ref q_items])), (q_payment, .inl (C 0, 30, .inl u_payment))]) (st2 := [.int z1]) cx (CX9_within l D C x1 0 (u_paid - 1) z1 hz1) lk_X9_80 my_X9_within ml_X9_within ⟨by decide, by decide⟩ hw [] [0, 1] [0, 1] rfl rfl (by decide) rfl rfl (Nat.le_of_ble_eq_true rfl) dX9_paidOf_8 rfl (fun H locs hw => ?_) hl.1
  refine lv_if_eq (tgt := 36) hx hb dX9_paidOf_11 (by decide) (fun c2 => ?_) (fun c2 => ?_)
  · replace hF := oi_t c2 hF
    refine lv_iconst (v := (-1)) hx hb dX9_paidOf_36 (by decide) ?_
    obtain rfl := Option.some.inj hF
    exact rt_i hret hw rfl dX9_paidOf_37
  · replace hF := oi_f c2 hF
    refine lv_iload_n hx hb dX9_paidOf_14 rfl (lv_at hl 2 rfl) ?_
    refine lv_iconst (v := 0) hx hb dX9_paidOf_15 (by decide) ?_
    refine lv_iconst (v := 2) hx hb dX9_paidOf_16 (by decide) ?_
    obtain ⟨z3, hz3, hF⟩ := ob hF
    refine cS (wr := [(q_, .inr (9, [.int u_people, .ref q_owes, .ref q_denies, .int u_debts, .ref q_debt, .int u_cuts, .ref q_cut, .int u_seen, .ref q_sight, .int u_events, .ref q_event, .int u_inBook, .ref q_book, .int u_texted, .ref q_text, .ref q_path, .int u_rule, .int u_rings, .int u_size, .int u_least, .long u_worth, .ref q_ring, .ref q_balance, .ref q_left, .ref q_sum, .ref q_parts, .int u_groups, .ref q_group, .int u_paid, .ref q_payment, .ref q_then, .int u_imaged, .ref q_image, .ref q_tapeSort, .ref q_tapeSize, .ref q_items])), (q_payment, .inl (C 0, 30, .inl u_payment))]) (w2 := [(q_, .inr (9, [.int u_people, .ref q_owes, .ref q_denies, .int u_debts, .ref q_debt, .int u_cuts, .ref q_cut, .int u_seen, .ref q_sight, .int u_events, .ref q_event, .int u_inBook, .ref q_book, .int u_texted, .ref q_text, .ref q_path, .int u_rule, .int u_rings, .int u_size, .int u_least, .long u_worth, .ref q_ring, .ref q_balance, .ref q_left, .ref q_sum, .ref q_parts, .int u_groups, .ref q_group, .int u_paid, .ref q_payment, .ref q_then, .int u_imaged, .ref q_image, .ref q_tapeSort, .ref q_tapeSize, .ref q_items])), (q_payment, .inl (C 0, 30, .inl u_payment))]) (st2 := [.int z3]) cx (CX9_within l D C x2 0 2 z3 hz3) lk_X9_80 my_X9_within ml_X9_within ⟨by decide, by decide⟩ hw [] [0, 1] [0, 1] rfl rfl (by decide) rfl rfl (Nat.le_of_ble_eq_true rfl) dX9_paidOf_17 rfl (fun H locs hw => ?_) hl.1
    refine lv_if_eq (tgt := 36) hx hb dX9_paidOf_20 (by decide) (fun c4 => ?_) (fun c4 => ?_)
    · replace hF := oi_t c4 hF
      refine lv_iconst (v := (-1)) hx hb dX9_paidOf_36 (by decide) ?_
      obtain rfl := Option.some.inj hF
      exact rt_i hret hw rfl dX9_paidOf_37
    · replace hF := oi_f c4 hF
      refine lv_aload_n hx hb dX9_paidOf_23 rfl (lv_at hl 0 rfl) ?_
      refine r_get (ci := 9) (v := .ref q_payment) cx hw iX9 0 29 rfl rfl (by decide) wf_X9_57 rfl dX9_paidOf_24 ?_
      refine lv_iconst (v := 3) hx hb dX9_paidOf_27 (by decide) ?_
      refine lv_iload_n hx hb dX9_paidOf_28 rfl (lv_at hl 1 rfl) ?_
      refine lv_imul hx hb dX9_paidOf_29 ?_
      refine lv_iload_n hx hb dX9_paidOf_30 rfl (lv_at hl 2 rfl) ?_
      refine lv_iadd hx hb dX9_paidOf_31 ?_
      obtain ⟨g5, hF⟩ := gA_s hF
      refine r_iald cx hw 1 rfl g5 dX9_paidOf_32 ?_
      refine lv_goto (tgt := 37) hx hb dX9_paidOf_33 (by decide) ?_
      obtain rfl := Option.some.inj hF
      exact rt_i hret hw rfl dX9_paidOf_37
theorem lk_X9_192 : Cond.methodLink RX9 192 yX9_payments ∈ gdt := gdt_of 1087 (by decide +kernel) (by decide +kernel)
theorem lk_X9_195 : Cond.methodLink RX9 195 yX9_paidOf ∈ gdt := gdt_of 1095 (by decide +kernel) (by decide +kernel)
theorem my_X9_payments : (yX9_payments.cls ≠ "java/lang/invoke/MethodHandle" ∧ yX9_payments.cls ≠ "java/lang/invoke/VarHandle") ∧ Cond.instanceMethod yX9_payments ∈ gdt ∧ Cond.selects yX9_payments.cls yX9_payments yX9_payments ∈ gdt ∧ Cond.initialized yX9_payments.cls ∈ gdt ∧ Cond.code yX9_payments cX9_payments 4 none ∈ gdt := ⟨⟨by decide +kernel, by decide +kernel⟩, gdt_of 1089 (by decide +kernel) (by decide +kernel), gdt_of 48 (by decide +kernel) (by decide +kernel), gdt_of 77 (by decide +kernel) (by decide +kernel), gdt_of 1090 (by decide +kernel) (by decide +kernel)⟩
theorem ml_X9_payments : (parseMethodDescriptor yX9_payments.desc).map (fun d => d.parameters.length) = some 0 := by decide +kernel
theorem my_X9_paidOf : (yX9_paidOf.cls ≠ "java/lang/invoke/MethodHandle" ∧ yX9_paidOf.cls ≠ "java/lang/invoke/VarHandle") ∧ Cond.instanceMethod yX9_paidOf ∈ gdt ∧ Cond.selects yX9_paidOf.cls yX9_paidOf yX9_paidOf ∈ gdt ∧ Cond.initialized yX9_paidOf.cls ∈ gdt ∧ Cond.code yX9_paidOf cX9_paidOf 3 (some .int) ∈ gdt := ⟨⟨by decide +kernel, by decide +kernel⟩, gdt_of 1097 (by decide +kernel) (by decide +kernel), gdt_of 50 (by decide +kernel) (by decide +kernel), gdt_of 77 (by decide +kernel) (by decide +kernel), gdt_of 1098 (by decide +kernel) (by decide +kernel)⟩
theorem ml_X9_paidOf : (parseMethodDescriptor yX9_paidOf.desc).map (fun d => d.parameters.length) = some 2 := by decide +kernel
theorem dX9_payment_0 : decode cX9_payment 0 = .ok (.aload_n 0, 1) := by decide +kernel
theorem dX9_payment_1 : decode cX9_payment 1 = .ok (.invokevirtual 192, 3) := by decide +kernel
theorem dX9_payment_4 : decode cX9_payment 4 = .ok (.aload_n 0, 1) := by decide +kernel
theorem dX9_payment_5 : decode cX9_payment 5 = .ok (.iload_n 1, 1) := by decide +kernel
theorem dX9_payment_6 : decode cX9_payment 6 = .ok (.iload_n 2, 1) := by decide +kernel
theorem dX9_payment_7 : decode cX9_payment 7 = .ok (.invokevirtual 195, 3) := by decide +kernel
theorem dX9_payment_10 : decode cX9_payment 10 = .ok (.ireturn, 1) := by decide +kernel
def fX9_payment (u_people : Int32) (u_owes : (Nat → Int32)) (u_balance : (Nat → Int32)) (u_left : (Nat → Int32)) (u_sum : (Nat → Int32)) (u_parts : (Nat → Int32)) (u_group : (Nat → Int32)) (u_payment : (Nat → Int32)) (x1 : Int32) (x2 : Int32) : Option (Int32 × Int32 × Int32 × (Nat → Int32) × (Nat → Int32) × (Nat → Int32) × (Nat → Int32) × (Nat → Int32) × (Nat → Int32)) := (fX9_payments u_people u_owes u_balance u_left u_sum u_parts u_group u_payment).bind (fun z1 => (fX9_paidOf z1.2.1 z1.2.2.2.2.2.2.2 x1 x2).bind (fun z2 => some (z2, z1.1, z1.2.1, z1.2.2.1, z1.2.2.2.1, z1.2.2.2.2.1, z1.2.2.2.2.2.1, z1.2.2.2.2.2.2.1, z1.2.2.2.2.2.2.2)))
set_option maxRecDepth 20000 in
theorem CX9_payment (l : Launch) (D : va_G) (C : Nat → ClassId) (q_ q_owes q_denies q_debt q_cut q_sight q_event q_book q_text q_path q_ring q_balance q_left q_sum q_parts q_group q_payment q_then q_image q_tapeSort q_tapeSize q_items : Nat) (u_people : Int32) (u_debts : Int32) (u_cuts : Int32) (u_seen : Int32) (u_events : Int32) (u_inBook : Int32) (u_texted : Int32) (u_rule : Int32) (u_rings : Int32) (u_size : Int32) (u_least : Int32) (u_worth : Int64) (u_groups : Int32) (u_paid : Int32) (u_imaged : Int32) (u_owes : (Nat → Int32)) (u_balance : (Nat → Int32)) (u_left : (Nat → Int32)) (u_sum : (Nat → Int32)) (u_parts : (Nat → Int32)) (u_group : (Nat → Int32)) (u_payment : (Nat → Int32)) (x1 : Int32) (x2 : Int32) (z : (Int32 × Int32 × Int32 × (Nat → Int32) × (Nat → Int32) × (Nat → Int32) × (Nat → Int32) × (Nat → Int32) × (Nat → Int32))) (hF : fX9_payment u_people u_owes u_balance u_left u_sum u_parts u_group u_payment x1 x2 = some z) : Ct l yX9_payment cX9_payment 3 (some .int) 4 D C [.ref q_, .int x1, .int x2] [(q_, .inr (9, [.int u_people, .ref q_owes, .ref q_denies, .int u_debts, .ref q_debt, .int u_cuts, .ref q_cut, .int u_seen, .ref q_sight, .int u_events, .ref q_event, .int u_inBook, .ref q_book, .int u_texted, .ref q_text, .ref q_path, .int u_rule, .int u_rings, .int u_size, .int u_least, .long u_worth, .ref q_ring, .ref q_balance, .ref q_left, .ref q_sum, .ref q_parts, .int u_groups, .ref q_group, .int u_paid, .ref q_payment, .ref q_then, .int u_imaged, .ref q_image, .ref q_tapeSort, .ref q_tapeSize, .ref q_items])), (q_owes, .inl (C 0, 36, .inl u_owes)), (q_balance, .inl (C 0, 6, .inl u_balance)), (q_left, .inl (C 0, 6, .inl u_left)), (q_sum, .inl (C 0, 64, .inl u_sum)), (q_parts, .inl (C 0, 64, .inl u_parts)), (q_group, .inl (C 0, 3, .inl u_group)), (q_payment, .inl (C 0, 30, .inl u_payment))] [(q_, .inr (9, [.int u_people, .ref q_owes, .ref q_denies, .int u_debts, .ref q_debt, .int u_cuts, .ref q_cut, .int u_seen, .ref q_sight, .int u_events, .ref q_event, .int u_inBook, .ref q_book, .int u_texted, .ref q_text, .ref q_path, .int u_rule, .int u_rings, .int u_size, .int u_least, .long u_worth, .ref q_ring, .ref q_balance, .ref q_left, .ref q_sum, .ref q_parts, .int z.2.1, .ref q_group, .int z.2.2.1, .ref q_payment, .ref q_then, .int u_imaged, .ref q_image, .ref q_tapeSort, .ref q_tapeSize, .ref q_items])), (q_owes, .inl (C 0, 36, .inl u_owes)), (q_balance, .inl (C 0, 6, .inl z.2.2.2.1)), (q_left, .inl (C 0, 6, .inl z.2.2.2.2.1)), (q_sum, .inl (C 0, 64, .inl z.2.2.2.2.2.1)), (q_parts, .inl (C 0, 64, .inl z.2.2.2.2.2.2.1)), (q_group, .inl (C 0, 3, .inl z.2.2.2.2.2.2.2.1)), (q_payment, .inl (C 0, 30, .inl z.2.2.2.2.2.2.2.2))] (some (.int z.1)) := by
  refine Ct_of (by decide) (Nat.le_of_ble_eq_true rfl) ?_
  intro p e R s m args below meth c A Q H locs ls cx hw hl hret
  have cx : CX p m c s args RX9 cX9_payment 3 D C A R 4 := cx
  have hx := cx.1
  have hb := cx.2.1
  have hl : lv_has ls 3 [(0, .ref q_), (1, .int x1), (2, .int x2)] := hl
  rw [fX9_payment.eq_1] at hF
  refine lv_aload_n hx hb dX9_payment_0 rfl (lv_at hl 0 rfl) ?_
  obtain ⟨z1, hz1, hF⟩ := ob hF
  refine cV (wr := []) (w2 := [(q_, .inr (9, [.int u_people, .ref q_owes, .ref q_denies, .int u_debts, .ref q_debt, .int u_cuts, .ref q_cut, .int u_seen, .ref q_sight, .int u_events, .ref q_event, .int u_inBook, .ref q_book, .int u_texted, .ref q_text, .ref q_path, .int u_rule, .int u_rings, .int u_size, .int u_least, .long u_worth, .ref q_ring, .ref q_balance, .ref q_left, .ref q_sum, .ref q_parts, .int z1.1, .ref q_group, .int z1.2.1, .ref q_payment, .ref q_then, .int u_imaged, .ref q_image, .ref q_tapeSort, .ref q_tapeSize, .ref q_items])), (q_owes, .inl (C 0, 36, .inl u_owes)), (q_balance, .inl (C 0, 6, .inl z1.2.2.1)), (q_left, .inl (C 0, 6, .inl z1.2.2.2.1)), (q_sum, .inl (C 0, 64, .inl z1.2.2.2.2.1)), (q_parts, .inl (C 0, 64, .inl z1.2.2.2.2.2.1)), (q_group, .inl (C 0, 3, .inl z1.2.2.2.2.2.2.1)), (q_payment, .inl (C 0, 30, .inl z1.2.2.2.2.2.2.2))]) (st2 := []) cx (CX9_payments l D C q_ q_owes q_denies q_debt q_cut q_sight q_event q_book q_text q_path q_ring q_balance q_left q_sum q_parts q_group q_payment q_then q_image q_tapeSort q_tapeSize q_items u_people u_debts u_cuts u_seen u_events u_inBook u_texted u_rule u_rings u_size u_least u_worth u_groups u_paid u_imaged u_owes u_balance u_left u_sum u_parts u_group u_payment z1 hz1) lk_X9_192 my_X9_payments ml_X9_payments ⟨by decide, by decide⟩ hw [0, 1, 2, 3, 4, 5, 6, 7] [] [0, 1, 2, 3, 4, 5, 6, 7] rfl rfl (by decide) rfl rfl rfl rfl (Nat.le_of_ble_eq_true rfl) dX9_payment_1 rfl (fun H locs hw => ?_) hl.1
  refine lv_aload_n hx hb dX9_payment_4 rfl (lv_at hl 0 rfl) ?_
  refine lv_iload_n hx hb dX9_payment_5 rfl (lv_at hl 1 rfl) ?_
  refine lv_iload_n hx hb dX9_payment_6 rfl (lv_at hl 2 rfl) ?_
  obtain ⟨z2, hz2, hF⟩ := ob hF
  refine cV (wr := [(q_owes, .inl (C 0, 36, .inl u_owes)), (q_balance, .inl (C 0, 6, .inl z1.2.2.1)), (q_left, .inl (C 0, 6, .inl z1.2.2.2.1)), (q_sum, .inl (C 0, 64, .inl z1.2.2.2.2.1)), (q_parts, .inl (C 0, 64, .inl z1.2.2.2.2.2.1)), (q_group, .inl (C 0, 3, .inl z1.2.2.2.2.2.2.1))]) (w2 := [(q_, .inr (9, [.int u_people, .ref q_owes, .ref q_denies, .int u_debts, .ref q_debt, .int u_cuts, .ref q_cut, .int u_seen, .ref q_sight, .int u_events, .ref q_event, .int u_inBook, .ref q_book, .int u_texted, .ref q_text, .ref q_path, .int u_rule, .int u_rings, .int u_size, .int u_least, .long u_worth, .ref q_ring, .ref q_balance, .ref q_left, .ref q_sum, .ref q_parts, .int z1.1, .ref q_group, .int z1.2.1, .ref q_payment, .ref q_then, .int u_imaged, .ref q_image, .ref q_tapeSort, .ref q_tapeSize, .ref q_items])), (q_owes, .inl (C 0, 36, .inl u_owes)), (q_balance, .inl (C 0, 6, .inl z1.2.2.1)), (q_left, .inl (C 0, 6, .inl z1.2.2.2.1)), (q_sum, .inl (C 0, 64, .inl z1.2.2.2.2.1)), (q_parts, .inl (C 0, 64, .inl z1.2.2.2.2.2.1)), (q_group, .inl (C 0, 3, .inl z1.2.2.2.2.2.2.1)), (q_payment, .inl (C 0, 30, .inl z1.2.2.2.2.2.2.2))]) (st2 := [.int z2]) cx (CX9_paidOf l D C q_ q_owes q_denies q_debt q_cut q_sight q_event q_book q_text q_path q_ring q_balance q_left q_sum q_parts q_group q_payment q_then q_image q_tapeSort q_tapeSize q_items u_people u_debts u_cuts u_seen u_events u_inBook u_texted u_rule u_rings u_size u_least u_worth z1.1 z1.2.1 u_imaged z1.2.2.2.2.2.2.2 x1 x2 z2 hz2) lk_X9_195 my_X9_paidOf ml_X9_paidOf ⟨by decide, by decide⟩ hw [0, 7] [1, 2, 3, 4, 5, 6] [6, 0, 1, 2, 3, 4, 5, 7] rfl rfl (by decide) rfl rfl rfl rfl (Nat.le_of_ble_eq_true rfl) dX9_payment_7 rfl (fun H locs hw => ?_) hl.1
  obtain rfl := Option.some.inj hF
  exact rt_i hret hw rfl dX9_payment_10
theorem lk_X9_198 : Cond.methodLink RX9 198 yX9_willing ∈ gdt := gdt_of 1103 (by decide +kernel) (by decide +kernel)
theorem my_X9_willing : (yX9_willing.cls ≠ "java/lang/invoke/MethodHandle" ∧ yX9_willing.cls ≠ "java/lang/invoke/VarHandle") ∧ Cond.instanceMethod yX9_willing ∈ gdt ∧ Cond.selects yX9_willing.cls yX9_willing yX9_willing ∈ gdt ∧ Cond.initialized yX9_willing.cls ∈ gdt ∧ Cond.code yX9_willing cX9_willing 3 none ∈ gdt := ⟨⟨by decide +kernel, by decide +kernel⟩, gdt_of 1105 (by decide +kernel) (by decide +kernel), gdt_of 51 (by decide +kernel) (by decide +kernel), gdt_of 77 (by decide +kernel) (by decide +kernel), gdt_of 1106 (by decide +kernel) (by decide +kernel)⟩
theorem ml_X9_willing : (parseMethodDescriptor yX9_willing.desc).map (fun d => d.parameters.length) = some 0 := by decide +kernel
theorem dX9_willing__0 : decode cX9_willing_ 0 = .ok (.aload_n 0, 1) := by decide +kernel
theorem dX9_willing__1 : decode cX9_willing_ 1 = .ok (.invokevirtual 198, 3) := by decide +kernel
theorem dX9_willing__4 : decode cX9_willing_ 4 = .ok (.aload_n 0, 1) := by decide +kernel
theorem dX9_willing__5 : decode cX9_willing_ 5 = .ok (.iload_n 1, 1) := by decide +kernel
theorem dX9_willing__6 : decode cX9_willing_ 6 = .ok (.iload_n 2, 1) := by decide +kernel
theorem dX9_willing__7 : decode cX9_willing_ 7 = .ok (.invokevirtual 195, 3) := by decide +kernel
theorem dX9_willing__10 : decode cX9_willing_ 10 = .ok (.ireturn, 1) := by decide +kernel
def fX9_willing_ (u_people : Int32) (u_owes : (Nat → Int32)) (u_denies : (Nat → Int32)) (u_balance : (Nat → Int32)) (u_left : (Nat → Int32)) (u_payment : (Nat → Int32)) (x1 : Int32) (x2 : Int32) : Option (Int32 × Int32 × (Nat → Int32) × (Nat → Int32) × (Nat → Int32)) := (fX9_willing u_people u_owes u_denies u_balance u_left u_payment).bind (fun z1 => (fX9_paidOf z1.1 z1.2.2.2 x1 x2).bind (fun z2 => some (z2, z1.1, z1.2.1, z1.2.2.1, z1.2.2.2)))
set_option maxRecDepth 20000 in
theorem CX9_willing_ (l : Launch) (D : va_G) (C : Nat → ClassId) (q_ q_owes q_denies q_debt q_cut q_sight q_event q_book q_text q_path q_ring q_balance q_left q_sum q_parts q_group q_payment q_then q_image q_tapeSort q_tapeSize q_items : Nat) (u_people : Int32) (u_debts : Int32) (u_cuts : Int32) (u_seen : Int32) (u_events : Int32) (u_inBook : Int32) (u_texted : Int32) (u_rule : Int32) (u_rings : Int32) (u_size : Int32) (u_least : Int32) (u_worth : Int64) (u_groups : Int32) (u_paid : Int32) (u_imaged : Int32) (u_owes : (Nat → Int32)) (u_denies : (Nat → Int32)) (u_balance : (Nat → Int32)) (u_left : (Nat → Int32)) (u_payment : (Nat → Int32)) (x1 : Int32) (x2 : Int32) (z : (Int32 × Int32 × (Nat → Int32) × (Nat → Int32) × (Nat → Int32))) (hF : fX9_willing_ u_people u_owes u_denies u_balance u_left u_payment x1 x2 = some z) : Ct l yX9_willing_ cX9_willing_ 3 (some .int) 3 D C [.ref q_, .int x1, .int x2] [(q_, .inr (9, [.int u_people, .ref q_owes, .ref q_denies, .int u_debts, .ref q_debt, .int u_cuts, .ref q_cut, .int u_seen, .ref q_sight, .int u_events, .ref q_event, .int u_inBook, .ref q_book, .int u_texted, .ref q_text, .ref q_path, .int u_rule, .int u_rings, .int u_size, .int u_least, .long u_worth, .ref q_ring, .ref q_balance, .ref q_left, .ref q_sum, .ref q_parts, .int u_groups, .ref q_group, .int u_paid, .ref q_payment, .ref q_then, .int u_imaged, .ref q_image, .ref q_tapeSort, .ref q_tapeSize, .ref q_items])), (q_owes, .inl (C 0, 36, .inl u_owes)), (q_denies, .inl (C 0, 36, .inl u_denies)), (q_balance, .inl (C 0, 6, .inl u_balance)), (q_left, .inl (C 0, 6, .inl u_left)), (q_payment, .inl (C 0, 30, .inl u_payment))] [(q_, .inr (9, [.int u_people, .ref q_owes, .ref q_denies, .int u_debts, .ref q_debt, .int u_cuts, .ref q_cut, .int u_seen, .ref q_sight, .int u_events, .ref q_event, .int u_inBook, .ref q_book, .int u_texted, .ref q_text, .ref q_path, .int u_rule, .int u_rings, .int u_size, .int u_least, .long u_worth, .ref q_ring, .ref q_balance, .ref q_left, .ref q_sum, .ref q_parts, .int u_groups, .ref q_group, .int z.2.1, .ref q_payment, .ref q_then, .int u_imaged, .ref q_image, .ref q_tapeSort, .ref q_tapeSize, .ref q_items])), (q_owes, .inl (C 0, 36, .inl u_owes)), (q_denies, .inl (C 0, 36, .inl u_denies)), (q_balance, .inl (C 0, 6, .inl z.2.2.1)), (q_left, .inl (C 0, 6, .inl z.2.2.2.1)), (q_payment, .inl (C 0, 30, .inl z.2.2.2.2))] (some (.int z.1)) := by
  refine Ct_of (by decide) (Nat.le_of_ble_eq_true rfl) ?_
  intro p e R s m args below meth c A Q H locs ls cx hw hl hret
  have cx : CX p m c s args RX9 cX9_willing_ 3 D C A R 3 := cx
  have hx := cx.1
  have hb := cx.2.1
  have hl : lv_has ls 3 [(0, .ref q_), (1, .int x1), (2, .int x2)] := hl
  rw [fX9_willing_.eq_1] at hF
  refine lv_aload_n hx hb dX9_willing__0 rfl (lv_at hl 0 rfl) ?_
  obtain ⟨z1, hz1, hF⟩ := ob hF
  refine cV (wr := []) (w2 := [(q_, .inr (9, [.int u_people, .ref q_owes, .ref q_denies, .int u_debts, .ref q_debt, .int u_cuts, .ref q_cut, .int u_seen, .ref q_sight, .int u_events, .ref q_event, .int u_inBook, .ref q_book, .int u_texted, .ref q_text, .ref q_path, .int u_rule, .int u_rings, .int u_size, .int u_least, .long u_worth, .ref q_ring, .ref q_balance, .ref q_left, .ref q_sum, .ref q_parts, .int u_groups, .ref q_group, .int z1.1, .ref q_payment, .ref q_then, .int u_imaged, .ref q_image, .ref q_tapeSort, .ref q_tapeSize, .ref q_items])), (q_owes, .inl (C 0, 36, .inl u_owes)), (q_denies, .inl (C 0, 36, .inl u_denies)), (q_balance, .inl (C 0, 6, .inl z1.2.1)), (q_left, .inl (C 0, 6, .inl z1.2.2.1)), (q_payment, .inl (C 0, 30, .inl z1.2.2.2))]) (st2 := []) cx (CX9_willing l D C q_ q_owes q_denies q_debt q_cut q_sight q_event q_book q_text q_path q_ring q_balance q_left q_sum q_parts q_group q_payment q_then q_image q_tapeSort q_tapeSize q_items u_people u_debts u_cuts u_seen u_events u_inBook u_texted u_rule u_rings u_size u_least u_worth u_groups u_paid u_imaged u_owes u_denies u_balance u_left u_payment z1 hz1) lk_X9_198 my_X9_willing ml_X9_willing ⟨by decide, by decide⟩ hw [0, 1, 2, 3, 4, 5] [] [0, 1, 2, 3, 4, 5] rfl rfl (by decide) rfl rfl rfl rfl (Nat.le_of_ble_eq_true rfl) dX9_willing__1 rfl (fun H locs hw => ?_) hl.1
  refine lv_aload_n hx hb dX9_willing__4 rfl (lv_at hl 0 rfl) ?_
  refine lv_iload_n hx hb dX9_willing__5 rfl (lv_at hl 1 rfl) ?_
  refine lv_iload_n hx hb dX9_willing__6 rfl (lv_at hl 2 rfl) ?_
  obtain ⟨z2, hz2, hF⟩ := ob hF
  refine cV (wr := [(q_owes, .inl (C 0, 36, .inl u_owes)), (q_denies, .inl (C 0, 36, .inl u_denies)), (q_balance, .inl (C 0, 6, .inl z1.2.1)), (q_left, .inl (C 0, 6, .inl z1.2.2.1))]) (w2 := [(q_, .inr (9, [.int u_people, .ref q_owes, .ref q_denies, .int u_debts, .ref q_debt, .int u_cuts, .ref q_cut, .int u_seen, .ref q_sight, .int u_events, .ref q_event, .int u_inBook, .ref q_book, .int u_texted, .ref q_text, .ref q_path, .int u_rule, .int u_rings, .int u_size, .int u_least, .long u_worth, .ref q_ring, .ref q_balance, .ref q_left, .ref q_sum, .ref q_parts, .int u_groups, .ref q_group, .int z1.1, .ref q_payment, .ref q_then, .int u_imaged, .ref q_image, .ref q_tapeSort, .ref q_tapeSize, .ref q_items])), (q_owes, .inl (C 0, 36, .inl u_owes)), (q_denies, .inl (C 0, 36, .inl u_denies)), (q_balance, .inl (C 0, 6, .inl z1.2.1)), (q_left, .inl (C 0, 6, .inl z1.2.2.1)), (q_payment, .inl (C 0, 30, .inl z1.2.2.2))]) (st2 := [.int z2]) cx (CX9_paidOf l D C q_ q_owes q_denies q_debt q_cut q_sight q_event q_book q_text q_path q_ring q_balance q_left q_sum q_parts q_group q_payment q_then q_image q_tapeSort q_tapeSize q_items u_people u_debts u_cuts u_seen u_events u_inBook u_texted u_rule u_rings u_size u_least u_worth u_groups z1.1 u_imaged z1.2.2.2 x1 x2 z2 hz2) lk_X9_195 my_X9_paidOf ml_X9_paidOf ⟨by decide, by decide⟩ hw [0, 5] [1, 2, 3, 4] [4, 0, 1, 2, 3, 5] rfl rfl (by decide) rfl rfl rfl rfl (Nat.le_of_ble_eq_true rfl) dX9_willing__7 rfl (fun H locs hw => ?_) hl.1
  obtain rfl := Option.some.inj hF
  exact rt_i hret hw rfl dX9_willing__10
