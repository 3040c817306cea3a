theorem wf_X0_9 : Cond.fieldLink RX0 9 (TX0 0).1 (TX0 0).2.1 (TX0 0).2.2.1 ∈ gdt := gdt_of 141 (by decide +kernel) (by decide +kernel)
theorem wf_X0_18 : Cond.fieldLink RX0 18 (TX0 1).1 (TX0 1).2.1 (TX0 1).2.2.1 ∈ gdt := gdt_of 143 (by decide +kernel) (by decide +kernel)
theorem lk_X0_47 : Cond.methodLink RX0 47 yX2_take ∈ gdt := gdt_of 774 (by decide +kernel) (by decide +kernel)
theorem wf_X0_25 : Cond.fieldLink RX0 25 (TX0 2).1 (TX0 2).2.1 (TX0 2).2.2.1 ∈ gdt := gdt_of 145 (by decide +kernel) (by decide +kernel)
theorem lk_X0_51 : Cond.methodLink RX0 51 yX1_take ∈ gdt := gdt_of 775 (by decide +kernel) (by decide +kernel)
theorem wf_X0_34 : Cond.fieldLink RX0 34 (TX0 3).1 (TX0 3).2.1 (TX0 3).2.2.1 ∈ gdt := gdt_of 147 (by decide +kernel) (by decide +kernel)
theorem lk_X0_54 : Cond.methodLink RX0 54 yX5_take ∈ gdt := gdt_of 779 (by decide +kernel) (by decide +kernel)
theorem wf_X0_38 : Cond.fieldLink RX0 38 (TX0 4).1 (TX0 4).2.1 (TX0 4).2.2.1 ∈ gdt := gdt_of 149 (by decide +kernel) (by decide +kernel)
theorem wf_X0_41 : Cond.fieldLink RX0 41 (TX0 5).1 (TX0 5).2.1 (TX0 5).2.2.1 ∈ gdt := gdt_of 151 (by decide +kernel) (by decide +kernel)
theorem wf_X0_44 : Cond.fieldLink RX0 44 (TX0 6).1 (TX0 6).2.1 (TX0 6).2.2.1 ∈ gdt := gdt_of 153 (by decide +kernel) (by decide +kernel)
theorem my_X2_take : (yX2_take.cls ≠ "java/lang/invoke/MethodHandle" ∧ yX2_take.cls ≠ "java/lang/invoke/VarHandle") ∧ Cond.instanceMethod yX2_take ∈ gdt ∧ Cond.selects yX2_take.cls yX2_take yX2_take ∈ gdt ∧ Cond.initialized yX2_take.cls ∈ gdt ∧ Cond.code yX2_take cX2_take 3 none ∈ gdt := ⟨⟨by decide +kernel, by decide +kernel⟩, gdt_of 661 (by decide +kernel) (by decide +kernel), gdt_of 662 (by decide +kernel) (by decide +kernel), gdt_of 69 (by decide +kernel) (by decide +kernel), gdt_of 663 (by decide +kernel) (by decide +kernel)⟩
theorem ml_X2_take : (parseMethodDescriptor yX2_take.desc).map (fun d => d.parameters.length) = some 1 := by decide +kernel
theorem my_X1_take : (yX1_take.cls ≠ "java/lang/invoke/MethodHandle" ∧ yX1_take.cls ≠ "java/lang/invoke/VarHandle") ∧ Cond.instanceMethod yX1_take ∈ gdt ∧ Cond.selects yX1_take.cls yX1_take yX1_take ∈ gdt ∧ Cond.initialized yX1_take.cls ∈ gdt ∧ Cond.code yX1_take cX1_take 3 none ∈ gdt := ⟨⟨by decide +kernel, by decide +kernel⟩, gdt_of 776 (by decide +kernel) (by decide +kernel), gdt_of 777 (by decide +kernel) (by decide +kernel), gdt_of 70 (by decide +kernel) (by decide +kernel), gdt_of 778 (by decide +kernel) (by decide +kernel)⟩
theorem ml_X1_take : (parseMethodDescriptor yX1_take.desc).map (fun d => d.parameters.length) = some 1 := by decide +kernel
theorem my_X5_take : (yX5_take.cls ≠ "java/lang/invoke/MethodHandle" ∧ yX5_take.cls ≠ "java/lang/invoke/VarHandle") ∧ Cond.instanceMethod yX5_take ∈ gdt ∧ Cond.selects yX5_take.cls yX5_take yX5_take ∈ gdt ∧ Cond.initialized yX5_take.cls ∈ gdt ∧ Cond.code yX5_take cX5_take 3 none ∈ gdt := ⟨⟨by decide +kernel, by decide +kernel⟩, gdt_of 780 (by decide +kernel) (by decide +kernel), gdt_of 781 (by decide +kernel) (by decide +kernel), gdt_of 71 (by decide +kernel) (by decide +kernel), gdt_of 782 (by decide +kernel) (by decide +kernel)⟩
theorem ml_X5_take : (parseMethodDescriptor yX5_take.desc).map (fun d => d.parameters.length) = some 1 := by decide +kernel
theorem dX0_take_0 : decode cX0_take 0 = .ok (.aload_n 0, 1) := by decide +kernel
theorem dX0_take_1 : decode cX0_take 1 = .ok (.aload_n 1, 1) := by decide +kernel
theorem dX0_take_2 : decode cX0_take 2 = .ok (.getfield 9, 3) := by decide +kernel
theorem dX0_take_5 : decode cX0_take 5 = .ok (.putfield 9, 3) := by decide +kernel
theorem dX0_take_8 : decode cX0_take 8 = .ok (.aload_n 0, 1) := by decide +kernel
theorem dX0_take_9 : decode cX0_take 9 = .ok (.getfield 18, 3) := by decide +kernel
theorem dX0_take_12 : decode cX0_take 12 = .ok (.aload_n 1, 1) := by decide +kernel
theorem dX0_take_13 : decode cX0_take 13 = .ok (.getfield 18, 3) := by decide +kernel
theorem dX0_take_16 : decode cX0_take 16 = .ok (.invokevirtual 47, 3) := by decide +kernel
theorem dX0_take_19 : decode cX0_take 19 = .ok (.aload_n 0, 1) := by decide +kernel
theorem dX0_take_20 : decode cX0_take 20 = .ok (.getfield 25, 3) := by decide +kernel
theorem dX0_take_23 : decode cX0_take 23 = .ok (.aload_n 1, 1) := by decide +kernel
theorem dX0_take_24 : decode cX0_take 24 = .ok (.getfield 25, 3) := by decide +kernel
theorem dX0_take_27 : decode cX0_take 27 = .ok (.invokevirtual 51, 3) := by decide +kernel
theorem dX0_take_30 : decode cX0_take 30 = .ok (.aload_n 0, 1) := by decide +kernel
theorem dX0_take_31 : decode cX0_take 31 = .ok (.getfield 34, 3) := by decide +kernel
theorem dX0_take_34 : decode cX0_take 34 = .ok (.aload_n 1, 1) := by decide +kernel
theorem dX0_take_35 : decode cX0_take 35 = .ok (.getfield 34, 3) := by decide +kernel
theorem dX0_take_38 : decode cX0_take 38 = .ok (.invokevirtual 54, 3) := by decide +kernel
theorem dX0_take_41 : decode cX0_take 41 = .ok (.aload_n 0, 1) := by decide +kernel
theorem dX0_take_42 : decode cX0_take 42 = .ok (.getfield 38, 3) := by decide +kernel
theorem dX0_take_45 : decode cX0_take 45 = .ok (.aload_n 1, 1) := by decide +kernel
theorem dX0_take_46 : decode cX0_take 46 = .ok (.getfield 38, 3) := by decide +kernel
theorem dX0_take_49 : decode cX0_take 49 = .ok (.invokevirtual 54, 3) := by decide +kernel
theorem dX0_take_52 : decode cX0_take 52 = .ok (.aload_n 0, 1) := by decide +kernel
theorem dX0_take_53 : decode cX0_take 53 = .ok (.getfield 41, 3) := by decide +kernel
theorem dX0_take_56 : decode cX0_take 56 = .ok (.aload_n 1, 1) := by decide +kernel
theorem dX0_take_57 : decode cX0_take 57 = .ok (.getfield 41, 3) := by decide +kernel
theorem dX0_take_60 : decode cX0_take 60 = .ok (.invokevirtual 54, 3) := by decide +kernel
theorem dX0_take_63 : decode cX0_take 63 = .ok (.aload_n 0, 1) := by decide +kernel
theorem dX0_take_64 : decode cX0_take 64 = .ok (.getfield 44, 3) := by decide +kernel
theorem dX0_take_67 : decode cX0_take 67 = .ok (.aload_n 1, 1) := by decide +kernel
theorem dX0_take_68 : decode cX0_take 68 = .ok (.getfield 44, 3) := by decide +kernel
theorem dX0_take_71 : decode cX0_take 71 = .ok (.invokevirtual 54, 3) := by decide +kernel
theorem dX0_take_74 : decode cX0_take 74 = .ok (.return_, 1) := by decide +kernel
def fX0_take (n_trail_numbers : Nat) (n_seen_numbers : Nat) (n_events_numbers : Nat) (n_book_numbers : Nat) (na1_trail_numbers : Nat) (na1_seen_numbers : Nat) (na1_events_numbers : Nat) (na1_book_numbers : Nat) (u_debts_owed : (Nat → Int32)) (u_debts_order : (Nat → Int32)) (u_consents_refused : (Nat → Int32)) (u_trail_room : Int32) (u_trail_numbers : (Nat → Int32)) (u_seen_room : Int32) (u_seen_numbers : (Nat → Int32)) (u_events_room : Int32) (u_events_numbers : (Nat → Int32)) (u_book_room : Int32) (u_book_numbers : (Nat → Int32)) (ua1_people : Int32) (ua1_debts_size : Int32) (ua1_debts_owed : (Nat → Int32)) (ua1_debts_order : (Nat → Int32)) (ua1_consents_refused : (Nat → Int32)) (ua1_trail_size : Int32) (ua1_trail_numbers : (Nat → Int32)) (ua1_seen_size : Int32) (ua1_seen_numbers : (Nat → Int32)) (ua1_events_size : Int32) (ua1_events_numbers : (Nat → Int32)) (ua1_book_size : Int32) (ua1_book_numbers : (Nat → Int32)) : Option (Int32 × Int32 × (Nat → Int32) × (Nat → Int32) × (Nat → Int32) × Int32 × (Nat → Int32) × Int32 × (Nat → Int32) × Int32 × (Nat → Int32) × Int32 × (Nat → Int32)) := (fX2_take u_debts_owed u_debts_order ua1_debts_size ua1_debts_owed ua1_debts_order).bind (fun z1 => (fX1_take u_consents_refused ua1_consents_refused).bind (fun z2 => (fX5_take n_trail_numbers na1_trail_numbers u_trail_room u_trail_numbers ua1_trail_size ua1_trail_numbers).bind (fun z3 => (fX5_take n_seen_numbers na1_seen_numbers u_seen_room u_seen_numbers ua1_seen_size ua1_seen_numbers).bind (fun z4 => (fX5_take n_events_numbers na1_events_numbers u_events_room u_events_numbers ua1_events_size ua1_events_numbers).bind (fun z5 => (fX5_take n_book_numbers na1_book_numbers u_book_room u_book_numbers ua1_book_size ua1_book_numbers).bind (fun z6 => some (ua1_people, z1.1, z1.2.1, z1.2.2, z2, z3.1, z3.2, z4.1, z4.2, z5.1, z5.2, z6.1, z6.2)))))))
set_option maxRecDepth 20000 in
theorem CX0_take (l : Launch) (D : va_G) (C : Nat → ClassId) (q_ q_debts q_consents q_trail q_seen q_events q_book q_debts_owed q_debts_order q_consents_refused q_trail_numbers q_seen_numbers q_events_numbers q_book_numbers qa1_ qa1_debts qa1_consents qa1_trail qa1_seen qa1_events qa1_book qa1_debts_owed qa1_debts_order qa1_consents_refused qa1_trail_numbers qa1_seen_numbers qa1_events_numbers qa1_book_numbers n_trail_numbers n_seen_numbers n_events_numbers n_book_numbers na1_trail_numbers na1_seen_numbers na1_events_numbers na1_book_numbers : Nat) (u_people : Int32) (u_debts_size : Int32) (u_debts_owed : (Nat → Int32)) (u_debts_order : (Nat → Int32)) (u_consents_refused : (Nat → Int32)) (u_trail_room : Int32) (u_trail_size : Int32) (u_trail_numbers : (Nat → Int32)) (u_seen_room : Int32) (u_seen_size : Int32) (u_seen_numbers : (Nat → Int32)) (u_events_room : Int32) (u_events_size : Int32) (u_events_numbers : (Nat → Int32)) (u_book_room : Int32) (u_book_size : Int32) (u_book_numbers : (Nat → Int32)) (ua1_people : Int32) (ua1_debts_size : Int32) (ua1_debts_owed : (Nat → Int32)) (ua1_debts_order : (Nat → Int32)) (ua1_consents_refused : (Nat → Int32)) (ua1_trail_room : Int32) (ua1_trail_size : Int32) (ua1_trail_numbers : (Nat → Int32)) (ua1_seen_room : Int32) (ua1_seen_size : Int32) (ua1_seen_numbers : (Nat → Int32)) (ua1_events_room : Int32) (ua1_events_size : Int32) (ua1_events_numbers : (Nat → Int32)) (ua1_book_room : Int32) (ua1_book_size : Int32) (ua1_book_numbers : (Nat → Int32)) (z : (Int32 × Int32 × (Nat → Int32) × (Nat → Int32) × (Nat → Int32) × Int32 × (Nat → Int32) × Int32 × (Nat → Int32) × Int32 × (Nat → Int32) × Int32 × (Nat → Int32))) (hF : fX0_take n_trail_numbers n_seen_numbers n_events_numbers n_book_numbers na1_trail_numbers na1_seen_numbers na1_events_numbers na1_book_numbers u_debts_owed u_debts_order u_consents_refused u_trail_room u_trail_numbers u_seen_room u_seen_numbers u_events_room u_events_numbers u_book_room u_book_numbers ua1_people ua1_debts_size ua1_debts_owed ua1_debts_order ua1_consents_refused ua1_trail_size ua1_trail_numbers ua1_seen_size ua1_seen_numbers ua1_events_size ua1_events_numbers ua1_book_size ua1_book_numbers = some z) : Ct l yX0_take cX0_take 2 none 3 D C [.ref q_, .ref qa1_] [(q_, .inr (0, [.int u_people, .ref q_debts, .ref q_consents, .ref q_trail, .ref q_seen, .ref q_events, .ref q_book])), (q_debts, .inr (2, [.ref q_debts_owed, .ref q_debts_order, .int u_debts_size])), (q_debts_owed, .inl (C 0, 36, .inl u_debts_owed)), (q_debts_order, .inl (C 0, 36, .inl u_debts_order)), (q_consents, .inr (1, [.ref q_consents_refused])), (q_consents_refused, .inl (C 2, 36, .inl u_consents_refused)), (q_trail, .inr (5, [.ref q_trail_numbers, .int u_trail_room, .int u_trail_size])), (q_trail_numbers, .inl (C 0, n_trail_numbers, .inl u_trail_numbers)), (q_seen, .inr (5, [.ref q_seen_numbers, .int u_seen_room, .int u_seen_size])), (q_seen_numbers, .inl (C 0, n_seen_numbers, .inl u_seen_numbers)), (q_events, .inr (5, [.ref q_events_numbers, .int u_events_room, .int u_events_size])), (q_events_numbers, .inl (C 0, n_events_numbers, .inl u_events_numbers)), (q_book, .inr (5, [.ref q_book_numbers, .int u_book_room, .int u_book_size])), (q_book_numbers, .inl (C 0, n_book_numbers, .inl u_book_numbers)), (qa1_, .inr (0, [.int ua1_people, .ref qa1_debts, .ref qa1_consents, .ref qa1_trail, .ref qa1_seen, .ref qa1_events, .ref qa1_book])), (qa1_debts, .inr (2, [.ref qa1_debts_owed, .ref qa1_debts_order, .int ua1_debts_size])), (qa1_debts_owed, .inl (C 0, 36, .inl ua1_debts_owed)), (qa1_debts_order, .inl (C 0, 36, .inl ua1_debts_order)), (qa1_consents, .inr (1, [.ref qa1_consents_refused])), (qa1_consents_refused, .inl (C 2, 36, .inl ua1_consents_refused)), (qa1_trail, .inr (5, [.ref qa1_trail_numbers, .int ua1_trail_room, .int ua1_trail_size])), (qa1_trail_numbers, .inl (C 0, na1_trail_numbers, .inl ua1_trail_numbers)), (qa1_seen, .inr (5, [.ref qa1_seen_numbers, .int ua1_seen_room, .int ua1_seen_size])), (qa1_seen_numbers, .inl (C 0, na1_seen_numbers, .inl ua1_seen_numbers)), (qa1_events, .inr (5, [.ref qa1_events_numbers, .int ua1_events_room, .int ua1_events_size])), (qa1_events_numbers, .inl (C 0, na1_events_numbers, .inl ua1_events_numbers)), (qa1_book, .inr (5, [.ref qa1_book_numbers, .int ua1_book_room, .int ua1_book_size])), (qa1_book_numbers, .inl (C 0, na1_book_numbers, .inl ua1_book_numbers))] [(q_, .inr (0, [.int z.1, .ref q_debts, .ref q_consents, .ref q_trail, .ref q_seen, .ref q_events, .ref q_book])), (q_debts, .inr (2, [.ref q_debts_owed, .ref q_debts_order, .int z.2.1])), (q_debts_owed, .inl (C 0, 36, .inl z.2.2.1)), (q_debts_order, .inl (C 0, 36, .inl z.2.2.2.1)), (q_consents, .inr (1, [.ref q_consents_refused])), (q_consents_refused, .inl (C 2, 36, .inl z.2.2.2.2.1)), (q_trail, .inr (5, [.ref q_trail_numbers, .int u_trail_room, .int z.2.2.2.2.2.1])), (q_trail_numbers, .inl (C 0, n_trail_numbers, .inl z.2.2.2.2.2.2.1)), (q_seen, .inr (5, [.ref q_seen_numbers, .int u_seen_room, .int z.2.2.2.2.2.2.2.1])), (q_seen_numbers, .inl (C 0, n_seen_numbers, .inl z.2.2.2.2.2.2.2.2.1)), (q_events, .inr (5, [.ref q_events_numbers, .int u_events_room, .int z.2.2.2.2.2.2.2.2.2.1])), (q_events_numbers, .inl (C 0, n_events_numbers, .inl z.2.2.2.2.2.2.2.2.2.2.1)), (q_book, .inr (5, [.ref q_book_numbers, .int u_book_room, .int z.2.2.2.2.2.2.2.2.2.2.2.1])), (q_book_numbers, .inl (C 0, n_book_numbers, .inl z.2.2.2.2.2.2.2.2.2.2.2.2)), (qa1_, .inr (0, [.int ua1_people, .ref qa1_debts, .ref qa1_consents, .ref qa1_trail, .ref qa1_seen, .ref qa1_events, .ref qa1_book])), (qa1_debts, .inr (2, [.ref qa1_debts_owed, .ref qa1_debts_order, .int ua1_debts_size])), (qa1_debts_owed, .inl (C 0, 36, .inl ua1_debts_owed)), (qa1_debts_order, .inl (C 0, 36, .inl ua1_debts_order)), (qa1_consents, .inr (1, [.ref qa1_consents_refused])), (qa1_consents_refused, .inl (C 2, 36, .inl ua1_consents_refused)), (qa1_trail, .inr (5, [.ref qa1_trail_numbers, .int ua1_trail_room, .int ua1_trail_size])), (qa1_trail_numbers, .inl (C 0, na1_trail_numbers, .inl ua1_trail_numbers)), (qa1_seen, .inr (5, [.ref qa1_seen_numbers, .int ua1_seen_room, .int ua1_seen_size])), (qa1_seen_numbers, .inl (C 0, na1_seen_numbers, .inl ua1_seen_numbers)), (qa1_events, .inr (5, [.ref qa1_events_numbers, .int ua1_events_room, .int ua1_events_size])), (qa1_events_numbers, .inl (C 0, na1_events_numbers, .inl ua1_events_numbers)), (qa1_book, .inr (5, [.ref qa1_book_numbers, .int ua1_book_room, .int ua1_book_size])), (qa1_book_numbers, .inl (C 0, na1_book_numbers, .inl ua1_book_numbers))] none := by
  refine Ct_of (by decide) (Nat.le_of_ble_eq_true rfl) ?_
  intro p e R s m args below meth c A Q H locs ls cx hw hl hret
  have cx : CX p m c s args RX0 cX0_take 2 D C A R 3 := cx
  have hx := cx.1
  have hb := cx.2.1
  have hl : lv_has ls 2 [(0, .ref q_), (1, .ref qa1_)] := hl
  rw [fX0_take.eq_1] at hF
  refine lv_aload_n hx hb dX0_take_0 rfl (lv_at hl 0 rfl) ?_
  refine lv_aload_n hx hb dX0_take_1 rfl (lv_at hl 1 rfl) ?_
  refine r_get (ci := 0) (v := .int ua1_people) cx hw iX0 14 0 rfl rfl (by decide) wf_X0_9 rfl dX0_take_2 ?_
  refine r_put (ci := 0) (w2 := [(q_, .inr (0, [.int ua1_people, .ref q_debts, .ref q_consents, .ref q_trail, .ref q_seen, .ref q_events, .ref q_book])), (q_debts, .inr (2, [.ref q_debts_owed, .ref q_debts_order, .int u_debts_size])), (q_debts_owed, .inl (C 0, 36, .inl u_debts_owed)), (q_debts_order, .inl (C 0, 36, .inl u_debts_order)), (q_consents, .inr (1, [.ref q_consents_refused])), (q_consents_refused, .inl (C 2, 36, .inl u_consents_refused)), (q_trail, .inr (5, [.ref q_trail_numbers, .int u_trail_room, .int u_trail_size])), (q_trail_numbers, .inl (C 0, n_trail_numbers, .inl u_trail_numbers)), (q_seen, .inr (5, [.ref q_seen_numbers, .int u_seen_room, .int u_seen_size])), (q_seen_numbers, .inl (C 0, n_seen_numbers, .inl u_seen_numbers)), (q_events, .inr (5, [.ref q_events_numbers, .int u_events_room, .int u_events_size])), (q_events_numbers, .inl (C 0, n_events_numbers, .inl u_events_numbers)), (q_book, .inr (5, [.ref q_book_numbers, .int u_book_room, .int u_book_size])), (q_book_numbers, .inl (C 0, n_book_numbers, .inl u_book_numbers)), (qa1_, .inr (0, [.int ua1_people, .ref qa1_debts, .ref qa1_consents, .ref qa1_trail, .ref qa1_seen, .ref qa1_events, .ref qa1_book])), (qa1_debts, .inr (2, [.ref qa1_debts_owed, .ref qa1_debts_order, .int ua1_debts_size])), (qa1_debts_owed, .inl (C 0, 36, .inl ua1_debts_owed)), (qa1_debts_order, .inl (C 0, 36, .inl ua1_debts_order)), (qa1_consents, .inr (1, [.ref qa1_consents_refused])), (qa1_consents_refused, .inl (C 2, 36, .inl ua1_consents_refused)), (qa1_trail, .inr (5, [.ref qa1_trail_numbers, .int ua1_trail_room, .int ua1_trail_size])), (qa1_trail_numbers, .inl (C 0, na1_trail_numbers, .inl ua1_trail_numbers)), (qa1_seen, .inr (5, [.ref qa1_seen_numbers, .int ua1_seen_room, .int ua1_seen_size])), (qa1_seen_numbers, .inl (C 0, na1_seen_numbers, .inl ua1_seen_numbers)), (qa1_events, .inr (5, [.ref qa1_events_numbers, .int ua1_events_room, .int ua1_events_size])), (qa1_events_numbers, .inl (C 0, na1_events_numbers, .inl ua1_events_numbers)), (qa1_book, .inr (5, [.ref qa1_book_numbers, .int ua1_book_room, .int ua1_book_size])), (qa1_book_numbers, .inl (C 0, na1_book_numbers, .inl ua1_book_numbers))]) cx hw iX0 tyX0_ok nmX0 0 0 rfl rfl (by decide) wf_X0_9 rfl rfl rfl rfl (Nat.le_of_ble_eq_true rfl) dX0_take_5 rfl (fun H locs hw => ?_)
  refine lv_aload_n hx hb dX0_take_8 rfl (lv_at hl 0 rfl) ?_
  refine r_get (ci := 0) (v := .ref q_debts) cx hw iX0 0 1 rfl rfl (by decide) wf_X0_18 rfl dX0_take_9 ?_
  refine lv_aload_n hx hb dX0_take_12 rfl (lv_at hl 1 rfl) ?_
  refine r_get (ci := 0) (v := .ref qa1_debts) cx hw iX0 14 1 rfl rfl (by decide) wf_X0_18 rfl dX0_take_13 ?_
  obtain ⟨z1, hz1, hF⟩ := ob hF
  refine cV (wr := [(q_, .inr (0, [.int ua1_people, .ref q_debts, .ref q_consents, .ref q_trail, .ref q_seen, .ref q_events, .ref q_book])), (q_consents, .inr (1, [.ref q_consents_refused])), (q_consents_refused, .inl (C 2, 36, .inl u_consents_refused)), (q_trail, .inr (5, [.ref q_trail_numbers, .int u_trail_room, .int u_trail_size])), (q_trail_numbers, .inl (C 0, n_trail_numbers, .inl u_trail_numbers)), (q_seen, .inr (5, [.ref q_seen_numbers, .int u_seen_room, .int u_seen_size])), (q_seen_numbers, .inl (C 0, n_seen_numbers, .inl u_seen_numbers)), (q_events, .inr (5, [.ref q_events_numbers, .int u_events_room, .int u_events_size])), (q_events_numbers, .inl (C 0, n_events_numbers, .inl u_events_numbers)), (q_book, .inr (5, [.ref q_book_numbers, .int u_book_room, .int u_book_size])), (q_book_numbers, .inl (C 0, n_book_numbers, .inl u_book_numbers)), (qa1_, .inr (0, [.int ua1_people, .ref qa1_debts, .ref qa1_consents, .ref qa1_trail, .ref qa1_seen, .ref qa1_events, .ref qa1_book])), (qa1_consents, .inr (1, [.ref qa1_consents_refused])), (qa1_consents_refused, .inl (C 2, 36, .inl ua1_consents_refused)), (qa1_trail, .inr (5, [.ref qa1_trail_numbers, .int ua1_trail_room, .int ua1_trail_size])), (qa1_trail_numbers, .inl (C 0, na1_trail_numbers, .inl ua1_trail_numbers)), (qa1_seen, .inr (5, [.ref qa1_seen_numbers, .int ua1_seen_room, .int ua1_seen_size])), (qa1_seen_numbers, .inl (C 0, na1_seen_numbers, .inl ua1_seen_numbers)), (qa1_events, .inr (5, [.ref qa1_events_numbers, .int ua1_events_room, .int ua1_events_size])), (qa1_events_numbers, .inl (C 0, na1_events_numbers, .inl ua1_events_numbers)), (qa1_book, .inr (5, [.ref qa1_book_numbers, .int ua1_book_room, .int ua1_book_size])), (qa1_book_numbers, .inl (C 0, na1_book_numbers, .inl ua1_book_numbers))]) (w2 := [(q_, .inr (0, [.int ua1_people, .ref q_debts, .ref q_consents, .ref q_trail, .ref q_seen, .ref q_events, .ref q_book])), (q_debts, .inr (2, [.ref q_debts_owed, .ref q_debts_order, .int z1.1])), (q_debts_owed, .inl (C 0, 36, .inl z1.2.1)), (q_debts_order, .inl (C 0, 36, .inl z1.2.2)), (q_consents, .inr (1, [.ref q_consents_refused])), (q_consents_refused, .inl (C 2, 36, .inl u_consents_refused)), (q_trail, .inr (5, [.ref q_trail_numbers, .int u_trail_room, .int u_trail_size])), (q_trail_numbers, .inl (C 0, n_trail_numbers, .inl u_trail_numbers)), (q_seen, .inr (5, [.ref q_seen_numbers, .int u_seen_room, .int u_seen_size])), (q_seen_numbers, .inl (C 0, n_seen_numbers, .inl u_seen_numbers)), (q_events, .inr (5, [.ref q_events_numbers, .int u_events_room, .int u_events_size])), (q_events_numbers, .inl (C 0, n_events_numbers, .inl u_events_numbers)), (q_book, .inr (5, [.ref q_book_numbers, .int u_book_room, .int u_book_size])), (q_book_numbers, .inl (C 0, n_book_numbers, .inl u_book_numbers)), (qa1_, .inr (0, [.int ua1_people, .ref qa1_debts, .ref qa1_consents, .ref qa1_trail, .ref qa1_seen, .ref qa1_events, .ref qa1_book])), (qa1_debts, .inr (2, [.ref qa1_debts_owed, .ref qa1_debts_order, .int ua1_debts_size])), (qa1_debts_owed, .inl (C 0, 36, .inl ua1_debts_owed)), (qa1_debts_order, .inl (C 0, 36, .inl ua1_debts_order)), (qa1_consents, .inr (1, [.ref qa1_consents_refused])), (qa1_consents_refused, .inl (C 2, 36, .inl ua1_consents_refused)), (qa1_trail, .inr (5, [.ref qa1_trail_numbers, .int ua1_trail_room, .int ua1_trail_size])), (qa1_trail_numbers, .inl (C 0, na1_trail_numbers, .inl ua1_trail_numbers)), (qa1_seen, .inr (5, [.ref qa1_seen_numbers, .int ua1_seen_room, .int ua1_seen_size])), (qa1_seen_numbers, .inl (C 0, na1_seen_numbers, .inl ua1_seen_numbers)), (qa1_events, .inr (5, [.ref qa1_events_numbers, .int ua1_events_room, .int ua1_events_size])), (qa1_events_numbers, .inl (C 0, na1_events_numbers, .inl ua1_events_numbers)), (qa1_book, .inr (5, [.ref qa1_book_numbers, .int ua1_book_room, .int ua1_book_size])), (qa1_book_numbers, .inl (C 0, na1_book_numbers, .inl ua1_book_numbers))]) (st2 := []) cx (CX2_take l D C q_debts q_debts_owed q_debts_order qa1_debts qa1_debts_owed qa1_debts_order u_debts_size u_debts_owed u_debts_order ua1_debts_size ua1_debts_owed ua1_debts_order z1 hz1) lk_X0_47 my_X2_take ml_X2_take ⟨by decide, by decide⟩ hw [1, 2, 3, 15, 16, 17] [0, 4, 5, 6, 7, 8, 9, 10, 11, 12, 13, 14, 18, 19, 20, 21, 22, 23, 24, 25, 26, 27] [0, 22, 23, 24, 1, 2, 3, 4, 5, 6, 7, 8, 9, 10, 11, 25, 26, 27, 12, 13, 14, 15, 16, 17, 18, 19, 20, 21] rfl rfl (by decide) rfl rfl rfl rfl (Nat.le_of_ble_eq_true rfl) dX0_take_16 rfl (fun H locs hw => ?_) hl.1
  refine lv_aload_n hx hb dX0_take_19 rfl (lv_at hl 0 rfl) ?_
  refine r_get (ci := 0) (v := .ref q_consents) cx hw iX0 0 2 rfl rfl (by decide) wf_X0_25 rfl dX0_take_20 ?_
  refine lv_aload_n hx hb dX0_take_23 rfl (lv_at hl 1 rfl) ?_
  refine r_get (ci := 0) (v := .ref qa1_consents) cx hw iX0 14 2 rfl rfl (by decide) wf_X0_25 rfl dX0_take_24 ?_
  obtain ⟨z2, hz2, hF⟩ := ob hF
  refine cV (wr := [(q_, .inr (0, [.int ua1_people, .ref q_debts, .ref q_consents, .ref q_trail, .ref q_seen, .ref q_events, .ref q_book])), (q_debts, .inr (2, [.ref q_debts_owed, .ref q_debts_order, .int z1.1])), (q_debts_owed, .inl (C 0, 36, .inl z1.2.1)), (q_debts_order, .inl (C 0, 36, .inl z1.2.2)), (q_trail, .inr (5, [.ref q_trail_numbers, .int u_trail_room, .int u_trail_size])), (q_trail_numbers, .inl (C 0, n_trail_numbers, .inl u_trail_numbers)), (q_seen, .inr (5, [.ref q_seen_numbers, .int u_seen_room, .int u_seen_size])), (q_seen_numbers, .inl (C 0, n_seen_numbers, .inl u_seen_numbers)), (q_events, .inr (5, [.ref q_events_numbers, .int u_events_room, .int u_events_size])), (q_events_numbers, .inl (C 0, n_events_numbers, .inl u_events_numbers)), (q_book, .inr (5, [.ref q_book_numbers, .int u_book_room, .int u_book_size])), (q_book_numbers, .inl (C 0, n_book_numbers, .inl u_book_numbers)), (qa1_, .inr (0, [.int ua1_people, .ref qa1_debts, .ref qa1_consents, .ref qa1_trail, .ref qa1_seen, .ref qa1_events, .ref qa1_book])), (qa1_debts, .inr (2, [.ref qa1_debts_owed, .ref qa1_debts_order, .int ua1_debts_size])), (qa1_debts_owed, .inl (C 0, 36, .inl ua1_debts_owed)), (qa1_debts_order, .inl (C 0, 36, .inl ua1_debts_order)), (qa1_trail, .inr (5, [.ref qa1_trail_numbers, .int ua1_trail_room, .int ua1_trail_size])), (qa1_trail_numbers, .inl (C 0, na1_trail_numbers, .inl ua1_trail_numbers)), (qa1_seen, .inr (5, [.ref qa1_seen_numbers, .int ua1_seen_room, .int ua1_seen_size])), (qa1_seen_numbers, .inl (C 0, na1_seen_numbers, .inl ua1_seen_numbers)), (qa1_events, .inr (5, [.ref qa1_events_numbers, .int ua1_events_room, .int ua1_events_size])), (qa1_events_numbers, .inl (C 0, na1_events_numbers, .inl ua1_events_numbers)), (qa1_book, .inr (5, [.ref qa1_book_numbers, .int ua1_book_room, .int ua1_book_size])), (qa1_book_numbers, .inl (C 0, na1_book_numbers, .inl ua1_book_numbers))]) (w2 := [(q_, .inr (0, [.int ua1_people, .ref q_debts, .ref q_consents, .ref q_trail, .ref q_seen, .ref q_events, .ref q_book])), (q_debts, .inr (2, [.ref q_debts_owed, .ref q_debts_order, .int z1.1])), (q_debts_owed, .inl (C 0, 36, .inl z1.2.1)), (q_debts_order, .inl (C 0, 36, .inl z1.2.2)), (q_consents, .inr (1, [.ref q_consents_refused])), (q_consents_refused, .inl (C 2, 36, .inl z2)), (q_trail, .inr (5, [.ref q_trail_numbers, .int u_trail_room, .int u_trail_size])), (q_trail_numbers, .inl (C 0, n_trail_numbers, .inl u_trail_numbers)), (q_seen, .inr (5, [.ref q_seen_numbers, .int u_seen_room, .int u_seen_size])), (q_seen_numbers, .inl (C 0, n_seen_numbers, .inl u_seen_numbers)), (q_events, .inr (5, [.ref q_events_numbers, .int u_events_room, .int u_events_size])), (q_events_numbers, .inl (C 0, n_events_numbers, .inl u_events_numbers)), (q_book, .inr (5, [.ref q_book_numbers, .int u_book_room, .int u_book_size])), (q_book_numbers, .inl (C 0, n_book_numbers, .inl u_book_numbers)), (qa1_, .inr (0, [.int ua1_people, .ref qa1_debts, .ref qa1_consents, .ref qa1_trail, .ref qa1_seen, .ref qa1_events, .ref qa1_book])), (qa1_debts, .inr (2, [.ref qa1_debts_owed, .ref qa1_debts_order, .int ua1_debts_size])), (qa1_debts_owed, .inl (C 0, 36, .inl ua1_debts_owed)), (qa1_debts_order, .inl (C 0, 36, .inl ua1_debts_order)), (qa1_consents, .inr (1, [.ref qa1_consents_refused])), (qa1_consents_refused, .inl (C 2, 36, .inl ua1_consents_refused)), (qa1_trail, .inr (5, [.ref qa1_trail_numbers, .int ua1_trail_room, .int ua1_trail_size])), (qa1_trail_numbers, .inl (C 0, na1_trail_numbers, .inl ua1_trail_numbers)), (qa1_seen, .inr (5, [.ref qa1_seen_numbers, .int ua1_seen_room, .int ua1_seen_size])), (qa1_seen_numbers, .inl (C 0, na1_seen_numbers, .inl ua1_seen_numbers)), (qa1_events, .inr (5, [.ref qa1_events_numbers, .int ua1_events_room, .int ua1_events_size])), (qa1_events_numbers, .inl (C 0, na1_events_numbers, .inl ua1_events_numbers)), (qa1_book, .inr (5, [.ref qa1_book_numbers, .int ua1_book_room, .int ua1_book_size])), (qa1_book_numbers, .inl (C 0, na1_book_numbers, .inl ua1_book_numbers))]) (st2 := []) cx (CX1_take l D C q_consents q_consents_refused qa1_consents qa1_consents_refused u_consents_refused ua1_consents_refused z2 hz2) lk_X0_51 my_X1_take ml_X1_take ⟨by decide, by decide⟩ hw [4, 5, 18, 19] [0, 1, 2, 3, 6, 7, 8, 9, 10, 11, 12, 13, 14, 15, 16, 17, 20, 21, 22, 23, 24, 25, 26, 27] [0, 1, 2, 3, 24, 25, 4, 5, 6, 7, 8, 9, 10, 11, 12, 13, 14, 15, 26, 27, 16, 17, 18, 19, 20, 21, 22, 23] rfl rfl (by decide) rfl rfl rfl rfl (Nat.le_of_ble_eq_true rfl) dX0_take_27 rfl (fun H locs hw => ?_) hl.1
  refine lv_aload_n hx hb dX0_take_30 rfl (lv_at hl 0 rfl) ?_
  refine r_get (ci := 0) (v := .ref q_trail) cx hw iX0 0 3 rfl rfl (by decide) wf_X0_34 rfl dX0_take_31 ?_
  refine lv_aload_n hx hb dX0_take_34 rfl (lv_at hl 1 rfl) ?_
  refine r_get (ci := 0) (v := .ref qa1_trail) cx hw iX0 14 3 rfl rfl (by decide) wf_X0_34 rfl dX0_take_35 ?_
  obtain ⟨z3, hz3, hF⟩ := ob hF
  refine cV (wr := [(q_, .inr (0, [.int ua1_people, .ref q_debts, .ref q_consents, .ref q_trail, .ref q_seen, .ref q_events, .ref q_book])), (q_debts, .inr (2, [.ref q_debts_owed, .ref q_debts_order, .int z1.1])), (q_debts_owed, .inl (C 0, 36, .inl z1.2.1)), (q_debts_order, .inl (C 0, 36, .inl z1.2.2)), (q_consents, .inr (1, [.ref q_consents_refused])), (q_consents_refused, .inl (C 2, 36, .inl z2)), (q_seen, .inr (5, [.ref q_seen_numbers, .int u_seen_room, .int u_seen_size])), (q_seen_numbers, .inl (C 0, n_seen_numbers, .inl u_seen_numbers)), (q_events, .inr (5, [.ref q_events_numbers, .int u_events_room, .int u_events_size])), (q_events_numbers, .inl (C 0, n_events_numbers, .inl u_events_numbers)), (q_book, .inr (5, [.ref q_book_numbers, .int u_book_room, .int u_book_size])), (q_book_numbers, .inl (C 0, n_book_numbers, .inl u_book_numbers)), (qa1_, .inr (0, [.int ua1_people, .ref qa1_debts, .ref qa1_consents, .ref qa1_trail, .ref qa1_seen, .ref qa1_events, .ref qa1_book])), (qa1_debts, .inr (2, [.ref qa1_debts_owed, .ref qa1_debts_order, .int ua1_debts_size])), (qa1_debts_owed, .inl (C 0, 36, .inl ua1_debts_owed)), (qa1_debts_order, .inl (C 0, 36, .inl ua1_debts_order)), (qa1_consents, .inr (1, [.ref qa1_consents_refused])), (qa1_consents_refused, .inl (C 2, 36, .inl ua1_consents_refused)), (qa1_seen, .inr (5, [.ref qa1_seen_numbers, .int ua1_seen_room, .int ua1_seen_size])), (qa1_seen_numbers, .inl (C 0, na1_seen_numbers, .inl ua1_seen_numbers)), (qa1_events, .inr (5, [.ref qa1_events_numbers, .int ua1_events_room, .int ua1_events_size])), (qa1_events_numbers, .inl (C 0, na1_events_numbers, .inl ua1_events_numbers)), (qa1_book, .inr (5, [.ref qa1_book_numbers, .int ua1_book_room, .int ua1_book_size])), (qa1_book_numbers, .inl (C 0, na1_book_numbers, .inl ua1_book_numbers))]) (w2 := [(q_, .inr (0, [.int ua1_people, .ref q_debts, .ref q_consents, .ref q_trail, .ref q_seen, .ref q_events, .ref q_book])), (q_debts, .inr (2, [.ref q_debts_owed, .ref q_debts_order, .int z1.1])), (q_debts_owed, .inl (C 0, 36, .inl z1.2.1)), (q_debts_order, .inl (C 0, 36, .inl z1.2.2)), (q_consents, .inr (1, [.ref q_consents_refused])), (q_consents_refused, .inl (C 2, 36, .inl z2)), (q_trail, .inr (5, [.ref q_trail_numbers, .int u_trail_room, .int z3.1])), (q_trail_numbers, .inl (C 0, n_trail_numbers, .inl z3.2)), (q_seen, .inr (5, [.ref q_seen_numbers, .int u_seen_room, .int u_seen_size])), (q_seen_numbers, .inl (C 0, n_seen_numbers, .inl u_seen_numbers)), (q_events, .inr (5, [.ref q_events_numbers, .int u_events_room, .int u_events_size])), (q_events_numbers, .inl (C 0, n_events_numbers, .inl u_events_numbers)), (q_book, .inr (5, [.ref q_book_numbers, .int u_book_room, .int u_book_size])), (q_book_numbers, .inl (C 0, n_book_numbers, .inl u_book_numbers)), (qa1_, .inr (0, [.int ua1_people, .ref qa1_debts, .ref qa1_consents, .ref qa1_trail, .ref qa1_seen, .ref qa1_events, .ref qa1_book])), (qa1_debts, .inr (2, [.ref qa1_debts_owed, .ref qa1_debts_order, .int ua1_debts_size])), (qa1_debts_owed, .inl (C 0, 36, .inl ua1_debts_owed)), (qa1_debts_order, .inl (C 0, 36, .inl ua1_debts_order)), (qa1_consents, .inr (1, [.ref qa1_consents_refused])), (qa1_consents_refused, .inl (C 2, 36, .inl ua1_consents_refused)), (qa1_trail, .inr (5, [.ref qa1_trail_numbers, .int ua1_trail_room, .int ua1_trail_size])), (qa1_trail_numbers, .inl (C 0, na1_trail_numbers, .inl ua1_trail_numbers)), (qa1_seen, .inr (5, [.ref qa1_seen_numbers, .int ua1_seen_room, .int ua1_seen_size])), (qa1_seen_numbers, .inl (C 0, na1_seen_numbers, .inl ua1_seen_numbers)), (qa1_events, .inr (5, [.ref qa1_events_numbers, .int ua1_events_room, .int ua1_events_size])), (qa1_events_numbers, .inl (C 0, na1_events_numbers, .inl ua1_events_numbers)), (qa1_book, .inr (5, [.ref qa1_book_numbers, .int ua1_book_room, .int ua1_book_size])), (qa1_book_numbers, .inl (C 0, na1_book_numbers, .inl ua1_book_numbers))]) (st2 := []) cx (CX5_take l D C q_trail q_trail_numbers qa1_trail qa1_trail_numbers n_trail_numbers na1_trail_numbers u_trail_room u_trail_size u_trail_numbers ua1_trail_room ua1_trail_size ua1_trail_numbers z3 hz3) lk_X0_54 my_X5_take ml_X5_take ⟨by decide, by decide⟩ hw [6, 7, 20, 21] [0, 1, 2, 3, 4, 5, 8, 9, 10, 11, 12, 13, 14, 15, 16, 17, 18, 19, 22, 23, 24, 25, 26, 27] [0, 1, 2, 3, 4, 5, 24, 25, 6, 7, 8, 9, 10, 11, 12, 13, 14, 15, 16, 17, 26, 27, 18, 19, 20, 21, 22, 23] rfl rfl (by decide) rfl rfl rfl rfl (Nat.le_of_ble_eq_true rfl) dX0_take_38 rfl (fun H locs hw => ?_) hl.1
  refine lv_aload_n hx hb dX0_take_41 rfl (lv_at hl 0 rfl) ?_
  refine r_get (ci := 0) (v := .ref q_seen) cx hw iX0 0 4 rfl rfl (by decide) wf_X0_38 rfl dX0_take_42 ?_
  refine lv_aload_n hx hb dX0_take_45 rfl (lv_at hl 1 rfl) ?_
  refine r_get (ci := 0) (v := .ref qa1_seen) cx hw iX0 14 4 rfl rfl (by decide) wf_X0_38 rfl dX0_take_46 ?_
  obtain ⟨z4, hz4, hF⟩ := ob hF
  refine cV (wr := [(q_, .inr (0, [.int ua1_people, .ref q_debts, .ref q_consents, .ref q_trail, .ref q_seen, .ref q_events, .ref q_book])), (q_debts, .inr (2, [.ref q_debts_owed, .ref q_debts_order, .int z1.1])), (q_debts_owed, .inl (C 0, 36, .inl z1.2.1)), (q_debts_order, .inl (C 0, 36, .inl z1.2.2)), (q_consents, .inr (1, [.ref q_consents_refused])), (q_consents_refused, .inl (C 2, 36, .inl z2)), (q_trail, .inr (5, [.ref q_trail_numbers, .int u_trail_room, .int z3.1])), (q_trail_numbers, .inl (C 0, n_trail_numbers, .inl z3.2)), (q_events, .inr (5, [.ref q_events_numbers, .int u_events_room, .int u_events_size])), (q_events_numbers, .inl (C 0, n_events_numbers, .inl u_events_numbers)), (q_book, .inr (5, [.ref q_book_numbers, .int u_book_room, .int u_book_size])), (q_book_numbers, .inl (C 0, n_book_numbers, .inl u_book_numbers)), (qa1_, .inr (0, [.int ua1_people, .ref qa1_debts, .ref qa1_consents, .ref qa1_trail, .ref qa1_seen, .ref qa1_events, .ref qa1_book])), (qa1_debts, .inr (2, [.ref qa1_debts_owed, .ref qa1_debts_order, .int ua1_debts_size])), (qa1_debts_owed, .inl (C 0, 36, .inl ua1_debts_owed)), (qa1_debts_order, .inl (C 0, 36, .inl ua1_debts_order)), (qa1_consents, .inr (1, [.ref qa1_consents_refused])), (qa1_consents_refused, .inl (C 2, 36, .inl ua1_consents_refused)), (qa1_trail, .inr (5, [.ref qa1_trail_numbers, .int ua1_trail_room, .int ua1_trail_size])), (qa1_trail_numbers, .inl (C 0, na1_trail_numbers, .inl ua1_trail_numbers)), (qa1_events, .inr (5, [.ref qa1_events_numbers, .int ua1_events_room, .int ua1_events_size])), (qa1_events_numbers, .inl (C 0, na1_events_numbers, .inl ua1_events_numbers)), (qa1_book, .inr (5, [.ref qa1_book_numbers, .int ua1_book_room, .int ua1_book_size])), (qa1_book_numbers, .inl (C 0, na1_book_numbers, .inl ua1_book_numbers))]) (w2 := [(q_, .inr (0, [.int ua1_people, .ref q_debts, .ref q_consents, .ref q_trail, .ref q_seen, .ref q_events, .ref q_book])), (q_debts, .inr (2, [.ref q_debts_owed, .ref q_debts_order, .int z1.1])), (q_debts_owed, .inl (C 0, 36, .inl z1.2.1)), (q_debts_order, .inl (C 0, 36, .inl z1.2.2)), (q_consents, .inr (1, [.ref q_consents_refused])), (q_consents_refused, .inl (C 2, 36, .inl z2)), (q_trail, .inr (5, [.ref q_trail_numbers, .int u_trail_room, .int z3.1])), (q_trail_numbers, .inl (C 0, n_trail_numbers, .inl z3.2)), (q_seen, .inr (5, [.ref q_seen_numbers, .int u_seen_room, .int z4.1])), (q_seen_numbers, .inl (C 0, n_seen_numbers, .inl z4.2)), (q_events, .inr (5, [.ref q_events_numbers, .int u_events_room, .int u_events_size])), (q_events_numbers, .inl (C 0, n_events_numbers, .inl u_events_numbers)), (q_book, .inr (5, [.ref q_book_numbers, .int u_book_room, .int u_book_size])), (q_book_numbers, .inl (C 0, n_book_numbers, .inl u_book_numbers)), (qa1_, .inr (0, [.int ua1_people, .ref qa1_debts, .ref qa1_consents, .ref qa1_trail, .ref qa1_seen, .ref qa1_events, .ref qa1_book])), (qa1_debts, .inr (2, [.ref qa1_debts_owed, .ref qa1_debts_order, .int ua1_debts_size])), (qa1_debts_owed, .inl (C 0, 36, .inl ua1_debts_owed)), (qa1_debts_order, .inl (C 0, 36, .inl ua1_debts_order)), (qa1_consents, .inr (1, [.ref qa1_consents_refused])), (qa1_consents_refused, .inl (C 2, 36, .inl ua1_consents_refused)), (qa1_trail, .inr (5, [.ref qa1_trail_numbers, .int ua1_trail_room, .int ua1_trail_size])), (qa1_trail_numbers, .inl (C 0, na1_trail_numbers, .inl ua1_trail_numbers)), (qa1_seen, .inr (5, [.ref qa1_seen_numbers, .int ua1_seen_room, .int ua1_seen_size])), (qa1_seen_numbers, .inl (C 0, na1_seen_numbers, .inl ua1_seen_numbers)), (qa1_events, .inr (5, [.ref qa1_events_numbers, .int ua1_events_room, .int ua1_events_size])), (qa1_events_numbers, .inl (C 0, na1_events_numbers, .inl ua1_events_numbers)), (qa1_book, .inr (5, [.ref qa1_book_numbers, .int ua1_book_room, .int ua1_book_size])), (qa1_book_numbers, .inl (C 0, na1_book_numbers, .inl ua1_book_numbers))]) (st2 := []) cx (CX5_take l D C q_seen q_seen_numbers qa1_seen qa1_seen_numbers n_seen_numbers na1_seen_numbers u_seen_room u_seen_size u_seen_numbers ua1_seen_room ua1_seen_size ua1_seen_numbers z4 hz4) lk_X0_54 my_X5_take ml_X5_take ⟨by decide, by decide⟩ hw [8, 9, 22, 23] [0, 1, 2, 3, 4, 5, 6, 7, 10, 11, 12, 13, 14, 15, 16, 17, 18, 19, 20, 21, 24, 25, 26, 27] [0, 1, 2, 3, 4, 5, 6, 7, 24, 25, 8, 9, 10, 11, 12, 13, 14, 15, 16, 17, 18, 19, 26, 27, 20, 21, 22, 23] rfl rfl (by decide) rfl rfl rfl rfl (Nat.le_of_ble_eq_true rfl) dX0_take_49 rfl (fun H locs hw => ?_) hl.1
  refine lv_aload_n hx hb dX0_take_52 rfl (lv_at hl 0 rfl) ?_
  refine r_get (ci := 0) (v := .ref q_events) cx hw iX0 0 5 rfl rfl (by decide) wf_X0_41 rfl dX0_take_53 ?_
  refine lv_aload_n hx hb dX0_take_56 rfl (lv_at hl 1 rfl) ?_
  refine r_get (ci := 0) (v := .ref qa1_events) cx hw iX0 14 5 rfl rfl (by decide) wf_X0_41 rfl dX0_take_57 ?_
  obtain ⟨z5, hz5, hF⟩ := ob hF
  refine cV (wr := [(q_, .inr (0, [.int ua1_people, .ref q_debts, .ref q_consents, .ref q_trail, .ref q_seen, .ref q_events, .ref q_book])), (q_debts, .inr (2, [.ref q_debts_owed, .ref q_debts_order, .int z1.1])), (q_debts_owed, .inl (C 0, 36, .inl z1.2.1)), (q_debts_order, .inl (C 0, 36, .inl z1.2.2)), (q_consents, .inr (1, [.ref q_consents_refused])), (q_consents_refused, .inl (C 2, 36, .inl z2)), (q_trail, .inr (5, [.ref q_trail_numbers, .int u_trail_room, .int z3.1])), (q_trail_numbers, .inl (C 0, n_trail_numbers, .inl z3.2)), (q_seen, .inr (5, [.ref q_seen_numbers, .int u_seen_room, .int z4.1])), (q_seen_numbers, .inl (C 0, n_seen_numbers, .inl z4.2)), (q_book, .inr (5, [.ref q_book_numbers, .int u_book_room, .int u_book_size])), (q_book_numbers, .inl (C 0, n_book_numbers, .inl u_book_numbers)), (qa1_, .inr (0, [.int ua1_people, .ref qa1_debts, .ref qa1_consents, .ref qa1_trail, .ref qa1_seen, .ref qa1_events, .ref qa1_book])), (qa1_debts, .inr (2, [.ref qa1_debts_owed, .ref qa1_debts_order, .int ua1_debts_size])), (qa1_debts_owed, .inl (C 0, 36, .inl ua1_debts_owed)), (qa1_debts_order, .inl (C 0, 36, .inl ua1_debts_order)), (qa1_consents, .inr (1, [.ref qa1_consents_refused])), (qa1_consents_refused, .inl (C 2, 36, .inl ua1_consents_refused)), (qa1_trail, .inr (5, [.ref qa1_trail_numbers, .int ua1_trail_room, .int ua1_trail_size])), (qa1_trail_numbers, .inl (C 0, na1_trail_numbers, .inl ua1_trail_numbers)), (qa1_seen, .inr (5, [.ref qa1_seen_numbers, .int ua1_seen_room, .int ua1_seen_size])), (qa1_seen_numbers, .inl (C 0, na1_seen_numbers, .inl ua1_seen_numbers)), (qa1_book, .inr (5, [.ref qa1_book_numbers, .int ua1_book_room, .int ua1_book_size])), (qa1_book_numbers, .inl (C 0, na1_book_numbers, .inl ua1_book_numbers))]) (w2 := [(q_, .inr (0, [.int ua1_people, .ref q_debts, .ref q_consents, .ref q_trail, .ref q_seen, .ref q_events, .ref q_book])), (q_debts, .inr (2, [.ref q_debts_owed, .ref q_debts_order, .int z1.1])), (q_debts_owed, .inl (C 0, 36, .inl z1.2.1)), (q_debts_order, .inl (C 0, 36, .inl z1.2.2)), (q_consents, .inr (1, [.ref q_consents_refused])), (q_consents_refused, .inl (C 2, 36, .inl z2)), (q_trail, .inr (5, [.ref q_trail_numbers, .int u_trail_room, .int z3.1])), (q_trail_numbers, .inl (C 0, n_trail_numbers, .inl z3.2)), (q_seen, .inr (5, [.ref q_seen_numbers, .int u_seen_room, .int z4.1])), (q_seen_numbers, .inl (C 0, n_seen_numbers, .inl z4.2)), (q_events, .inr (5, [.ref q_events_numbers, .int u_events_room, .int z5.1])), (q_events_numbers, .inl (C 0, n_events_numbers, .inl z5.2)), (q_book, .inr (5, [.ref q_book_numbers, .int u_book_room, .int u_book_size])), (q_book_numbers, .inl (C 0, n_book_numbers, .inl u_book_numbers)), (qa1_, .inr (0, [.int ua1_people, .ref qa1_debts, .ref qa1_consents, .ref qa1_trail, .ref qa1_seen, .ref qa1_events, .ref qa1_book])), (qa1_debts, .inr (2, [.ref qa1_debts_owed, .ref qa1_debts_order, .int ua1_debts_size])), (qa1_debts_owed, .inl (C 0, 36, .inl ua1_debts_owed)), (qa1_debts_order, .inl (C 0, 36, .inl ua1_debts_order)), (qa1_consents, .inr (1, [.ref qa1_consents_refused])), (qa1_consents_refused, .inl (C 2, 36, .inl ua1_consents_refused)), (qa1_trail, .inr (5, [.ref qa1_trail_numbers, .int ua1_trail_room, .int ua1_trail_size])), (qa1_trail_numbers, .inl (C 0, na1_trail_numbers, .inl ua1_trail_numbers)), (qa1_seen, .inr (5, [.ref qa1_seen_numbers, .int ua1_seen_room, .int ua1_seen_size])), (qa1_seen_numbers, .inl (C 0, na1_seen_numbers, .inl ua1_seen_numbers)), (qa1_events, .inr (5, [.ref qa1_events_numbers, .int ua1_events_room, .int ua1_events_size])), (qa1_events_numbers, .inl (C 0, na1_events_numbers, .inl ua1_events_numbers)), (qa1_book, .inr (5, [.ref qa1_book_numbers, .int ua1_book_room, .int ua1_book_size])), (qa1_book_numbers, .inl (C 0, na1_book_numbers, .inl ua1_book_numbers))]) (st2 := []) cx (CX5_take l D C q_events q_events_numbers qa1_events qa1_events_numbers n_events_numbers na1_events_numbers u_events_room u_events_size u_events_numbers ua1_events_room ua1_events_size ua1_events_numbers z5 hz5) lk_X0_54 my_X5_take ml_X5_take ⟨by decide, by decide⟩ hw [10, 11, 24, 25] [0, 1, 2, 3, 4, 5, 6, 7, 8, 9, 12, 13, 14, 15, 16, 17, 18, 19, 20, 21, 22, 23, 26, 27] [0, 1, 2, 3, 4, 5, 6, 7, 8, 9, 24, 25, 10, 11, 12, 13, 14, 15, 16, 17, 18, 19, 20, 21, 26, 27, 22, 23] rfl rfl (by decide) rfl rfl rfl rfl (Nat.le_of_ble_eq_true rfl) dX0_take_60 rfl (fun H locs hw => ?_) hl.1
  refine lv_aload_n hx hb dX0_take_63 rfl (lv_at hl 0 rfl) ?_
  refine r_get (ci := 0) (v := .ref q_book) cx hw iX0 0 6 rfl rfl (by decide) wf_X0_44 rfl dX0_take_64 ?_
  refine lv_aload_n hx hb dX0_take_67 rfl (lv_at hl 1 rfl) ?_
  refine r_get (ci := 0) (v := .ref qa1_book) cx hw iX0 14 6 rfl rfl (by decide) wf_X0_44 rfl dX0_take_68 ?_
  obtain ⟨z6, hz6, hF⟩ := ob hF
  refine cV (wr := [(q_, .inr (0, [.int ua1_people, .ref q_debts, .ref q_consents, .ref q_trail, .ref q_seen, .ref q_events, .ref q_book])), (q_debts, .inr (2, [.ref q_debts_owed, .ref q_debts_order, .int z1.1])), (q_debts_owed, .inl (C 0, 36, .inl z1.2.1)), (q_debts_order, .inl (C 0, 36, .inl z1.2.2)), (q_consents, .inr (1, [.ref q_consents_refused])), (q_consents_refused, .inl (C 2, 36, .inl z2)), (q_trail, .inr (5, [.ref q_trail_numbers, .int u_trail_room, .int z3.1])), (q_trail_numbers, .inl (C 0, n_trail_numbers, .inl z3.2)), (q_seen, .inr (5, [.ref q_seen_numbers, .int u_seen_room, .int z4.1])), (q_seen_numbers, .inl (C 0, n_seen_numbers, .inl z4.2)), (q_events, .inr (5, [.ref q_events_numbers, .int u_events_room, .int z5.1])), (q_events_numbers, .inl (C 0, n_events_numbers, .inl z5.2)), (qa1_, .inr (0, [.int ua1_people, .ref qa1_debts, .ref qa1_consents, .ref qa1_trail, .ref qa1_seen, .ref qa1_events, .ref qa1_book])), (qa1_debts, .inr (2, [.ref qa1_debts_owed, .ref qa1_debts_order, .int ua1_debts_size])), (qa1_debts_owed, .inl (C 0, 36, .inl ua1_debts_owed)), (qa1_debts_order, .inl (C 0, 36, .inl ua1_debts_order)), (qa1_consents, .inr (1, [.ref qa1_consents_refused])), (qa1_consents_refused, .inl (C 2, 36, .inl ua1_consents_refused)), (qa1_trail, .inr (5, [.ref qa1_trail_numbers, .int ua1_trail_room, .int ua1_trail_size])), (qa1_trail_numbers, .inl (C 0, na1_trail_numbers, .inl ua1_trail_numbers)), (qa1_seen, .inr (5, [.ref qa1_seen_numbers, .int ua1_seen_room, .int ua1_seen_size])), (qa1_seen_numbers, .inl (C 0, na1_seen_numbers, .inl ua1_seen_numbers)), (qa1_events, .inr (5, [.ref qa1_events_numbers, .int ua1_events_room, .int ua1_events_size])), (qa1_events_numbers, .inl (C 0, na1_events_numbers, .inl ua1_events_numbers))]) (w2 := [(q_, .inr (0, [.int ua1_people, .ref q_debts, .ref q_consents, .ref q_trail, .ref q_seen, .ref q_events, .ref q_book])), (q_debts, .inr (2, [.ref q_debts_owed, .ref q_debts_order, .int z1.1])), (q_debts_owed, .inl (C 0, 36, .inl z1.2.1)), (q_debts_order, .inl (C 0, 36, .inl z1.2.2)), (q_consents, .inr (1, [.ref q_consents_refused])), (q_consents_refused, .inl (C 2, 36, .inl z2)), (q_trail, .inr (5, [.ref q_trail_numbers, .int u_trail_room, .int z3.1])), (q_trail_numbers, .inl (C 0, n_trail_numbers, .inl z3.2)), (q_seen, .inr (5, [.ref q_seen_numbers, .int u_seen_room, .int z4.1])), (q_seen_numbers, .inl (C 0, n_seen_numbers, .inl z4.2)), (q_events, .inr (5, [.ref q_events_numbers, .int u_events_room, .int z5.1])), (q_events_numbers, .inl (C 0, n_events_numbers, .inl z5.2)), (q_book, .inr (5, [.ref q_book_numbers, .int u_book_room, .int z6.1])), (q_book_numbers, .inl (C 0, n_book_numbers, .inl z6.2)), (qa1_, .inr (0, [.int ua1_people, .ref qa1_debts, .ref qa1_consents, .ref qa1_trail, .ref qa1_seen, .ref qa1_events, .ref qa1_book])), (qa1_debts, .inr (2, [.ref qa1_debts_owed, .ref qa1_debts_order, .int ua1_debts_size])), (qa1_debts_owed, .inl (C 0, 36, .inl ua1_debts_owed)), (qa1_debts_order, .inl (C 0, 36, .inl ua1_debts_order)), (qa1_consents, .inr (1, [.ref qa1_consents_refused])), (qa1_consents_refused, .inl (C 2, 36, .inl ua1_consents_refused)), (qa1_trail, .inr (5, [.ref qa1_trail_numbers, .int ua1_trail_room, .int ua1_trail_size])), (qa1_trail_numbers, .inl (C 0, na1_trail_numbers, .inl ua1_trail_numbers)), (qa1_seen, .inr (5, [.ref qa1_seen_numbers, .int ua1_seen_room, .int ua1_seen_size])), (qa1_seen_numbers, .inl (C 0, na1_seen_numbers, .inl ua1_seen_numbers)), (qa1_events, .inr (5, [.ref qa1_events_numbers, .int ua1_events_room, .int ua1_events_size])), (qa1_events_numbers, .inl (C 0, na1_events_numbers, .inl ua1_events_numbers)), (qa1_book, .inr (5, [.ref qa1_book_numbers, .int ua1_book_room, .int ua1_book_size])), (qa1_book_numbers, .inl (C 0, na1_book_numbers, .inl ua1_book_numbers))]) (st2 := []) cx (CX5_take l D C q_book q_book_numbers qa1_book qa1_book_numbers n_book_numbers na1_book_numbers u_book_room u_book_size u_book_numbers ua1_book_room ua1_book_size ua1_book_numbers z6 hz6) lk_X0_54 my_X5_take ml_X5_take ⟨by decide, by decide⟩ hw [12, 13, 26, 27] [0, 1, 2, 3, 4, 5, 6, 7, 8, 9, 10, 11, 14, 15, 16, 17, 18, 19, 20, 21, 22, 23, 24, 25] [0, 1, 2, 3, 4, 5, 6, 7, 8, 9, 10, 11, 24, 25, 12, 13, 14, 15, 16, 17, 18, 19, 20, 21, 22, 23, 26, 27] rfl rfl (by decide) rfl rfl rfl rfl (Nat.le_of_ble_eq_true rfl) dX0_take_71 rfl (fun H locs hw => ?_) hl.1
  obtain rfl := Option.some.inj hF
  exact rt_v hret hw rfl dX0_take_74
theorem wf_X8_12 : Cond.fieldLink RX8 12 (TX8 0).1 (TX8 0).2.1 (TX8 0).2.2.1 ∈ gdt := gdt_of 263 (by decide +kernel) (by decide +kernel)
theorem wf_X8_60 : Cond.fieldLink RX8 60 (TX0 0).1 (TX0 0).2.1 (TX0 0).2.2.1 ∈ gdt := gdt_of 142 (by decide +kernel) (by decide +kernel)
theorem dX8_person_0 : decode cX8_person 0 = .ok (.aload_n 0, 1) := by decide +kernel
theorem dX8_person_1 : decode cX8_person 1 = .ok (.getfield 12, 3) := by decide +kernel
theorem dX8_person_4 : decode cX8_person 4 = .ok (.getfield 60, 3) := by decide +kernel
theorem dX8_person_7 : decode cX8_person 7 = .ok (.bipush 6, 2) := by decide +kernel
theorem dX8_person_9 : decode cX8_person 9 = .ok (.if_icmp .lt 6, 3) := by decide +kernel
theorem dX8_person_12 : decode cX8_person 12 = .ok (.bipush (-4), 2) := by decide +kernel
theorem dX8_person_14 : decode cX8_person 14 = .ok (.ireturn, 1) := by decide +kernel
theorem dX8_person_15 : decode cX8_person 15 = .ok (.aload_n 0, 1) := by decide +kernel
theorem dX8_person_16 : decode cX8_person 16 = .ok (.getfield 12, 3) := by decide +kernel
theorem dX8_person_19 : decode cX8_person 19 = .ok (.dup, 1) := by decide +kernel
theorem dX8_person_20 : decode cX8_person 20 = .ok (.getfield 60, 3) := by decide +kernel
theorem dX8_person_23 : decode cX8_person 23 = .ok (.iconst 1, 1) := by decide +kernel
theorem dX8_person_24 : decode cX8_person 24 = .ok (.iadd, 1) := by decide +kernel
theorem dX8_person_25 : decode cX8_person 25 = .ok (.putfield 60, 3) := by decide +kernel
theorem dX8_person_28 : decode cX8_person 28 = .ok (.aload_n 0, 1) := by decide +kernel
theorem dX8_person_29 : decode cX8_person 29 = .ok (.getfield 12, 3) := by decide +kernel
theorem dX8_person_32 : decode cX8_person 32 = .ok (.getfield 60, 3) := by decide +kernel
theorem dX8_person_35 : decode cX8_person 35 = .ok (.iconst 1, 1) := by decide +kernel
theorem dX8_person_36 : decode cX8_person 36 = .ok (.isub, 1) := by decide +kernel
theorem dX8_person_37 : decode cX8_person 37 = .ok (.ireturn, 1) := by decide +kernel
def fX8_person (u_now_people : Int32) : Option (Int32 × Int32) := if u_now_people < 6 then (some ((u_now_people + 1) - 1, u_now_people + 1)) else (some ((-4), u_now_people))
set_option maxRecDepth 20000 in
theorem CX8_person (l : Launch) (D : va_G) (C : Nat → ClassId) (q_ q_now q_kept q_supposed q_rings q_netting q_text q_tapes q_now_debts q_now_consents q_now_trail q_now_seen q_now_events q_now_book : Nat) (u_isKept : Int32) (u_now_people : Int32) (z : (Int32 × Int32)) (hF : fX8_person u_now_people = some z) : Ct l yX8_person cX8_person 1 (some .int) 1 D C [.ref q_] [(q_, .inr (8, [.ref q_now, .ref q_kept, .int u_isKept, .ref q_supposed, .ref q_rings, .ref q_netting, .ref q_text, .ref q_tapes])), (q_now, .inr (0, [.int u_now_people, .ref q_now_debts, .ref q_now_consents, .ref q_now_trail, .ref q_now_seen, .ref q_now_events, .ref q_now_book]))] [(q_, .inr (8, [.ref q_now, .ref q_kept, .int u_isKept, .ref q_supposed, .ref q_rings, .ref q_netting, .ref q_text, .ref q_tapes])), (q_now, .inr (0, [.int z.2, .ref q_now_debts, .ref q_now_consents, .ref q_now_trail, .ref q_now_seen, .ref q_now_events, .ref q_now_book]))] (some (.int z.1)) := by
  refine Ct_of (by decide) (Nat.le_of_ble_eq_true rfl) ?_
  intro p e R s m args below meth c A Q H locs ls cx hw hl hret
  have cx : CX p m c s args RX8 cX8_person 1 D C A R 1 := cx
  have hx := cx.1
  have hb := cx.2.1
  have hl : lv_has ls 1 [(0, .ref q_)] := hl
  rw [fX8_person.eq_1] at hF
  refine lv_aload_n hx hb dX8_person_0 rfl (lv_at hl 0 rfl) ?_
  refine r_get (ci := 8) (v := .ref q_now) cx hw iX8 0 0 rfl rfl (by decide) wf_X8_12 rfl dX8_person_1 ?_
  refine r_get (ci := 0) (v := .int u_now_people) cx hw iX0 1 0 rfl rfl (by decide) wf_X8_60 rfl dX8_person_4 ?_
  refine lv_bipush (v := 6) hx hb dX8_person_7 (by decide) ?_
  refine lv_icmp_lt (tgt := 15) hx hb dX8_person_9 (by decide) (fun c1 => ?_) (fun c1 => ?_)
  · replace hF := oi_t c1 hF
    refine lv_aload_n hx hb dX8_person_15 rfl (lv_at hl 0 rfl) ?_
    refine r_get (ci := 8) (v := .ref q_now) cx hw iX8 0 0 rfl rfl (by decide) wf_X8_12 rfl dX8_person_16 ?_
    refine lv_dup hx hb dX8_person_19 rfl ?_
    refine r_get (ci := 0) (v := .int u_now_people) cx hw iX0 1 0 rfl rfl (by decide) wf_X8_60 rfl dX8_person_20 ?_
    refine lv_iconst (v := 1) hx hb dX8_person_23 (by decide) ?_
    refine lv_iadd hx hb dX8_person_24 ?_
    refine r_put (ci := 0) (w2 := [(q_, .inr (8, [.ref q_now, .ref q_kept, .int u_isKept, .ref q_supposed, .ref q_rings, .ref q_netting, .ref q_text, .ref q_tapes])), (q_now, .inr (0, [.int (u_now_people + 1), .ref q_now_debts, .ref q_now_consents, .ref q_now_trail, .ref q_now_seen, .ref q_now_events, .ref q_now_book]))]) cx hw iX0 tyX0_ok nmX0 1 0 rfl rfl (by decide) wf_X8_60 rfl rfl rfl rfl (Nat.le_of_ble_eq_true rfl) dX8_person_25 rfl (fun H locs hw => ?_)
    refine lv_aload_n hx hb dX8_person_28 rfl (lv_at hl 0 rfl) ?_
    refine r_get (ci := 8) (v := .ref q_now) cx hw iX8 0 0 rfl rfl (by decide) wf_X8_12 rfl dX8_person_29 ?_
    refine r_get (ci := 0) (v := .int (u_now_people + 1)) cx hw iX0 1 0 rfl rfl (by decide) wf_X8_60 rfl dX8_person_32 ?_
    refine lv_iconst (v := 1) hx hb dX8_person_35 (by decide) ?_
    refine lv_isub hx hb dX8_person_36 ?_
    obtain rfl := Option.some.inj hF
    exact rt_i hret hw rfl dX8_person_37
  · replace hF := oi_f c1 hF
    refine lv_bipush (v := (-4)) hx hb dX8_person_12 (by decide) ?_
    obtain rfl := Option.some.inj hF
    exact rt_i hret hw rfl dX8_person_14
theorem dX8_isPerson_0 : decode cX8_isPerson 0 = .ok (.iload_n 1, 1) := by decide +kernel
theorem dX8_isPerson_1 : decode cX8_isPerson 1 = .ok (.ifCond .lt 18, 3) := by decide +kernel
theorem dX8_isPerson_4 : decode cX8_isPerson 4 = .ok (.iload_n 1, 1) := by decide +kernel
theorem dX8_isPerson_5 : decode cX8_isPerson 5 = .ok (.aload_n 0, 1) := by decide +kernel
theorem dX8_isPerson_6 : decode cX8_isPerson 6 = .ok (.getfield 12, 3) := by decide +kernel
theorem dX8_isPerson_9 : decode cX8_isPerson 9 = .ok (.getfield 60, 3) := by decide +kernel
theorem dX8_isPerson_12 : decode cX8_isPerson 12 = .ok (.if_icmp .ge 7, 3) := by decide +kernel
theorem dX8_isPerson_15 : decode cX8_isPerson 15 = .ok (.iconst 1, 1) := by decide +kernel
theorem dX8_isPerson_16 : decode cX8_isPerson 16 = .ok (.goto 4, 3) := by decide +kernel
theorem dX8_isPerson_19 : decode cX8_isPerson 19 = .ok (.iconst 0, 1) := by decide +kernel
theorem dX8_isPerson_20 : decode cX8_isPerson 20 = .ok (.ireturn, 1) := by decide +kernel
def fX8_isPerson (u_now_people : Int32) (x1 : Int32) : Option Int32 := if x1 < 0 then (some 0) else (if u_now_people ≤ x1 then (some 0) else (some 1))
set_option maxRecDepth 20000 in
theorem CX8_isPerson (l : Launch) (D : va_G) (C : Nat → ClassId) (q_ q_now q_kept q_supposed q_rings q_netting q_text q_tapes q_now_debts q_now_consents q_now_trail q_now_seen q_now_events q_now_book : Nat) (u_isKept : Int32) (u_now_people : Int32) (x1 : Int32) (z : Int32) (hF : fX8_isPerson u_now_people x1 = some z) : Ct l yX8_isPerson cX8_isPerson 2 (some .boolean) 1 D C [.ref q_, .int x1] [(q_, .inr (8, [.ref q_now, .ref q_kept, .int u_isKept, .ref q_supposed, .ref q_rings, .ref q_netting, .ref q_text, .ref q_tapes])), (q_now, .inr (0, [.int u_now_people, .ref q_now_debts, .ref q_now_consents, .ref q_now_trail, .ref q_now_seen, .ref q_now_events, .ref q_now_book]))] [(q_, .inr (8, [.ref q_now, .ref q_kept, .int u_isKept, .ref q_supposed, .ref q_rings, .ref q_netting, .ref q_text, .ref q_tapes])), (q_now, .inr (0, [.int u_now_people, .ref q_now_debts, .ref q_now_consents, .ref q_now_trail, .ref q_now_seen, .ref q_now_events, .ref q_now_book]))] (some (.int z)) := by
  refine Ct_of (by decide) (Nat.le_of_ble_eq_true rfl) ?_
  intro p e R s m args below meth c A Q H locs ls cx hw hl hret
  have cx : CX p m c s args RX8 cX8_isPerson 2 D C A R 1 := cx
  have hx := cx.1
  have hb := cx.2.1
  have hl : lv_has ls 2 [(0, .ref q_), (1, .int x1)] := hl
  rw [fX8_isPerson.eq_1] at hF
  refine lv_iload_n hx hb dX8_isPerson_0 rfl (lv_at hl 1 rfl) ?_
  refine lv_if_lt (tgt := 19) hx hb dX8_isPerson_1 (by decide) (fun c1 => ?_) (fun c1 => ?_)
  · replace hF := oi_t c1 hF
    refine lv_iconst (v := 0) hx hb dX8_isPerson_19 (by decide) ?_
    obtain rfl := Option.some.inj hF
    exact rt_z hret hw rfl rfl dX8_isPerson_20
  · replace hF := oi_f c1 hF
    refine lv_iload_n hx hb dX8_isPerson_4 rfl (lv_at hl 1 rfl) ?_
    refine lv_aload_n hx hb dX8_isPerson_5 rfl (lv_at hl 0 rfl) ?_
    refine r_get (ci := 8) (v := .ref q_now) cx hw iX8 0 0 rfl rfl (by decide) wf_X8_12 rfl dX8_isPerson_6 ?_
    refine r_get (ci := 0) (v := .int u_now_people) cx hw iX0 1 0 rfl rfl (by decide) wf_X8_60 rfl dX8_isPerson_9 ?_
    refine lv_icmp_ge (tgt := 19) hx hb dX8_isPerson_12 (by decide) (fun c2 => ?_) (fun c2 => ?_)
    · replace hF := oi_t c2 hF
      refine lv_iconst (v := 0) hx hb dX8_isPerson_19 (by decide) ?_
      obtain rfl := Option.some.inj hF
      exact rt_z hret hw rfl rfl dX8_isPerson_20
    · replace hF := oi_f c2 hF
      refine lv_iconst (v := 1) hx hb dX8_isPerson_15 (by decide) ?_
      refine lv_goto (tgt := 20) hx hb dX8_isPerson_16 (by decide) ?_
      obtain rfl := Option.some.inj hF
      exact rt_z hret hw rfl rfl dX8_isPerson_20
theorem lk_X8_156 : Cond.methodLink RX8 156 yX8_isPerson ∈ gdt := gdt_of 300 (by decide +kernel) (by decide +kernel)
theorem my_X8_isPerson : (yX8_isPerson.cls ≠ "java/lang/invoke/MethodHandle" ∧ yX8_isPerson.cls ≠ "java/lang/invoke/VarHandle") ∧ Cond.instanceMethod yX8_isPerson ∈ gdt ∧ Cond.selects yX8_isPerson.cls yX8_isPerson yX8_isPerson ∈ gdt ∧ Cond.initialized yX8_isPerson.cls ∈ gdt ∧ Cond.code yX8_isPerson cX8_isPerson 2 (some .boolean) ∈ gdt := ⟨⟨by decide +kernel, by decide +kernel⟩, gdt_of 302 (by decide +kernel) (by decide +kernel), gdt_of 1 (by decide +kernel) (by decide +kernel), gdt_of 67 (by decide +kernel) (by decide +kernel), gdt_of 303 (by decide +kernel) (by decide +kernel)⟩
theorem ml_X8_isPerson : (parseMethodDescriptor yX8_isPerson.desc).map (fun d => d.parameters.length) = some 1 := by decide +kernel
theorem dX8_isPair_0 : decode cX8_isPair 0 = .ok (.aload_n 0, 1) := by decide +kernel
theorem dX8_isPair_1 : decode cX8_isPair 1 = .ok (.iload_n 1, 1) := by decide +kernel
theorem dX8_isPair_2 : decode cX8_isPair 2 = .ok (.invokevirtual 156, 3) := by decide +kernel
theorem dX8_isPair_5 : decode cX8_isPair 5 = .ok (.ifCond .eq 20, 3) := by decide +kernel
theorem dX8_isPair_8 : decode cX8_isPair 8 = .ok (.aload_n 0, 1) := by decide +kernel
theorem dX8_isPair_9 : decode cX8_isPair 9 = .ok (.iload_n 2, 1) := by decide +kernel
theorem dX8_isPair_10 : decode cX8_isPair 10 = .ok (.invokevirtual 156, 3) := by decide +kernel
theorem dX8_isPair_13 : decode cX8_isPair 13 = .ok (.ifCond .eq 12, 3) := by decide +kernel
theorem dX8_isPair_16 : decode cX8_isPair 16 = .ok (.iload_n 1, 1) := by decide +kernel
theorem dX8_isPair_17 : decode cX8_isPair 17 = .ok (.iload_n 2, 1) := by decide +kernel
theorem dX8_isPair_18 : decode cX8_isPair 18 = .ok (.if_icmp .eq 7, 3) := by decide +kernel
theorem dX8_isPair_21 : decode cX8_isPair 21 = .ok (.iconst 1, 1) := by decide +kernel
theorem dX8_isPair_22 : decode cX8_isPair 22 = .ok (.goto 4, 3) := by decide +kernel
theorem dX8_isPair_25 : decode cX8_isPair 25 = .ok (.iconst 0, 1) := by decide +kernel
theorem dX8_isPair_26 : decode cX8_isPair 26 = .ok (.ireturn, 1) := by decide +kernel
def fX8_isPair (u_now_people : Int32) (x1 : Int32) (x2 : Int32) : Option Int32 := (fX8_isPerson u_now_people x1).bind (fun z1 => if z1 = 0 then (some 0) else ((fX8_isPerson u_now_people x2).bind (fun z3 => if z3 = 0 then (some 0) else (if x1 = x2 then (some 0) else (some 1)))))
set_option maxRecDepth 20000 in
theorem CX8_isPair (l : Launch) (D : va_G) (C : Nat → ClassId) (q_ q_now q_kept q_supposed q_rings q_netting q_text q_tapes q_now_debts q_now_consents q_now_trail q_now_seen q_now_events q_now_book : Nat) (u_isKept : Int32) (u_now_people : Int32) (x1 : Int32) (x2 : Int32) (z : Int32) (hF : fX8_isPair u_now_people x1 x2 = some z) : Ct l yX8_isPair cX8_isPair 3 (some .boolean) 2 D C [.ref q_, .int x1, .int x2] [(q_, .inr (8, [.ref q_now, .ref q_kept, .int u_isKept, .ref q_supposed, .ref q_rings, .ref q_netting, .ref q_text, .ref q_tapes])), (q_now, .inr (0, [.int u_now_people, .ref q_now_debts, .ref q_now_consents, .ref q_now_trail, .ref q_now_seen, .ref q_now_events, .ref q_now_book]))] [(q_, .inr (8, [.ref q_now, .ref q_kept, .int u_isKept, .ref q_supposed, .ref q_rings, .ref q_netting, .ref q_text, .ref q_tapes])), (q_now, .inr (0, [.int u_now_people, .ref q_now_debts, .ref q_now_consents, .ref q_now_trail, .ref q_now_seen, .ref q_now_events, .ref q_now_book]))] (some (.int z)) := by
  refine Ct_of (by decide) (Nat.le_of_ble_eq_true rfl) ?_
  intro p e R s m args below meth c A Q H locs ls cx hw hl hret
  have cx : CX p m c s args RX8 cX8_isPair 3 D C A R 2 := cx
  have hx := cx.1
  have hb := cx.2.1
  have hl : lv_has ls 3 [(0, .ref q_), (1, .int x1), (2, .int x2)] := hl
  rw [fX8_isPair.eq_1] at hF
  refine lv_aload_n hx hb dX8_isPair_0 rfl (lv_at hl 0 rfl) ?_
  refine lv_iload_n hx hb dX8_isPair_1 rfl (lv_at hl 1 rfl) ?_
  obtain ⟨z1, hz1, hF⟩ := ob hF
  refine cV (wr := []) (w2 := [(q_, .inr (8, [.ref q_now, .ref q_kept, .int u_isKept, .ref q_supposed, .ref q_rings, .ref q_netting, .ref q_text, .ref q_tapes])), (q_now, .inr (0, [.int u_now_people, .ref q_now_debts, .ref q_now_consents, .ref q_now_trail, .ref q_now_seen, .ref q_now_events, .ref q_now_book]))]) (st2 := [.int z1]) cx (CX8_isPerson l D C q_ q_now q_kept q_supposed q_rings q_netting q_text q_tapes q_now_debts q_now_consents q_now_trail q_now_seen q_now_events q_now_book u_isKept u_now_people x1 z1 hz1) lk_X8_156 my_X8_isPerson ml_X8_isPerson ⟨by decide, by decide⟩ hw [0, 1] [] [0, 1] rfl rfl (by decide) rfl rfl rfl rfl (Nat.le_of_ble_eq_true rfl) dX8_isPair_2 rfl (fun H locs hw => ?_) hl.1
  refine lv_if_eq (tgt := 25) hx hb dX8_isPair_5 (by decide) (fun c2 => ?_) (fun c2 => ?_)
  · replace hF := oi_t c2 hF
    refine lv_iconst (v := 0) hx hb dX8_isPair_25 (by decide) ?_
    obtain rfl := Option.some.inj hF
    exact rt_z hret hw rfl rfl dX8_isPair_26
  · replace hF := oi_f c2 hF
    refine lv_aload_n hx hb dX8_isPair_8 rfl (lv_at hl 0 rfl) ?_
    refine lv_iload_n hx hb dX8_isPair_9 rfl (lv_at hl 2 rfl) ?_
    obtain ⟨z3, hz3, hF⟩ := ob hF
    refine cV (wr := []) (w2 := [(q_, .inr (8, [.ref q_now, .ref q_kept, .int u_isKept, .ref q_supposed, .ref q_rings, .ref q_netting, .ref q_text, .ref q_tapes])), (q_now, .inr (0, [.int u_now_people, .ref q_now_debts, .ref q_now_consents, .ref q_now_trail, .ref q_now_seen, .ref q_now_events, .ref q_now_book]))]) (st2 := [.int z3]) cx (CX8_isPerson l D C q_ q_now q_kept q_supposed q_rings q_netting q_text q_tapes q_now_debts q_now_consents q_now_trail q_now_seen q_now_events q_now_book u_isKept u_now_people x2 z3 hz3) lk_X8_156 my_X8_isPerson ml_X8_isPerson ⟨by decide, by decide⟩ hw [0, 1] [] [0, 1] rfl rfl (by decide) rfl rfl rfl rfl (Nat.le_of_ble_eq_true rfl) dX8_isPair_10 rfl (fun H locs hw => ?_) hl.1
    refine lv_if_eq (tgt := 25) hx hb dX8_isPair_13 (by decide) (fun c4 => ?_) (fun c4 => ?_)
    · replace hF := oi_t c4 hF
      refine lv_iconst (v := 0) hx hb dX8_isPair_25 (by decide) ?_
      obtain rfl := Option.some.inj hF
      exact rt_z hret hw rfl rfl dX8_isPair_26
    · replace hF := oi_f c4 hF
      refine lv_iload_n hx hb dX8_isPair_16 rfl (lv_at hl 1 rfl) ?_
      refine lv_iload_n hx hb dX8_isPair_17 rfl (lv_at hl 2 rfl) ?_
      refine lv_icmp_eq (tgt := 25) hx hb dX8_isPair_18 (by decide) (fun c5 => ?_) (fun c5 => ?_)
      · replace hF := oi_t c5 hF
        refine lv_iconst (v := 0) hx hb dX8_isPair_25 (by decide) ?_
        obtain rfl := Option.some.inj hF
        exact rt_z hret hw rfl rfl dX8_isPair_26
      · replace hF := oi_f c5 hF
        refine lv_iconst (v := 1) hx hb dX8_isPair_21 (by decide) ?_
        refine lv_goto (tgt := 26) hx hb dX8_isPair_22 (by decide) ?_
        obtain rfl := Option.some.inj hF
        exact rt_z hret hw rfl rfl dX8_isPair_26
theorem lk_X8_64 : Cond.methodLink RX8 64 yX8_isPair ∈ gdt := gdt_of 296 (by decide +kernel) (by decide +kernel)
theorem wf_X8_68 : Cond.fieldLink RX8 68 (TX0 1).1 (TX0 1).2.1 (TX0 1).2.2.1 ∈ gdt := gdt_of 144 (by decide +kernel) (by decide +kernel)
theorem lk_X8_71 : Cond.methodLink RX8 71 yX2_amount ∈ gdt := gdt_of 304 (by decide +kernel) (by decide +kernel)
theorem lk_X8_75 : Cond.methodLink RX8 75 yX2_put ∈ gdt := gdt_of 311 (by decide +kernel) (by decide +kernel)
theorem my_X8_isPair : (yX8_isPair.cls ≠ "java/lang/invoke/MethodHandle" ∧ yX8_isPair.cls ≠ "java/lang/invoke/VarHandle") ∧ Cond.instanceMethod yX8_isPair ∈ gdt ∧ Cond.selects yX8_isPair.cls yX8_isPair yX8_isPair ∈ gdt ∧ Cond.initialized yX8_isPair.cls ∈ gdt ∧ Cond.code yX8_isPair cX8_isPair 3 (some .boolean) ∈ gdt := ⟨⟨by decide +kernel, by decide +kernel⟩, gdt_of 298 (by decide +kernel) (by decide +kernel), gdt_of 0 (by decide +kernel) (by decide +kernel), gdt_of 67 (by decide +kernel) (by decide +kernel), gdt_of 299 (by decide +kernel) (by decide +kernel)⟩
theorem ml_X8_isPair : (parseMethodDescriptor yX8_isPair.desc).map (fun d => d.parameters.length) = some 2 := by decide +kernel
theorem dX8_owe_0 : decode cX8_owe 0 = .ok (.aload_n 0, 1) := by decide +kernel
theorem dX8_owe_1 : decode cX8_owe 1 = .ok (.iload_n 1, 1) := by decide +kernel
theorem dX8_owe_2 : decode cX8_owe 2 = .ok (.iload_n 2, 1) := by decide +kernel
theorem dX8_owe_3 : decode cX8_owe 3 = .ok (.invokevirtual 64, 3) := by decide +kernel
theorem dX8_owe_6 : decode cX8_owe 6 = .ok (.ifCond .ne 5, 3) := by decide +kernel
theorem dX8_owe_9 : decode cX8_owe 9 = .ok (.iconst (-1), 1) := by decide +kernel
theorem dX8_owe_10 : decode cX8_owe 10 = .ok (.ireturn, 1) := by decide +kernel
theorem dX8_owe_11 : decode cX8_owe 11 = .ok (.iload_n 3, 1) := by decide +kernel
theorem dX8_owe_12 : decode cX8_owe 12 = .ok (.iconst 1, 1) := by decide +kernel
theorem dX8_owe_13 : decode cX8_owe 13 = .ok (.if_icmp .lt 9, 3) := by decide +kernel
theorem dX8_owe_16 : decode cX8_owe 16 = .ok (.iload_n 3, 1) := by decide +kernel
theorem dX8_owe_17 : decode cX8_owe 17 = .ok (.bipush 99, 2) := by decide +kernel
theorem dX8_owe_19 : decode cX8_owe 19 = .ok (.if_icmp .le 6, 3) := by decide +kernel
theorem dX8_owe_22 : decode cX8_owe 22 = .ok (.bipush (-2), 2) := by decide +kernel
theorem dX8_owe_24 : decode cX8_owe 24 = .ok (.ireturn, 1) := by decide +kernel
theorem dX8_owe_25 : decode cX8_owe 25 = .ok (.aload_n 0, 1) := by decide +kernel
theorem dX8_owe_26 : decode cX8_owe 26 = .ok (.getfield 12, 3) := by decide +kernel
theorem dX8_owe_29 : decode cX8_owe 29 = .ok (.getfield 68, 3) := by decide +kernel
theorem dX8_owe_32 : decode cX8_owe 32 = .ok (.iload_n 1, 1) := by decide +kernel
theorem dX8_owe_33 : decode cX8_owe 33 = .ok (.iload_n 2, 1) := by decide +kernel
theorem dX8_owe_34 : decode cX8_owe 34 = .ok (.invokevirtual 71, 3) := by decide +kernel
theorem dX8_owe_37 : decode cX8_owe 37 = .ok (.iload_n 3, 1) := by decide +kernel
theorem dX8_owe_38 : decode cX8_owe 38 = .ok (.iadd, 1) := by decide +kernel
theorem dX8_owe_39 : decode cX8_owe 39 = .ok (.istore 4, 2) := by decide +kernel
theorem dX8_owe_41 : decode cX8_owe 41 = .ok (.iload 4, 2) := by decide +kernel
theorem dX8_owe_43 : decode cX8_owe 43 = .ok (.sipush 999, 3) := by decide +kernel
theorem dX8_owe_46 : decode cX8_owe 46 = .ok (.if_icmp .le 6, 3) := by decide +kernel
theorem dX8_owe_49 : decode cX8_owe 49 = .ok (.bipush (-4), 2) := by decide +kernel
theorem dX8_owe_51 : decode cX8_owe 51 = .ok (.ireturn, 1) := by decide +kernel
theorem dX8_owe_52 : decode cX8_owe 52 = .ok (.aload_n 0, 1) := by decide +kernel
theorem dX8_owe_53 : decode cX8_owe 53 = .ok (.getfield 12, 3) := by decide +kernel
theorem dX8_owe_56 : decode cX8_owe 56 = .ok (.getfield 68, 3) := by decide +kernel
theorem dX8_owe_59 : decode cX8_owe 59 = .ok (.iload_n 1, 1) := by decide +kernel
theorem dX8_owe_60 : decode cX8_owe 60 = .ok (.iload_n 2, 1) := by decide +kernel
theorem dX8_owe_61 : decode cX8_owe 61 = .ok (.iload 4, 2) := by decide +kernel
theorem dX8_owe_63 : decode cX8_owe 63 = .ok (.invokevirtual 75, 3) := by decide +kernel
theorem dX8_owe_66 : decode cX8_owe 66 = .ok (.iload 4, 2) := by decide +kernel
theorem dX8_owe_68 : decode cX8_owe 68 = .ok (.ireturn, 1) := by decide +kernel
def fX8_owe (u_now_people : Int32) (u_now_debts_size : Int32) (u_now_debts_owed : (Nat → Int32)) (u_now_debts_order : (Nat → Int32)) (x1 : Int32) (x2 : Int32) (x3 : Int32) : Option (Int32 × Int32 × (Nat → Int32) × (Nat → Int32)) := (fX8_isPair u_now_people x1 x2).bind (fun z1 => if z1 = 0 then (some ((-1), u_now_debts_size, u_now_debts_owed, u_now_debts_order)) else (if x3 < 1 then (some ((-2), u_now_debts_size, u_now_debts_owed, u_now_debts_order)) else (if x3 ≤ 99 then ((fX2_amount u_now_debts_owed x1 x2).bind (fun z5 => if (z5 + x3) ≤ 999 then ((fX2_put u_now_debts_size u_now_debts_owed u_now_debts_order x1 x2 (z5 + x3)).bind (fun z7 => some (z5 + x3, z7.1, z7.2.1, z7.2.2))) else (some ((-4), u_now_debts_size, u_now_debts_owed, u_now_debts_order)))) else (some ((-2), u_now_debts_size, u_now_debts_owed, u_now_debts_order)))))
set_option maxRecDepth 20000 in
theorem CX8_owe (l : Launch) (D : va_G) (C : Nat → ClassId) (q_ q_now q_kept q_supposed q_rings q_netting q_text q_tapes q_now_debts q_now_consents q_now_trail q_now_seen q_now_events q_now_book q_now_debts_owed q_now_debts_order : Nat) (u_isKept : Int32) (u_now_people : Int32) (u_now_debts_size : Int32) (u_now_debts_owed : (Nat → Int32)) (u_now_debts_order : (Nat → Int32)) (x1 : Int32) (x2 : Int32) (x3 : Int32) (z : (Int32 × Int32 × (Nat → Int32) × (Nat → Int32))) (hF : fX8_owe u_now_people u_now_debts_size u_now_debts_owed u_now_debts_order x1 x2 x3 = some z) : Ct l yX8_owe cX8_owe 5 (some .int) 3 D C [.ref q_, .int x1, .int x2, .int x3] [(q_, .inr (8, [.ref q_now, .ref q_kept, .int u_isKept, .ref q_supposed, .ref q_rings, .ref q_netting, .ref q_text, .ref q_tapes])), (q_now, .inr (0, [.int u_now_people, .ref q_now_debts, .ref q_now_consents, .ref q_now_trail, .ref q_now_seen, .ref q_now_events, .ref q_now_book])), (q_now_debts, .inr (2, [.ref q_now_debts_owed, .ref q_now_debts_order, .int u_now_debts_size])), (q_now_debts_owed, .inl (C 0, 36, .inl u_now_debts_owed)), (q_now_debts_order, .inl (C 0, 36, .inl u_now_debts_order))] [(q_, .inr (8, [.ref q_now, .ref q_kept, .int u_isKept, .ref q_supposed, .ref q_rings, .ref q_netting, .ref q_text, .ref q_tapes])), (q_now, .inr (0, [.int u_now_people, .ref q_now_debts, .ref q_now_consents, .ref q_now_trail, .ref q_now_seen, .ref q_now_events, .ref q_now_book])), (q_now_debts, .inr (2, [.ref q_now_debts_owed, .ref q_now_debts_order, .int z.2.1])), (q_now_debts_owed, .inl (C 0, 36, .inl z.2.2.1)), (q_now_debts_order, .inl (C 0, 36, .inl z.2.2.2))] (some (.int z.1)) := by
  refine Ct_of (by decide) (Nat.le_of_ble_eq_true rfl) ?_
  intro p e R s m args below meth c A Q H locs ls cx hw hl hret
  have cx : CX p m c s args RX8 cX8_owe 5 D C A R 3 := cx
  have hx := cx.1
  have hb := cx.2.1
  have hl : lv_has ls 5 [(0, .ref q_), (1, .int x1), (2, .int x2), (3, .int x3)] := hl
  rw [fX8_owe.eq_1] at hF
  refine lv_aload_n hx hb dX8_owe_0 rfl (lv_at hl 0 rfl) ?_
  refine lv_iload_n hx hb dX8_owe_1 rfl (lv_at hl 1 rfl) ?_
  refine lv_iload_n hx hb dX8_owe_2 rfl (lv_at hl 2 rfl) ?_
  obtain ⟨z1, hz1, hF⟩ := ob hF
  refine cV (wr := [(q_now_debts, .inr (2, [.ref q_now_debts_owed, .ref q_now_debts_order, .int u_now_debts_size])), (q_now_debts_owed, .inl (C 0, 36, .inl u_now_debts_owed)), (q_now_debts_order, .inl (C 0, 36, .inl u_now_debts_order))]) (w2 := [(q_, .inr (8, [.ref q_now, .ref q_kept, .int u_isKept, .ref q_supposed, .ref q_rings, .ref q_netting, .ref q_text, .ref q_tapes])), (q_now, .inr (0, [.int u_now_people, .ref q_now_debts, .ref q_now_consents, .ref q_now_trail, .ref q_now_seen, .ref q_now_events, .ref q_now_book])), (q_now_debts, .inr (2, [.ref q_now_debts_owed, .ref q_now_debts_order, .int u_now_debts_size])), (q_now_debts_owed, .inl (C 0, 36, .inl u_now_debts_owed)), (q_now_debts_order, .inl (C 0, 36, .inl u_now_debts_order))]) (st2 := [.int z1]) cx (CX8_isPair l D C q_ q_now q_kept q_supposed q_rings q_netting q_text q_tapes q_now_debts q_now_consents q_now_trail q_now_seen q_now_events q_now_book u_isKept u_now_people x1 x2 z1 hz1) lk_X8_64 my_X8_isPair ml_X8_isPair ⟨by decide, by decide⟩ hw [0, 1] [2, 3, 4] [3, 4, 0, 1, 2] rfl rfl (by decide) rfl rfl rfl rfl (Nat.le_of_ble_eq_true rfl) dX8_owe_3 rfl (fun H locs hw => ?_) hl.1
  refine lv_if_ne (tgt := 11) hx hb dX8_owe_6 (by decide) (fun c2 => ?_) (fun c2 => ?_)
  · replace hF := oi_f c2 hF
    refine lv_iload_n hx hb dX8_owe_11 rfl (lv_at hl 3 rfl) ?_
    refine lv_iconst (v := 1) hx hb dX8_owe_12 (by decide) ?_
    refine lv_icmp_lt (tgt := 22) hx hb dX8_owe_13 (by decide) (fun c3 => ?_) (fun c3 => ?_)
    · replace hF := oi_t c3 hF
      refine lv_bipush (v := (-2)) hx hb dX8_owe_22 (by decide) ?_
      obtain rfl := Option.some.inj hF
      exact rt_i hret hw rfl dX8_owe_24
    · replace hF := oi_f c3 hF
      refine lv_iload_n hx hb dX8_owe_16 rfl (lv_at hl 3 rfl) ?_
      refine lv_bipush (v := 99) hx hb dX8_owe_17 (by decide) ?_
      refine lv_icmp_le (tgt := 25) hx hb dX8_owe_19 (by decide) (fun c4 => ?_) (fun c4 => ?_)
      · replace hF := oi_t c4 hF
        refine lv_aload_n hx hb dX8_owe_25 rfl (lv_at hl 0 rfl) ?_
        refine r_get (ci := 8) (v := .ref q_now) cx hw iX8 0 0 rfl rfl (by decide) wf_X8_12 rfl dX8_owe_26 ?_
        refine r_get (ci := 0) (v := .ref q_now_debts) cx hw iX0 1 1 rfl rfl (by decide) wf_X8_68 rfl dX8_owe_29 ?_
        refine lv_iload_n hx hb dX8_owe_32 rfl (lv_at hl 1 rfl) ?_
        refine lv_iload_n hx hb dX8_owe_33 rfl (lv_at hl 2 rfl) ?_
        obtain ⟨z5, hz5, hF⟩ := ob hF
        refine cV (wr := [(q_, .inr (8, [.ref q_now, .ref q_kept, .int u_isKept, .ref q_supposed, .ref q_rings, .ref q_netting, .ref q_text, .ref q_tapes])), (q_now, .inr (0, [.int u_now_people, .ref q_now_debts, .ref q_now_consents, .ref q_now_trail, .ref q_now_seen, .ref q_now_events, .ref q_now_book])), (q_now_debts_order, .inl (C 0, 36, .inl u_now_debts_order))]) (w2 := [(q_, .inr (8, [.ref q_now, .ref q_kept, .int u_isKept, .ref q_supposed, .ref q_rings, .ref q_netting, .ref q_text, .ref q_tapes])), (q_now, .inr (0, [.int u_now_people, .ref q_now_debts, .ref q_now_consents, .ref q_now_trail, .ref q_now_seen, .ref q_now_events, .ref q_now_book])), (q_now_debts, .inr (2, [.ref q_now_debts_owed, .ref q_now_debts_order, .int u_now_debts_size])), (q_now_debts_owed, .inl (C 0, 36, .inl u_now_debts_owed)), (q_now_debts_order, .inl (C 0, 36, .inl u_now_debts_order))]) (st2 := [.int z5]) cx (CX2_amount l D C q_now_debts q_now_debts_owed q_now_debts_order u_now_debts_size u_now_debts_owed x1 x2 z5 hz5) lk_X8_71 my_X2_amount ml_X2_amount ⟨by decide, by decide⟩ hw [2, 3] [0, 1, 4] [0, 1, 3, 4, 2] rfl rfl (by decide) rfl rfl rfl rfl (Nat.le_of_ble_eq_true rfl) dX8_owe_34 rfl (fun H locs hw => ?_) hl.1
        refine lv_iload_n hx hb dX8_owe_37 rfl (lv_at hl 3 rfl) ?_
        refine lv_iadd hx hb dX8_owe_38 ?_
        refine lv_istore (lv' := [(4, .int (z5 + x3)), (0, .ref q_), (1, .int x1), (2, .int x2), (3, .int x3)]) hx hb dX8_owe_39 hl (by decide) rfl (fun ls hl => ?_)
        refine lv_iload hx hb dX8_owe_41 (lv_at hl 0 rfl) ?_
        refine lv_sipush (v := 999) hx hb dX8_owe_43 (by decide) ?_
        refine lv_icmp_le (tgt := 52) hx hb dX8_owe_46 (by decide) (fun c6 => ?_) (fun c6 => ?_)
        · replace hF := oi_t c6 hF
          refine lv_aload_n hx hb dX8_owe_52 rfl (lv_at hl 1 rfl) ?_
          refine r_get (ci := 8) (v := .ref q_now) cx hw iX8 0 0 rfl rfl (by decide) wf_X8_12 rfl dX8_owe_53 ?_
          refine r_get (ci := 0) (v := .ref q_now_debts) cx hw iX0 1 1 rfl rfl (by decide) wf_X8_68 rfl dX8_owe_56 ?_
          refine lv_iload_n hx hb dX8_owe_59 rfl (lv_at hl 2 rfl) ?_
          refine lv_iload_n hx hb dX8_owe_60 rfl (lv_at hl 3 rfl) ?_
          refine lv_iload hx hb dX8_owe_61 (lv_at hl 0 rfl) ?_
          obtain ⟨z7, hz7, hF⟩ := ob hF
          refine cV (wr := [(q_, .inr (8, [.ref q_now, .ref q_kept, .int u_isKept, .ref q_supposed, .ref q_rings, .ref q_netting, .ref q_text, .ref q_tapes])), (q_now, .inr (0, [.int u_now_people, .ref q_now_debts, .ref q_now_consents, .ref q_now_trail, .ref q_now_seen, .ref q_now_events, .ref q_now_book]))]) (w2 := [(q_, .inr (8, [.ref q_now, .ref q_kept, .int u_isKept, .ref q_supposed, .ref q_rings, .ref q_netting, .ref q_text, .ref q_tapes])), (q_now, .inr (0, [.int u_now_people, .ref q_now_debts, .ref q_now_consents, .ref q_now_trail, .ref q_now_seen, .ref q_now_events, .ref q_now_book])), (q_now_debts, .inr (2, [.ref q_now_debts_owed, .ref q_now_debts_order, .int z7.1])), (q_now_debts_owed, .inl (C 0, 36, .inl z7.2.1)), (q_now_debts_order, .inl (C 0, 36, .inl z7.2.2))]) (st2 := []) cx (CX2_put l D C q_now_debts q_now_debts_owed q_now_debts_order u_now_debts_size u_now_debts_owed u_now_debts_order x1 x2 (z5 + x3) z7 hz7) lk_X8_75 my_X2_put ml_X2_put ⟨by decide, by decide⟩ hw [2, 3, 4] [0, 1] [0, 1, 2, 3, 4] rfl rfl (by decide) rfl rfl rfl rfl (Nat.le_of_ble_eq_true rfl) dX8_owe_63 rfl (fun H locs hw => ?_) hl.1
          refine lv_iload hx hb dX8_owe_66 (lv_at hl 0 rfl) ?_
          obtain rfl := Option.some.inj hF
          exact rt_i hret hw rfl dX8_owe_68
        · replace hF := oi_f c6 hF
          refine lv_bipush (v := (-4)) hx hb dX8_owe_49 (by decide) ?_
          obtain rfl := Option.some.inj hF
          exact rt_i hret hw rfl dX8_owe_51
      · replace hF := oi_f c4 hF
        refine lv_bipush (v := (-2)) hx hb dX8_owe_22 (by decide) ?_
        obtain rfl := Option.some.inj hF
        exact rt_i hret hw rfl dX8_owe_24
  · replace hF := oi_t c2 hF
    refine lv_iconst (v := (-1)) hx hb dX8_owe_9 (by decide) ?_
    obtain rfl := Option.some.inj hF
    exact rt_i hret hw rfl dX8_owe_10
theorem dX8_pay_0 : decode cX8_pay 0 = .ok (.aload_n 0, 1) := by decide +kernel
theorem dX8_pay_1 : decode cX8_pay 1 = .ok (.iload_n 1, 1) := by decide +kernel
theorem dX8_pay_2 : decode cX8_pay 2 = .ok (.iload_n 2, 1) := by decide +kernel
theorem dX8_pay_3 : decode cX8_pay 3 = .ok (.invokevirtual 64, 3) := by decide +kernel
theorem dX8_pay_6 : decode cX8_pay 6 = .ok (.ifCond .ne 5, 3) := by decide +kernel
theorem dX8_pay_9 : decode cX8_pay 9 = .ok (.iconst (-1), 1) := by decide +kernel
theorem dX8_pay_10 : decode cX8_pay 10 = .ok (.ireturn, 1) := by decide +kernel
theorem dX8_pay_11 : decode cX8_pay 11 = .ok (.iload_n 3, 1) := by decide +kernel
theorem dX8_pay_12 : decode cX8_pay 12 = .ok (.iconst 1, 1) := by decide +kernel
theorem dX8_pay_13 : decode cX8_pay 13 = .ok (.if_icmp .lt 9, 3) := by decide +kernel
theorem dX8_pay_16 : decode cX8_pay 16 = .ok (.iload_n 3, 1) := by decide +kernel
theorem dX8_pay_17 : decode cX8_pay 17 = .ok (.bipush 99, 2) := by decide +kernel
theorem dX8_pay_19 : decode cX8_pay 19 = .ok (.if_icmp .le 6, 3) := by decide +kernel
theorem dX8_pay_22 : decode cX8_pay 22 = .ok (.bipush (-2), 2) := by decide +kernel
theorem dX8_pay_24 : decode cX8_pay 24 = .ok (.ireturn, 1) := by decide +kernel
theorem dX8_pay_25 : decode cX8_pay 25 = .ok (.aload_n 0, 1) := by decide +kernel
theorem dX8_pay_26 : decode cX8_pay 26 = .ok (.getfield 12, 3) := by decide +kernel
theorem dX8_pay_29 : decode cX8_pay 29 = .ok (.getfield 68, 3) := by decide +kernel
theorem dX8_pay_32 : decode cX8_pay 32 = .ok (.iload_n 1, 1) := by decide +kernel
theorem dX8_pay_33 : decode cX8_pay 33 = .ok (.iload_n 2, 1) := by decide +kernel
theorem dX8_pay_34 : decode cX8_pay 34 = .ok (.invokevirtual 71, 3) := by decide +kernel
theorem dX8_pay_37 : decode cX8_pay 37 = .ok (.iload_n 3, 1) := by decide +kernel
theorem dX8_pay_38 : decode cX8_pay 38 = .ok (.isub, 1) := by decide +kernel
theorem dX8_pay_39 : decode cX8_pay 39 = .ok (.istore 4, 2) := by decide +kernel
theorem dX8_pay_41 : decode cX8_pay 41 = .ok (.iload 4, 2) := by decide +kernel
theorem dX8_pay_43 : decode cX8_pay 43 = .ok (.ifCond .ge 6, 3) := by decide +kernel
theorem dX8_pay_46 : decode cX8_pay 46 = .ok (.bipush (-3), 2) := by decide +kernel
theorem dX8_pay_48 : decode cX8_pay 48 = .ok (.ireturn, 1) := by decide +kernel
theorem dX8_pay_49 : decode cX8_pay 49 = .ok (.aload_n 0, 1) := by decide +kernel
theorem dX8_pay_50 : decode cX8_pay 50 = .ok (.getfield 12, 3) := by decide +kernel
theorem dX8_pay_53 : decode cX8_pay 53 = .ok (.getfield 68, 3) := by decide +kernel
theorem dX8_pay_56 : decode cX8_pay 56 = .ok (.iload_n 1, 1) := by decide +kernel
theorem dX8_pay_57 : decode cX8_pay 57 = .ok (.iload_n 2, 1) := by decide +kernel
theorem dX8_pay_58 : decode cX8_pay 58 = .ok (.iload 4, 2) := by decide +kernel
theorem dX8_pay_60 : decode cX8_pay 60 = .ok (.invokevirtual 75, 3) := by decide +kernel
theorem dX8_pay_63 : decode cX8_pay 63 = .ok (.iload 4, 2) := by decide +kernel
theorem dX8_pay_65 : decode cX8_pay 65 = .ok (.ireturn, 1) := by decide +kernel
def fX8_pay (u_now_people : Int32) (u_now_debts_size : Int32) (u_now_debts_owed : (Nat → Int32)) (u_now_debts_order : (Nat → Int32)) (x1 : Int32) (x2 : Int32) (x3 : Int32) : Option (Int32 × Int32 × (Nat → Int32) × (Nat → Int32)) := (fX8_isPair u_now_people x1 x2).bind (fun z1 => if z1 = 0 then (some ((-1), u_now_debts_size, u_now_debts_owed, u_now_debts_order)) else (if x3 < 1 then (some ((-2), u_now_debts_size, u_now_debts_owed, u_now_debts_order)) else (if x3 ≤ 99 then ((fX2_amount u_now_debts_owed x1 x2).bind (fun z5 => if 0 ≤ (z5 - x3) then ((fX2_put u_now_debts_size u_now_debts_owed u_now_debts_order x1 x2 (z5 - x3)).bind (fun z7 => some (z5 - x3, z7.1, z7.2.1, z7.2.2))) else (some ((-3), u_now_debts_size, u_now_debts_owed, u_now_debts_order)))) else (some ((-2), u_now_debts_size, u_now_debts_owed, u_now_debts_order)))))
set_option maxRecDepth 20000 in
theorem CX8_pay (l : Launch) (D : va_G) (C : Nat → ClassId) (q_ q_now q_kept q_supposed q_rings q_netting q_text q_tapes q_now_debts q_now_consents q_now_trail q_now_seen q_now_events q_now_book q_now_debts_owed q_now_debts_order : Nat) (u_isKept : Int32) (u_now_people : Int32) (u_now_debts_size : Int32) (u_now_debts_owed : (Nat → Int32)) (u_now_debts_order : (Nat → Int32)) (x1 : Int32) (x2 : Int32) (x3 : Int32) (z : (Int32 × Int32 × (Nat → Int32) × (Nat → Int32))) (hF : fX8_pay u_now_people u_now_debts_size u_now_debts_owed u_now_debts_order x1 x2 x3 = some z) : Ct l yX8_pay cX8_pay 5 (some .int) 3 D C [.ref q_, .int x1, .int x2, .int x3] [(q_, .inr (8, [.ref q_now, .ref q_kept, .int u_isKept, .ref q_supposed, .ref q_rings, .ref q_netting, .ref q_text, .ref q_tapes])), (q_now, .inr (0, [.int u_now_people, .ref q_now_debts, .ref q_now_consents, .ref q_now_trail, .ref q_now_seen, .ref q_now_events, .ref q_now_book])), (q_now_debts, .inr (2, [.ref q_now_debts_owed, .ref q_now_debts_order, .int u_now_debts_size])), (q_now_debts_owed, .inl (C 0, 36, .inl u_now_debts_owed)), (q_now_debts_order, .inl (C 0, 36, .inl u_now_debts_order))] [(q_, .inr (8, [.ref q_now, .ref q_kept, .int u_isKept, .ref q_supposed, .ref q_rings, .ref q_netting, .ref q_text, .ref q_tapes])), (q_now, .inr (0, [.int u_now_people, .ref q_now_debts, .ref q_now_consents, .ref q_now_trail, .ref q_now_seen, .ref q_now_events, .ref q_now_book])), (q_now_debts, .inr (2, [.ref q_now_debts_owed, .ref q_now_debts_order, .int z.2.1])), (q_now_debts_owed, .inl (C 0, 36, .inl z.2.2.1)), (q_now_debts_order, .inl (C 0, 36, .inl z.2.2.2))] (some (.int z.1)) := by
  refine Ct_of (by decide) (Nat.le_of_ble_eq_true rfl) ?_
  intro p e R s m args below meth c A Q H locs ls cx hw hl hret
  have cx : CX p m c s args RX8 cX8_pay 5 D C A R 3 := cx
  have hx := cx.1
  have hb := cx.2.1
  have hl : lv_has ls 5 [(0, .ref q_), (1, .int x1), (2, .int x2), (3, .int x3)] := hl
  rw [fX8_pay.eq_1] at hF
  refine lv_aload_n hx hb dX8_pay_0 rfl (lv_at hl 0 rfl) ?_
  refine lv_iload_n hx hb dX8_pay_1 rfl (lv_at hl 1 rfl) ?_
  refine lv_iload_n hx hb dX8_pay_2 rfl (lv_at hl 2 rfl) ?_
  obtain ⟨z1, hz1, hF⟩ := ob hF
  refine cV (wr := [(q_now_debts, .inr (2, [.ref q_now_debts_owed, .ref q_now_debts_order, .int u_now_debts_size])), (q_now_debts_owed, .inl (C 0, 36, .inl u_now_debts_owed)), (q_now_debts_order, .inl (C 0, 36, .inl u_now_debts_order))]) (w2 := [(q_, .inr (8, [.ref q_now, .ref q_kept, .int u_isKept, .ref q_supposed, .ref q_rings, .ref q_netting, .ref q_text, .ref q_tapes])), (q_now, .inr (0, [.int u_now_people, .ref q_now_debts, .ref q_now_consents, .ref q_now_trail, .ref q_now_seen, .ref q_now_events, .ref q_now_book])), (q_now_debts, .inr (2, [.ref q_now_debts_owed, .ref q_now_debts_order, .int u_now_debts_size])), (q_now_debts_owed, .inl (C 0, 36, .inl u_now_debts_owed)), (q_now_debts_order, .inl (C 0, 36, .inl u_now_debts_order))]) (st2 := [.int z1]) cx (CX8_isPair l D C q_ q_now q_kept q_supposed q_rings q_netting q_text q_tapes q_now_debts q_now_consents q_now_trail q_now_seen q_now_events q_now_book u_isKept u_now_people x1 x2 z1 hz1) lk_X8_64 my_X8_isPair ml_X8_isPair ⟨by decide, by decide⟩ hw [0, 1] [2, 3, 4] [3, 4, 0, 1, 2] rfl rfl (by decide) rfl rfl rfl rfl (Nat.le_of_ble_eq_true rfl) dX8_pay_3 rfl (fun H locs hw => ?_) hl.1
  refine lv_if_ne (tgt := 11) hx hb dX8_pay_6 (by decide) (fun c2 => ?_) (fun c2 => ?_)
  · replace hF := oi_f c2 hF
    refine lv_iload_n hx hb dX8_pay_11 rfl (lv_at hl 3 rfl) ?_
    refine lv_iconst (v := 1) hx hb dX8_pay_12 (by decide) ?_
    refine lv_icmp_lt (tgt := 22) hx hb dX8_pay_13 (by decide) (fun c3 => ?_) (fun c3 => ?_)
    · replace hF := oi_t c3 hF
      refine lv_bipush (v := (-2)) hx hb dX8_pay_22 (by decide) ?_
      obtain rfl := Option.some.inj hF
      exact rt_i hret hw rfl dX8_pay_24
    · replace hF := oi_f c3 hF
      refine lv_iload_n hx hb dX8_pay_16 rfl (lv_at hl 3 rfl) ?_
      refine lv_bipush (v := 99) hx hb dX8_pay_17 (by decide) ?_
      refine lv_icmp_le (tgt := 25) hx hb dX8_pay_19 (by decide) (fun c4 => ?_) (fun c4 => ?_)
      · replace hF := oi_t c4 hF
        refine lv_aload_n hx hb dX8_pay_25 rfl (lv_at hl 0 rfl) ?_
        refine r_get (ci := 8) (v := .ref q_now) cx hw iX8 0 0 rfl rfl (by decide) wf_X8_12 rfl dX8_pay_26 ?_
        refine r_get (ci := 0) (v := .ref q_now_debts) cx hw iX0 1 1 rfl rfl (by decide) wf_X8_68 rfl dX8_pay_29 ?_
        refine lv_iload_n hx hb dX8_pay_32 rfl (lv_at hl 1 rfl) ?_
        refine lv_iload_n hx hb dX8_pay_33 rfl (lv_at hl 2 rfl) ?_
        obtain ⟨z5, hz5, hF⟩ := ob hF
        refine cV (wr := [(q_, .inr (8, [.ref q_now, .ref q_kept, .int u_isKept, .ref q_supposed, .ref q_rings, .ref q_netting, .ref q_text, .ref q_tapes])), (q_now, .inr (0, [.int u_now_people, .ref q_now_debts, .ref q_now_consents, .ref q_now_trail, .ref q_now_seen, .ref q_now_events, .ref q_now_book])), (q_now_debts_order, .inl (C 0, 36, .inl u_now_debts_order))]) (w2 := [(q_, .inr (8, [.ref q_now, .ref q_kept, .int u_isKept, .ref q_supposed, .ref q_rings, .ref q_netting, .ref q_text, .ref q_tapes])), (q_now, .inr (0, [.int u_now_people, .ref q_now_debts, .ref q_now_consents, .ref q_now_trail, .ref q_now_seen, .ref q_now_events, .ref q_now_book])), (q_now_debts, .inr (2, [.ref q_now_debts_owed, .ref q_now_debts_order, .int u_now_debts_size])), (q_now_debts_owed, .inl (C 0, 36, .inl u_now_debts_owed)), (q_now_debts_order, .inl (C 0, 36, .inl u_now_debts_order))]) (st2 := [.int z5]) cx (CX2_amount l D C q_now_debts q_now_debts_owed q_now_debts_order u_now_debts_size u_now_debts_owed x1 x2 z5 hz5) lk_X8_71 my_X2_amount ml_X2_amount ⟨by decide, by decide⟩ hw [2, 3] [0, 1, 4] [0, 1, 3, 4, 2] rfl rfl (by decide) rfl rfl rfl rfl (Nat.le_of_ble_eq_true rfl) dX8_pay_34 rfl (fun H locs hw => ?_) hl.1
        refine lv_iload_n hx hb dX8_pay_37 rfl (lv_at hl 3 rfl) ?_
        refine lv_isub hx hb dX8_pay_38 ?_
        refine lv_istore (lv' := [(4, .int (z5 - x3)), (0, .ref q_), (1, .int x1), (2, .int x2), (3, .int x3)]) hx hb dX8_pay_39 hl (by decide) rfl (fun ls hl => ?_)
        refine lv_iload hx hb dX8_pay_41 (lv_at hl 0 rfl) ?_
        refine lv_if_ge (tgt := 49) hx hb dX8_pay_43 (by decide) (fun c6 => ?_) (fun c6 => ?_)
        · replace hF := oi_t c6 hF
          refine lv_aload_n hx hb dX8_pay_49 rfl (lv_at hl 1 rfl) ?_
          refine r_get (ci := 8) (v := .ref q_now) cx hw iX8 0 0 rfl rfl (by decide) wf_X8_12 rfl dX8_pay_50 ?_
          refine r_get (ci := 0) (v := .ref q_now_debts) cx hw iX0 1 1 rfl rfl (by decide) wf_X8_68 rfl dX8_pay_53 ?_
          refine lv_iload_n hx hb dX8_pay_56 rfl (lv_at hl 2 rfl) ?_
          refine lv_iload_n hx hb dX8_pay_57 rfl (lv_at hl 3 rfl) ?_
          refine lv_iload hx hb dX8_pay_58 (lv_at hl 0 rfl) ?_
          obtain ⟨z7, hz7, hF⟩ := ob hF
          refine cV (wr := [(q_, .inr (8, [.ref q_now, .ref q_kept, .int u_isKept, .ref q_supposed, .ref q_rings, .ref q_netting, .ref q_text, .ref q_tapes])), (q_now, .inr (0, [.int u_now_people, .ref q_now_debts, .ref q_now_consents, .ref q_now_trail, .ref q_now_seen, .ref q_now_events, .ref q_now_book]))]) (w2 := [(q_, .inr (8, [.ref q_now, .ref q_kept, .int u_isKept, .ref q_supposed, .ref q_rings, .ref q_netting, .ref q_text, .ref q_tapes])), (q_now, .inr (0, [.int u_now_people, .ref q_now_debts, .ref q_now_consents, .ref q_now_trail, .ref q_now_seen, .ref q_now_events, .ref q_now_book])), (q_now_debts, .inr (2, [.ref q_now_debts_owed, .ref q_now_debts_order, .int z7.1])), (q_now_debts_owed, .inl (C 0, 36, .inl z7.2.1)), (q_now_debts_order, .inl (C 0, 36, .inl z7.2.2))]) (st2 := []) cx (CX2_put l D C q_now_debts q_now_debts_owed q_now_debts_order u_now_debts_size u_now_debts_owed u_now_debts_order x1 x2 (z5 - x3) z7 hz7) lk_X8_75 my_X2_put ml_X2_put ⟨by decide, by decide⟩ hw [2, 3, 4] [0, 1] [0, 1, 2, 3, 4] rfl rfl (by decide) rfl rfl rfl rfl (Nat.le_of_ble_eq_true rfl) dX8_pay_60 rfl (fun H locs hw => ?_) hl.1
          refine lv_iload hx hb dX8_pay_63 (lv_at hl 0 rfl) ?_
          obtain rfl := Option.some.inj hF
          exact rt_i hret hw rfl dX8_pay_65
        · replace hF := oi_f c6 hF
          refine lv_bipush (v := (-3)) hx hb dX8_pay_46 (by decide) ?_
          obtain rfl := Option.some.inj hF
          exact rt_i hret hw rfl dX8_pay_48
      · replace hF := oi_f c4 hF
        refine lv_bipush (v := (-2)) hx hb dX8_pay_22 (by decide) ?_
        obtain rfl := Option.some.inj hF
        exact rt_i hret hw rfl dX8_pay_24
  · replace hF := oi_t c2 hF
    refine lv_iconst (v := (-1)) hx hb dX8_pay_9 (by decide) ?_
    obtain rfl := Option.some.inj hF
    exact rt_i hret hw rfl dX8_pay_10
theorem dX8_asNumber_0 : decode cX8_asNumber 0 = .ok (.iload_n 0, 1) := by decide +kernel
theorem dX8_asNumber_1 : decode cX8_asNumber 1 = .ok (.ifCond .eq 7, 3) := by decide +kernel
theorem dX8_asNumber_4 : decode cX8_asNumber 4 = .ok (.iconst 1, 1) := by decide +kernel
theorem dX8_asNumber_5 : decode cX8_asNumber 5 = .ok (.goto 4, 3) := by decide +kernel
theorem dX8_asNumber_8 : decode cX8_asNumber 8 = .ok (.iconst 0, 1) := by decide +kernel
theorem dX8_asNumber_9 : decode cX8_asNumber 9 = .ok (.ireturn, 1) := by decide +kernel
def fX8_asNumber (x0 : Int32) : Option Int32 := if x0 = 0 then (some 0) else (some 1)
set_option maxRecDepth 20000 in
theorem CX8_asNumber (l : Launch) (D : va_G) (C : Nat → ClassId)  (x0 : Int32) (z : Int32) (hF : fX8_asNumber x0 = some z) : Ct l yX8_asNumber cX8_asNumber 1 (some .int) 1 D C [.int x0] [] [] (some (.int z)) := by
  refine Ct_of (by decide) (Nat.le_of_ble_eq_true rfl) ?_
  intro p e R s m args below meth c A Q H locs ls cx hw hl hret
  have cx : CX p m c s args RX8 cX8_asNumber 1 D C A R 1 := cx
  have hx := cx.1
  have hb := cx.2.1
  have hl : lv_has ls 1 [(0, .int x0)] := hl
  rw [fX8_asNumber.eq_1] at hF
  refine lv_iload_n hx hb dX8_asNumber_0 rfl (lv_at hl 0 rfl) ?_
  refine lv_if_eq (tgt := 8) hx hb dX8_asNumber_1 (by decide) (fun c1 => ?_) (fun c1 => ?_)
  · replace hF := oi_t c1 hF
    refine lv_iconst (v := 0) hx hb dX8_asNumber_8 (by decide) ?_
    obtain rfl := Option.some.inj hF
    exact rt_i hret hw rfl dX8_asNumber_9
  · replace hF := oi_f c1 hF
    refine lv_iconst (v := 1) hx hb dX8_asNumber_4 (by decide) ?_
    refine lv_goto (tgt := 9) hx hb dX8_asNumber_5 (by decide) ?_
    obtain rfl := Option.some.inj hF
    exact rt_i hret hw rfl dX8_asNumber_9
theorem wf_X8_79 : Cond.fieldLink RX8 79 (TX0 2).1 (TX0 2).2.1 (TX0 2).2.2.1 ∈ gdt := gdt_of 146 (by decide +kernel) (by decide +kernel)
theorem lk_X8_83 : Cond.methodLink RX8 83 yX1_isGiven ∈ gdt := gdt_of 331 (by decide +kernel) (by decide +kernel)
theorem lk_X8_88 : Cond.methodLink RX8 88 yX8_asNumber ∈ gdt := gdt_of 336 (by decide +kernel) (by decide +kernel)
theorem lk_X8_92 : Cond.methodLink RX8 92 yX1_put ∈ gdt := gdt_of 339 (by decide +kernel) (by decide +kernel)
theorem my_X8_asNumber : (yX8_asNumber.cls ≠ "java/lang/invoke/MethodHandle" ∧ yX8_asNumber.cls ≠ "java/lang/invoke/VarHandle") ∧ Cond.static yX8_asNumber ∈ gdt ∧ Cond.initialized yX8_asNumber.cls ∈ gdt ∧ Cond.code yX8_asNumber cX8_asNumber 1 (some .int) ∈ gdt := ⟨⟨by decide +kernel, by decide +kernel⟩, gdt_of 337 (by decide +kernel) (by decide +kernel), gdt_of 67 (by decide +kernel) (by decide +kernel), gdt_of 338 (by decide +kernel) (by decide +kernel)⟩
theorem ml_X8_asNumber : (parseMethodDescriptor yX8_asNumber.desc).map (fun d => d.parameters.length) = some 1 := by decide +kernel
theorem my_X1_put : (yX1_put.cls ≠ "java/lang/invoke/MethodHandle" ∧ yX1_put.cls ≠ "java/lang/invoke/VarHandle") ∧ Cond.instanceMethod yX1_put ∈ gdt ∧ Cond.selects yX1_put.cls yX1_put yX1_put ∈ gdt ∧ Cond.initialized yX1_put.cls ∈ gdt ∧ Cond.code yX1_put cX1_put 4 none ∈ gdt := ⟨⟨by decide +kernel, by decide +kernel⟩, gdt_of 340 (by decide +kernel) (by decide +kernel), gdt_of 341 (by decide +kernel) (by decide +kernel), gdt_of 70 (by decide +kernel) (by decide +kernel), gdt_of 342 (by decide +kernel) (by decide +kernel)⟩
theorem ml_X1_put : (parseMethodDescriptor yX1_put.desc).map (fun d => d.parameters.length) = some 3 := by decide +kernel
theorem dX8_consent_0 : decode cX8_consent 0 = .ok (.aload_n 0, 1) := by decide +kernel
theorem dX8_consent_1 : decode cX8_consent 1 = .ok (.iload_n 1, 1) := by decide +kernel
theorem dX8_consent_2 : decode cX8_consent 2 = .ok (.iload_n 2, 1) := by decide +kernel
theorem dX8_consent_3 : decode cX8_consent 3 = .ok (.invokevirtual 64, 3) := by decide +kernel
theorem dX8_consent_6 : decode cX8_consent 6 = .ok (.ifCond .ne 5, 3) := by decide +kernel
theorem dX8_consent_9 : decode cX8_consent 9 = .ok (.iconst (-1), 1) := by decide +kernel
theorem dX8_consent_10 : decode cX8_consent 10 = .ok (.ireturn, 1) := by decide +kernel
theorem dX8_consent_11 : decode cX8_consent 11 = .ok (.aload_n 0, 1) := by decide +kernel
theorem dX8_consent_12 : decode cX8_consent 12 = .ok (.getfield 12, 3) := by decide +kernel
theorem dX8_consent_15 : decode cX8_consent 15 = .ok (.getfield 79, 3) := by decide +kernel
theorem dX8_consent_18 : decode cX8_consent 18 = .ok (.iload_n 1, 1) := by decide +kernel
theorem dX8_consent_19 : decode cX8_consent 19 = .ok (.iload_n 2, 1) := by decide +kernel
theorem dX8_consent_20 : decode cX8_consent 20 = .ok (.invokevirtual 83, 3) := by decide +kernel
theorem dX8_consent_23 : decode cX8_consent 23 = .ok (.invokestatic 88, 3) := by decide +kernel
theorem dX8_consent_26 : decode cX8_consent 26 = .ok (.istore 4, 2) := by decide +kernel
theorem dX8_consent_28 : decode cX8_consent 28 = .ok (.aload_n 0, 1) := by decide +kernel
theorem dX8_consent_29 : decode cX8_consent 29 = .ok (.getfield 12, 3) := by decide +kernel
theorem dX8_consent_32 : decode cX8_consent 32 = .ok (.getfield 79, 3) := by decide +kernel
theorem dX8_consent_35 : decode cX8_consent 35 = .ok (.iload_n 1, 1) := by decide +kernel
theorem dX8_consent_36 : decode cX8_consent 36 = .ok (.iload_n 2, 1) := by decide +kernel
theorem dX8_consent_37 : decode cX8_consent 37 = .ok (.iload_n 3, 1) := by decide +kernel
theorem dX8_consent_38 : decode cX8_consent 38 = .ok (.invokevirtual 92, 3) := by decide +kernel
theorem dX8_consent_41 : decode cX8_consent 41 = .ok (.iload 4, 2) := by decide +kernel
theorem dX8_consent_43 : decode cX8_consent 43 = .ok (.ireturn, 1) := by decide +kernel
def fX8_consent (u_now_people : Int32) (u_now_consents_refused : (Nat → Int32)) (x1 : Int32) (x2 : Int32) (x3 : Int32) : Option (Int32 × (Nat → Int32)) := (fX8_isPair u_now_people x1 x2).bind (fun z1 => if z1 = 0 then (some ((-1), u_now_consents_refused)) else ((fX1_isGiven u_now_consents_refused x1 x2).bind (fun z3 => (fX8_asNumber z3).bind (fun z4 => (fX1_put u_now_consents_refused x1 x2 x3).bind (fun z5 => some (z4, z5))))))
set_option maxRecDepth 20000 in
theorem CX8_consent (l : Launch) (D : va_G) (C : Nat → ClassId) (q_ q_now q_kept q_supposed q_rings q_netting q_text q_tapes q_now_debts q_now_consents q_now_trail q_now_seen q_now_events q_now_book q_now_consents_refused : Nat) (u_isKept : Int32) (u_now_people : Int32) (u_now_consents_refused : (Nat → Int32)) (x1 : Int32) (x2 : Int32) (x3 : Int32) (z : (Int32 × (Nat → Int32))) (hF : fX8_consent u_now_people u_now_consents_refused x1 x2 x3 = some z) : Ct l yX8_consent cX8_consent 5 (some .int) 3 D C [.ref q_, .int x1, .int x2, .int x3] [(q_, .inr (8, [.ref q_now, .ref q_kept, .int u_isKept, .ref q_supposed, .ref q_rings, .ref q_netting, .ref q_text, .ref q_tapes])), (q_now, .inr (0, [.int u_now_people, .ref q_now_debts, .ref q_now_consents, .ref q_now_trail, .ref q_now_seen, .ref q_now_events, .ref q_now_book])), (q_now_consents, .inr (1, [.ref q_now_consents_refused])), (q_now_consents_refused, .inl (C 2, 36, .inl u_now_consents_refused))] [(q_, .inr (8, [.ref q_now, .ref q_kept, .int u_isKept, .ref q_supposed, .ref q_rings, .ref q_netting, .ref q_text, .ref q_tapes])), (q_now, .inr (0, [.int u_now_people, .ref q_now_debts, .ref q_now_consents, .ref q_now_trail, .ref q_now_seen, .ref q_now_events, .ref q_now_book])), (q_now_consents, .inr (1, [.ref q_now_consents_refused])), (q_now_consents_refused, .inl (C 2, 36, .inl z.2))] (some (.int z.1)) := by
  refine Ct_of (by decide) (Nat.le_of_ble_eq_true rfl) ?_
  intro p e R s m args below meth c A Q H locs ls cx hw hl hret
  have cx : CX p m c s args RX8 cX8_consent 5 D C A R 3 := cx
  have hx := cx.1
  have hb := cx.2.1
  have hl : lv_has ls 5 [(0, .ref q_), (1, .int x1), (2, .int x2), (3, .int x3)] := hl
  rw [fX8_consent.eq_1] at hF
  refine lv_aload_n hx hb dX8_consent_0 rfl (lv_at hl 0 rfl) ?_
  refine lv_iload_n hx hb dX8_consent_1 rfl (lv_at hl 1 rfl) ?_
  refine lv_iload_n hx hb dX8_consent_2 rfl (lv_at hl 2 rfl) ?_
  obtain ⟨z1, hz1, hF⟩ := ob hF
  refine cV (wr := [(q_now_consents, .inr (1, [.ref q_now_consents_refused])), (q_now_consents_refused, .inl (C 2, 36, .inl u_now_consents_refused))]) (w2 := [(q_, .inr (8, [.ref q_now, .ref q_kept, .int u_isKept, .ref q_supposed, .ref q_rings, .ref q_netting, .ref q_text, .ref q_tapes])), (q_now, .inr (0, [.int u_now_people, .ref q_now_debts, .ref q_now_consents, .ref q_now_trail, .ref q_now_seen, .ref q_now_events, .ref q_now_book])), (q_now_consents, .inr (1, [.ref q_now_consents_refused])), (q_now_consents_refused, .inl (C 2, 36, .inl u_now_consents_refused))]) (st2 := [.int z1]) cx (CX8_isPair l D C q_ q_now q_kept q_supposed q_rings q_netting q_text q_tapes q_now_debts q_now_consents q_now_trail q_now_seen q_now_events q_now_book u_isKept u_now_people x1 x2 z1 hz1) lk_X8_64 my_X8_isPair ml_X8_isPair ⟨by decide, by decide⟩ hw [0, 1] [2, 3] [2, 3, 0, 1] rfl rfl (by decide) rfl rfl rfl rfl (Nat.le_of_ble_eq_true rfl) dX8_consent_3 rfl (fun H locs hw => ?_) hl.1
  refine lv_if_ne (tgt := 11) hx hb dX8_consent_6 (by decide) (fun c2 => ?_) (fun c2 => ?_)
  · replace hF := oi_f c2 hF
    refine lv_aload_n hx hb dX8_consent_11 rfl (lv_at hl 0 rfl) ?_
    refine r_get (ci := 8) (v := .ref q_now) cx hw iX8 0 0 rfl rfl (by decide) wf_X8_12 rfl dX8_consent_12 ?_
    refine r_get (ci := 0) (v := .ref q_now_consents) cx hw iX0 1 2 rfl rfl (by decide) wf_X8_79 rfl dX8_consent_15 ?_
    refine lv_iload_n hx hb dX8_consent_18 rfl (lv_at hl 1 rfl) ?_
    refine lv_iload_n hx hb dX8_consent_19 rfl (lv_at hl 2 rfl) ?_
    obtain ⟨z3, hz3, hF⟩ := ob hF
    refine cV (wr := [(q_, .inr (8, [.ref q_now, .ref q_kept, .int u_isKept, .ref q_supposed, .ref q_rings, .ref q_netting, .ref q_text, .ref q_tapes])), (q_now, .inr (0, [.int u_now_people, .ref q_now_debts, .ref q_now_consents, .ref q_now_trail, .ref q_now_seen, .ref q_now_events, .ref q_now_book]))]) (w2 := [(q_, .inr (8, [.ref q_now, .ref q_kept, .int u_isKept, .ref q_supposed, .ref q_rings, .ref q_netting, .ref q_text, .ref q_tapes])), (q_now, .inr (0, [.int u_now_people, .ref q_now_debts, .ref q_now_consents, .ref q_now_trail, .ref q_now_seen, .ref q_now_events, .ref q_now_book])), (q_now_consents, .inr (1, [.ref q_now_consents_refused])), (q_now_consents_refused, .inl (C 2, 36, .inl u_now_consents_refused))]) (st2 := [.int z3]) cx (CX1_isGiven l D C q_now_consents q_now_consents_refused u_now_consents_refused x1 x2 z3 hz3) lk_X8_83 my_X1_isGiven ml_X1_isGiven ⟨by decide, by decide⟩ hw [2, 3] [0, 1] [0, 1, 2, 3] rfl rfl (by decide) rfl rfl rfl rfl (Nat.le_of_ble_eq_true rfl) dX8_consent_20 rfl (fun H locs hw => ?_) hl.1
    obtain ⟨z4, hz4, hF⟩ := ob hF
    refine cS (wr := [(q_, .inr (8, [.ref q_now, .ref q_kept, .int u_isKept, .ref q_supposed, .ref q_rings, .ref q_netting, .ref q_text, .ref q_tapes])), (q_now, .inr (0, [.int u_now_people, .ref q_now_debts, .ref q_now_consents, .ref q_now_trail, .ref q_now_seen, .ref q_now_events, .ref q_now_book])), (q_now_consents, .inr (1, [.ref q_now_consents_refused])), (q_now_consents_refused, .inl (C 2, 36, .inl u_now_consents_refused))]) (w2 := [(q_, .inr (8, [.ref q_now, .ref q_kept, .int u_isKept, .ref q_supposed, .ref q_rings, .ref q_netting, .ref q_text, .ref q_tapes])), (q_now, .inr (0, [.int u_now_people, .ref q_now_debts, .ref q_now_consents, .ref q_now_trail, .ref q_now_seen, .ref q_now_events, .ref q_now_book])), (q_now_consents, .inr (1, [.ref q_now_consents_refused])), (q_now_consents_refused, .inl (C 2, 36, .inl u_now_consents_refused))]) (st2 := [.int z4]) cx (CX8_asNumber l D C z3 z4 hz4) lk_X8_88 my_X8_asNumber ml_X8_asNumber ⟨by decide, by decide⟩ hw [] [0, 1, 2, 3] [0, 1, 2, 3] rfl rfl (by decide) rfl rfl (Nat.le_of_ble_eq_true rfl) dX8_consent_23 rfl (fun H locs hw => ?_) hl.1
    refine lv_istore (lv' := [(4, .int z4), (0, .ref q_), (1, .int x1), (2, .int x2), (3, .int x3)]) hx hb dX8_consent_26 hl (by decide) rfl (fun ls hl => ?_)
    refine lv_aload_n hx hb dX8_consent_28 rfl (lv_at hl 1 rfl) ?_
    refine r_get (ci := 8) (v := .ref q_now) cx hw iX8 0 0 rfl rfl (by decide) wf_X8_12 rfl dX8_consent_29 ?_
    refine r_get (ci := 0) (v := .ref q_now_consents) cx hw iX0 1 2 rfl rfl (by decide) wf_X8_79 rfl dX8_consent_32 ?_
    refine lv_iload_n hx hb dX8_consent_35 rfl (lv_at hl 2 rfl) ?_
    refine lv_iload_n hx hb dX8_consent_36 rfl (lv_at hl 3 rfl) ?_
    refine lv_iload_n hx hb dX8_consent_37 rfl (lv_at hl 4 rfl) ?_
    obtain ⟨z5, hz5, hF⟩ := ob hF
    refine cV (wr := [(q_, .inr (8, [.ref q_now, .ref q_kept, .int u_isKept, .ref q_supposed, .ref q_rings, .ref q_netting, .ref q_text, .ref q_tapes])), (q_now, .inr (0, [.int u_now_people, .ref q_now_debts, .ref q_now_consents, .ref q_now_trail, .ref q_now_seen, .ref q_now_events, .ref q_now_book]))]) (w2 := [(q_, .inr (8, [.ref q_now, .ref q_kept, .int u_isKept, .ref q_supposed, .ref q_rings, .ref q_netting, .ref q_text, .ref q_tapes])), (q_now, .inr (0, [.int u_now_people, .ref q_now_debts, .ref q_now_consents, .ref q_now_trail, .ref q_now_seen, .ref q_now_events, .ref q_now_book])), (q_now_consents, .inr (1, [.ref q_now_consents_refused])), (q_now_consents_refused, .inl (C 2, 36, .inl z5))]) (st2 := []) cx (CX1_put l D C q_now_consents q_now_consents_refused u_now_consents_refused x1 x2 x3 z5 hz5) lk_X8_92 my_X1_put ml_X1_put ⟨by decide, by decide⟩ hw [2, 3] [0, 1] [0, 1, 2, 3] rfl rfl (by decide) rfl rfl rfl rfl (Nat.le_of_ble_eq_true rfl) dX8_consent_38 rfl (fun H locs hw => ?_) hl.1
    refine lv_iload hx hb dX8_consent_41 (lv_at hl 0 rfl) ?_
    obtain rfl := Option.some.inj hF
    exact rt_i hret hw rfl dX8_consent_43
  · replace hF := oi_t c2 hF
    refine lv_iconst (v := (-1)) hx hb dX8_consent_9 (by decide) ?_
    obtain rfl := Option.some.inj hF
    exact rt_i hret hw rfl dX8_consent_10
theorem lk_X8_95 : Cond.methodLink RX8 95 yX2_placeOf ∈ gdt := gdt_of 347 (by decide +kernel) (by decide +kernel)
theorem my_X2_placeOf : (yX2_placeOf.cls ≠ "java/lang/invoke/MethodHandle" ∧ yX2_placeOf.cls ≠ "java/lang/invoke/VarHandle") ∧ Cond.instanceMethod yX2_placeOf ∈ gdt ∧ Cond.selects yX2_placeOf.cls yX2_placeOf yX2_placeOf ∈ gdt ∧ Cond.initialized yX2_placeOf.cls ∈ gdt ∧ Cond.code yX2_placeOf cX2_placeOf 4 (some .int) ∈ gdt := ⟨⟨by decide +kernel, by decide +kernel⟩, gdt_of 348 (by decide +kernel) (by decide +kernel), gdt_of 349 (by decide +kernel) (by decide +kernel), gdt_of 69 (by decide +kernel) (by decide +kernel), gdt_of 350 (by decide +kernel) (by decide +kernel)⟩
theorem ml_X2_placeOf : (parseMethodDescriptor yX2_placeOf.desc).map (fun d => d.parameters.length) = some 2 := by decide +kernel
theorem dX8_of_0 : decode cX8_of 0 = .ok (.aload_n 0, 1) := by decide +kernel
theorem dX8_of_1 : decode cX8_of 1 = .ok (.iload_n 1, 1) := by decide +kernel
theorem dX8_of_2 : decode cX8_of 2 = .ok (.iload_n 2, 1) := by decide +kernel
theorem dX8_of_3 : decode cX8_of 3 = .ok (.invokevirtual 64, 3) := by decide +kernel
theorem dX8_of_6 : decode cX8_of 6 = .ok (.ifCond .ne 5, 3) := by decide +kernel
theorem dX8_of_9 : decode cX8_of 9 = .ok (.iconst (-1), 1) := by decide +kernel
theorem dX8_of_10 : decode cX8_of 10 = .ok (.ireturn, 1) := by decide +kernel
theorem dX8_of_11 : decode cX8_of 11 = .ok (.iload_n 3, 1) := by decide +kernel
theorem dX8_of_12 : decode cX8_of 12 = .ok (.tableswitch 70 0 2 #[28, 41, 57], 28) := by decide +kernel
theorem dX8_of_40 : decode cX8_of 40 = .ok (.aload_n 0, 1) := by decide +kernel
theorem dX8_of_41 : decode cX8_of 41 = .ok (.getfield 12, 3) := by decide +kernel
theorem dX8_of_44 : decode cX8_of 44 = .ok (.getfield 68, 3) := by decide +kernel
theorem dX8_of_47 : decode cX8_of 47 = .ok (.iload_n 1, 1) := by decide +kernel
theorem dX8_of_48 : decode cX8_of 48 = .ok (.iload_n 2, 1) := by decide +kernel
theorem dX8_of_49 : decode cX8_of 49 = .ok (.invokevirtual 71, 3) := by decide +kernel
theorem dX8_of_52 : decode cX8_of 52 = .ok (.ireturn, 1) := by decide +kernel
theorem dX8_of_53 : decode cX8_of 53 = .ok (.aload_n 0, 1) := by decide +kernel
theorem dX8_of_54 : decode cX8_of 54 = .ok (.getfield 12, 3) := by decide +kernel
theorem dX8_of_57 : decode cX8_of 57 = .ok (.getfield 79, 3) := by decide +kernel
theorem dX8_of_60 : decode cX8_of 60 = .ok (.iload_n 1, 1) := by decide +kernel
theorem dX8_of_61 : decode cX8_of 61 = .ok (.iload_n 2, 1) := by decide +kernel
theorem dX8_of_62 : decode cX8_of 62 = .ok (.invokevirtual 83, 3) := by decide +kernel
theorem dX8_of_65 : decode cX8_of 65 = .ok (.invokestatic 88, 3) := by decide +kernel
theorem dX8_of_68 : decode cX8_of 68 = .ok (.ireturn, 1) := by decide +kernel
theorem dX8_of_69 : decode cX8_of 69 = .ok (.aload_n 0, 1) := by decide +kernel
theorem dX8_of_70 : decode cX8_of 70 = .ok (.getfield 12, 3) := by decide +kernel
theorem dX8_of_73 : decode cX8_of 73 = .ok (.getfield 68, 3) := by decide +kernel
theorem dX8_of_76 : decode cX8_of 76 = .ok (.iload_n 1, 1) := by decide +kernel
theorem dX8_of_77 : decode cX8_of 77 = .ok (.iload_n 2, 1) := by decide +kernel
theorem dX8_of_78 : decode cX8_of 78 = .ok (.invokevirtual 95, 3) := by decide +kernel
theorem dX8_of_81 : decode cX8_of 81 = .ok (.ireturn, 1) := by decide +kernel
theorem dX8_of_82 : decode cX8_of 82 = .ok (.iconst (-1), 1) := by decide +kernel
theorem dX8_of_83 : decode cX8_of 83 = .ok (.ireturn, 1) := by decide +kernel
def fX8_of (u_now_people : Int32) (u_now_debts_size : Int32) (u_now_debts_owed : (Nat → Int32)) (u_now_debts_order : (Nat → Int32)) (u_now_consents_refused : (Nat → Int32)) (x1 : Int32) (x2 : Int32) (x3 : Int32) : Option Int32 := (fX8_isPair u_now_people x1 x2).bind (fun z1 => if z1 = 0 then (some (-1)) else (if x3 = 0 then ((fX2_amount u_now_debts_owed x1 x2).bind (fun z4 => some z4)) else (if x3 = 1 then ((fX1_isGiven u_now_consents_refused x1 x2).bind (fun z6 => (fX8_asNumber z6).bind (fun z7 => some z7))) else (if x3 = 2 then ((fX2_placeOf u_now_debts_size u_now_debts_owed u_now_debts_order x1 x2).bind (fun z9 => some z9)) else (some (-1))))))
set_option maxRecDepth 20000 in
theorem CX8_of (l : Launch) (D : va_G) (C : Nat → ClassId) (q_ q_now q_kept q_supposed q_rings q_netting q_text q_tapes q_now_debts q_now_consents q_now_trail q_now_seen q_now_events q_now_book q_now_debts_owed q_now_debts_order q_now_consents_refused : Nat) (u_isKept : Int32) (u_now_people : Int32) (u_now_debts_size : Int32) (u_now_debts_owed : (Nat → Int32)) (u_now_debts_order : (Nat → Int32)) (u_now_consents_refused : (Nat → Int32)) (x1 : Int32) (x2 : Int32) (x3 : Int32) (z : Int32) (hF : fX8_of u_now_people u_now_debts_size u_now_debts_owed u_now_debts_order u_now_consents_refused x1 x2 x3 = some z) : Ct l yX8_of cX8_of 4 (some .int) 5 D C [.ref q_, .int x1, .int x2, .int x3] [(q_, .inr (8, [.ref q_now, .ref q_kept, .int u_isKept, .ref q_supposed, .ref q_rings, .ref q_netting, .ref q_text, .ref q_tapes])), (q_now, .inr (0, [.int u_now_people, .ref q_now_debts, .ref q_now_consents, .ref q_now_trail, .ref q_now_seen, .ref q_now_events, .ref q_now_book])), (q_now_debts, .inr (2, [.ref q_now_debts_owed, .ref q_now_debts_order, .int u_now_debts_size])), (q_now_debts_owed, .inl (C 0, 36, .inl u_now_debts_owed)), (q_now_debts_order, .inl (C 0, 36, .inl u_now_debts_order)), (q_now_consents, .inr (1, [.ref q_now_consents_refused])), (q_now_consents_refused, .inl (C 2, 36, .inl u_now_consents_refused))] [(q_, .inr (8, [.ref q_now, .ref q_kept, .int u_isKept, .ref q_supposed, .ref q_rings, .ref q_netting, .ref q_text, .ref q_tapes])), (q_now, .inr (0, [.int u_now_people, .ref q_now_debts, .ref q_now_consents, .ref q_now_trail, .ref q_now_seen, .ref q_now_events, .ref q_now_book])), (q_now_debts, .inr (2, [.ref q_now_debts_owed, .ref q_now_debts_order, .int u_now_debts_size])), (q_now_debts_owed, .inl (C 0, 36, .inl u_now_debts_owed)), (q_now_debts_order, .inl (C 0, 36, .inl u_now_debts_order)), (q_now_consents, .inr (1, [.ref q_now_consents_refused])), (q_now_consents_refused, .inl (C 2, 36, .inl u_now_consents_refused))] (some (.int z)) := by
  refine Ct_of (by decide) (Nat.le_of_ble_eq_true rfl) ?_
  intro p e R s m args below meth c A Q H locs ls cx hw hl hret
  have cx : CX p m c s args RX8 cX8_of 4 D C A R 5 := cx
  have hx := cx.1
  have hb := cx.2.1
  have hl : lv_has ls 4 [(0, .ref q_), (1, .int x1), (2, .int x2), (3, .int x3)] := hl
  rw [fX8_of.eq_1] at hF
  refine lv_aload_n hx hb dX8_of_0 rfl (lv_at hl 0 rfl) ?_
  refine lv_iload_n hx hb dX8_of_1 rfl (lv_at hl 1 rfl) ?_
  refine lv_iload_n hx hb dX8_of_2 rfl (lv_at hl 2 rfl) ?_
  obtain ⟨z1, hz1, hF⟩ := ob hF
  refine cV (wr := [(q_now_debts, .inr (2, [.ref q_now_debts_owed, .ref q_now_debts_order, .int u_now_debts_size])), (q_now_debts_owed, .inl (C 0, 36, .inl u_now_debts_owed)), (q_now_debts_order, .inl (C 0, 36, .inl u_now_debts_order)), (q_now_consents, .inr (1, [.ref q_now_consents_refused])), (q_now_consents_refused, .inl (C 2, 36, .inl u_now_consents_refused))]) (w2 := [(q_, .inr (8, [.ref q_now, .ref q_kept, .int u_isKept, .ref q_supposed, .ref q_rings, .ref q_netting, .ref q_text, .ref q_tapes])), (q_now, .inr (0, [.int u_now_people, .ref q_now_debts, .ref q_now_consents, .ref q_now_trail, .ref q_now_seen, .ref q_now_events, .ref q_now_book])), (q_now_debts, .inr (2, [.ref q_now_debts_owed, .ref q_now_debts_order, .int u_now_debts_size])), (q_now_debts_owed, .inl (C 0, 36, .inl u_now_debts_owed)), (q_now_debts_order, .inl (C 0, 36, .inl u_now_debts_order)), (q_now_consents, .inr (1, [.ref q_now_consents_refused])), (q_now_consents_refused, .inl (C 2, 36, .inl u_now_consents_refused))]) (st2 := [.int z1]) cx (CX8_isPair l D C q_ q_now q_kept q_supposed q_rings q_netting q_text q_tapes q_now_debts q_now_consents q_now_trail q_now_seen q_now_events q_now_book u_isKept u_now_people x1 x2 z1 hz1) lk_X8_64 my_X8_isPair ml_X8_isPair ⟨by decide, by decide⟩ hw [0, 1] [2, 3, 4, 5, 6] [5, 6, 0, 1, 2, 3, 4] rfl rfl (by decide) rfl rfl rfl rfl (Nat.le_of_ble_eq_true rfl) dX8_of_3 rfl (fun H locs hw => ?_) hl.1
  refine lv_if_ne (tgt := 11) hx hb dX8_of_6 (by decide) (fun c2 => ?_) (fun c2 => ?_)
  · replace hF := oi_f c2 hF
    refine lv_iload_n hx hb dX8_of_11 rfl (lv_at hl 3 rfl) ?_
    by_cases c3 : x3 = 0
    · replace hF := oi_t c3 hF
      refine lv_tableIn (tgt := 40) (off := 28) hx hb dX8_of_12 (by rw [c3]; decide) (by rw [c3]; decide) (by rw [c3]; decide +kernel) (by decide) ?_
      refine lv_aload_n hx hb dX8_of_40 rfl (lv_at hl 0 rfl) ?_
      refine r_get (ci := 8) (v := .ref q_now) cx hw iX8 0 0 rfl rfl (by decide) wf_X8_12 rfl dX8_of_41 ?_
      refine r_get (ci := 0) (v := .ref q_now_debts) cx hw iX0 1 1 rfl rfl (by decide) wf_X8_68 rfl dX8_of_44 ?_
      refine lv_iload_n hx hb dX8_of_47 rfl (lv_at hl 1 rfl) ?_
      refine lv_iload_n hx hb dX8_of_48 rfl (lv_at hl 2 rfl) ?_
      obtain ⟨z4, hz4, hF⟩ := ob hF
      refine cV (wr := [(q_, .inr (8, [.ref q_now, .ref q_kept, .int u_isKept, .ref q_supposed, .ref q_rings, .ref q_netting, .ref q_text, .ref q_tapes])), (q_now, .inr (0, [.int u_now_people, .ref q_now_debts, .ref q_now_consents, .ref q_now_trail, .ref q_now_seen, .ref q_now_events, .ref q_now_book])), (q_now_debts_order, .inl (C 0, 36, .inl u_now_debts_order)), (q_now_consents, .inr (1, [.ref q_now_consents_refused])), (q_now_consents_refused, .inl (C 2, 36, .inl u_now_consents_refused))]) (w2 := [(q_, .inr (8, [.ref q_now, .ref q_kept, .int u_isKept, .ref q_supposed, .ref q_rings, .ref q_netting, .ref q_text, .ref q_tapes])), (q_now, .inr (0, [.int u_now_people, .ref q_now_debts, .ref q_now_consents, .ref q_now_trail, .ref q_now_seen, .ref q_now_events, .ref q_now_book])), (q_now_debts, .inr (2, [.ref q_now_debts_owed, .ref q_now_debts_order, .int u_now_debts_size])), (q_now_debts_owed, .inl (C 0, 36, .inl u_now_debts_owed)), (q_now_debts_order, .inl (C 0, 36, .inl u_now_debts_order)), (q_now_consents, .inr (1, [.ref q_now_consents_refused])), (q_now_consents_refused, .inl (C 2, 36, .inl u_now_consents_refused))]) (st2 := [.int z4]) cx (CX2_amount l D C q_now_debts q_now_debts_owed q_now_debts_order u_now_debts_size u_now_debts_owed x1 x2 z4 hz4) lk_X8_71 my_X2_amount ml_X2_amount ⟨by decide, by decide⟩ hw [2, 3] [0, 1, 4, 5, 6] [0, 1, 5, 6, 2, 3, 4] rfl rfl (by decide) rfl rfl rfl rfl (Nat.le_of_ble_eq_true rfl) dX8_of_49 rfl (fun H locs hw => ?_) hl.1
      obtain rfl := Option.some.inj hF
      exact rt_i hret hw rfl dX8_of_52
    replace hF := oi_f c3 hF
    by_cases c5 : x3 = 1
    · replace hF := oi_t c5 hF
      refine lv_tableIn (tgt := 53) (off := 41) hx hb dX8_of_12 (by rw [c5]; decide) (by rw [c5]; decide) (by rw [c5]; decide +kernel) (by decide) ?_
      refine lv_aload_n hx hb dX8_of_53 rfl (lv_at hl 0 rfl) ?_
      refine r_get (ci := 8) (v := .ref q_now) cx hw iX8 0 0 rfl rfl (by decide) wf_X8_12 rfl dX8_of_54 ?_
      refine r_get (ci := 0) (v := .ref q_now_consents) cx hw iX0 1 2 rfl rfl (by decide) wf_X8_79 rfl dX8_of_57 ?_
      refine lv_iload_n hx hb dX8_of_60 rfl (lv_at hl 1 rfl) ?_
      refine lv_iload_n hx hb dX8_of_61 rfl (lv_at hl 2 rfl) ?_
      obtain ⟨z6, hz6, hF⟩ := ob hF
      refine cV (wr := [(q_, .inr (8, [.ref q_now, .ref q_kept, .int u_isKept, .ref q_supposed, .ref q_rings, .ref q_netting, .ref q_text, .ref q_tapes])), (q_now, .inr (0, [.int u_now_people, .ref q_now_debts, .ref q_now_consents, .ref q_now_trail, .ref q_now_seen, .ref q_now_events, .ref q_now_book])), (q_now_debts, .inr (2, [.ref q_now_debts_owed, .ref q_now_debts_order, .int u_now_debts_size])), (q_now_debts_owed, .inl (C 0, 36, .inl u_now_debts_owed)), (q_now_debts_order, .inl (C 0, 36, .inl u_now_debts_order))]) (w2 := [(q_, .inr (8, [.ref q_now, .ref q_kept, .int u_isKept, .ref q_supposed, .ref q_rings, .ref q_netting, .ref q_text, .ref q_tapes])), (q_now, .inr (0, [.int u_now_people, .ref q_now_debts, .ref q_now_consents, .ref q_now_trail, .ref q_now_seen, .ref q_now_events, .ref q_now_book])), (q_now_debts, .inr (2, [.ref q_now_debts_owed, .ref q_now_debts_order, .int u_now_debts_size])), (q_now_debts_owed, .inl (C 0, 36, .inl u_now_debts_owed)), (q_now_debts_order, .inl (C 0, 36, .inl u_now_debts_order)), (q_now_consents, .inr (1, [.ref q_now_consents_refused])), (q_now_consents_refused, .inl (C 2, 36, .inl u_now_consents_refused))]) (st2 := [.int z6]) cx (CX1_isGiven l D C q_now_consents q_now_consents_refused u_now_consents_refused x1 x2 z6 hz6) lk_X8_83 my_X1_isGiven ml_X1_isGiven ⟨by decide, by decide⟩ hw [5, 6] [0, 1, 2, 3, 4] [0, 1, 2, 3, 4, 5, 6] rfl rfl (by decide) rfl rfl rfl rfl (Nat.le_of_ble_eq_true rfl) dX8_of_62 rfl (fun H locs hw => ?_) hl.1
      obtain ⟨z7, hz7, hF⟩ := ob hF
      refine cS (wr := [(q_, .inr (8, [.ref q_now, .ref q_kept, .int u_isKept, .ref q_supposed, .ref q_rings, .ref q_netting, .ref q_text, .ref q_tapes])), (q_now, .inr (0, [.int u_now_people, .ref q_now_debts, .ref q_now_consents, .ref q_now_trail, .ref q_now_seen, .ref q_now_events, .ref q_now_book])), (q_now_debts, .inr (2, [.ref q_now_debts_owed, .ref q_now_debts_order, .int u_now_debts_size])), (q_now_debts_owed, .inl (C 0, 36, .inl u_now_debts_owed)), (q_now_debts_order, .inl (C 0, 36, .inl u_now_debts_order)), (q_now_consents, .inr (1, [.ref q_now_consents_refused])), (q_now_consents_refused, .inl (C 2, 36, .inl u_now_consents_refused))]) (w2 := [(q_, .inr (8, [.ref q_now, .ref q_kept, .int u_isKept, .ref q_supposed, .ref q_rings, .ref q_netting, .ref q_text, .ref q_tapes])), (q_now, .inr (0, [.int u_now_people, .ref q_now_debts, .ref q_now_consents, .ref q_now_trail, .ref q_now_seen, .ref q_now_events, .ref q_now_book])), (q_now_debts, .inr (2, [.ref q_now_debts_owed, .ref q_now_debts_order, .int u_now_debts_size])), (q_now_debts_owed, .inl (C 0, 36, .inl u_now_debts_owed)), (q_now_debts_order, .inl (C 0, 36, .inl u_now_debts_order)), (q_now_consents, .inr (1, [.ref q_now_consents_refused])), (q_now_consents_refused, .inl (C 2, 36, .inl u_now_consents_refused))]) (st2 := [.int z7]) cx (CX8_asNumber l D C z6 z7 hz7) lk_X8_88 my_X8_asNumber ml_X8_asNumber ⟨by decide, by decide⟩ hw [] [0, 1, 2, 3, 4, 5, 6] [0, 1, 2, 3, 4, 5, 6] rfl rfl (by decide) rfl rfl (Nat.le_of_ble_eq_true rfl) dX8_of_65 rfl (fun H locs hw => ?_) hl.1
      obtain rfl := Option.some.inj hF
      exact rt_i hret hw rfl dX8_of_68
    replace hF := oi_f c5 hF
    by_cases c8 : x3 = 2
    · replace hF := oi_t c8 hF
      refine lv_tableIn (tgt := 69) (off := 57) hx hb dX8_of_12 (by rw [c8]; decide) (by rw [c8]; decide) (by rw [c8]; decide +kernel) (by decide) ?_
      refine lv_aload_n hx hb dX8_of_69 rfl (lv_at hl 0 rfl) ?_
      refine r_get (ci := 8) (v := .ref q_now) cx hw iX8 0 0 rfl rfl (by decide) wf_X8_12 rfl dX8_of_70 ?_
      refine r_get (ci := 0) (v := .ref q_now_debts) cx hw iX0 1 1 rfl rfl (by decide) wf_X8_68 rfl dX8_of_73 ?_
      refine lv_iload_n hx hb dX8_of_76 rfl (lv_at hl 1 rfl) ?_
      refine lv_iload_n hx hb dX8_of_77 rfl (lv_at hl 2 rfl) ?_
      obtain ⟨z9, hz9, hF⟩ := ob hF
      refine cV (wr := [(q_, .inr (8, [.ref q_now, .ref q_kept, .int u_isKept, .ref q_supposed, .ref q_rings, .ref q_netting, .ref q_text, .ref q_tapes])), (q_now, .inr (0, [.int u_now_people, .ref q_now_debts, .ref q_now_consents, .ref q_now_trail, .ref q_now_seen, .ref q_now_events, .ref q_now_book])), (q_now_consents, .inr (1, [.ref q_now_consents_refused])), (q_now_consents_refused, .inl (C 2, 36, .inl u_now_consents_refused))]) (w2 := [(q_, .inr (8, [.ref q_now, .ref q_kept, .int u_isKept, .ref q_supposed, .ref q_rings, .ref q_netting, .ref q_text, .ref q_tapes])), (q_now, .inr (0, [.int u_now_people, .ref q_now_debts, .ref q_now_consents, .ref q_now_trail, .ref q_now_seen, .ref q_now_events, .ref q_now_book])), (q_now_debts, .inr (2, [.ref q_now_debts_owed, .ref q_now_debts_order, .int u_now_debts_size])), (q_now_debts_owed, .inl (C 0, 36, .inl u_now_debts_owed)), (q_now_debts_order, .inl (C 0, 36, .inl u_now_debts_order)), (q_now_consents, .inr (1, [.ref q_now_consents_refused])), (q_now_consents_refused, .inl (C 2, 36, .inl u_now_consents_refused))]) (st2 := [.int z9]) cx (CX2_placeOf l D C q_now_debts q_now_debts_owed q_now_debts_order u_now_debts_size u_now_debts_owed u_now_debts_order x1 x2 z9 hz9) lk_X8_95 my_X2_placeOf ml_X2_placeOf ⟨by decide, by decide⟩ hw [2, 3, 4] [0, 1, 5, 6] [0, 1, 4, 5, 6, 2, 3] rfl rfl (by decide) rfl rfl rfl rfl (Nat.le_of_ble_eq_true rfl) dX8_of_78 rfl (fun H locs hw => ?_) hl.1
      obtain rfl := Option.some.inj hF
      exact rt_i hret hw rfl dX8_of_81
    replace hF := oi_f c8 hF
    have t3 := ti_ne (n := 0) (by decide) c3
    have t5 := ti_ne (n := 1) (by decide) c5
    have t8 := ti_ne (n := 2) (by decide) c8
    refine lv_tableOut (tgt := 82) hx hb dX8_of_12 (by omega) (by decide) ?_
    refine lv_iconst (v := (-1)) hx hb dX8_of_82 (by decide) ?_
    obtain rfl := Option.some.inj hF
    exact rt_i hret hw rfl dX8_of_83
  · replace hF := oi_t c2 hF
    refine lv_iconst (v := (-1)) hx hb dX8_of_9 (by decide) ?_
    obtain rfl := Option.some.inj hF
    exact rt_i hret hw rfl dX8_of_10
theorem lk_X8_98 : Cond.methodLink RX8 98 yX2_at ∈ gdt := gdt_of 360 (by decide +kernel) (by decide +kernel)
theorem dX8_debt_0 : decode cX8_debt 0 = .ok (.aload_n 0, 1) := by decide +kernel
theorem dX8_debt_1 : decode cX8_debt 1 = .ok (.getfield 12, 3) := by decide +kernel
theorem dX8_debt_4 : decode cX8_debt 4 = .ok (.getfield 68, 3) := by decide +kernel
theorem dX8_debt_7 : decode cX8_debt 7 = .ok (.iload_n 1, 1) := by decide +kernel
theorem dX8_debt_8 : decode cX8_debt 8 = .ok (.iload_n 2, 1) := by decide +kernel
theorem dX8_debt_9 : decode cX8_debt 9 = .ok (.invokevirtual 98, 3) := by decide +kernel
theorem dX8_debt_12 : decode cX8_debt 12 = .ok (.ireturn, 1) := by decide +kernel
def fX8_debt (u_now_debts_size : Int32) (u_now_debts_owed : (Nat → Int32)) (u_now_debts_order : (Nat → Int32)) (x1 : Int32) (x2 : Int32) : Option Int32 := (fX2_at u_now_debts_size u_now_debts_owed u_now_debts_order x1 x2).bind (fun z1 => some z1)
set_option maxRecDepth 20000 in
theorem CX8_debt (l : Launch) (D : va_G) (C : Nat → ClassId) (q_ q_now q_kept q_supposed q_rings q_netting q_text q_tapes q_now_debts q_now_consents q_now_trail q_now_seen q_now_events q_now_book q_now_debts_owed q_now_debts_order : Nat) (u_isKept : Int32) (u_now_people : Int32) (u_now_debts_size : Int32) (u_now_debts_owed : (Nat → Int32)) (u_now_debts_order : (Nat → Int32)) (x1 : Int32) (x2 : Int32) (z : Int32) (hF : fX8_debt u_now_debts_size u_now_debts_owed u_now_debts_order x1 x2 = some z) : Ct l yX8_debt cX8_debt 3 (some .int) 4 D C [.ref q_, .int x1, .int x2] [(q_, .inr (8, [.ref q_now, .ref q_kept, .int u_isKept, .ref q_supposed, .ref q_rings, .ref q_netting, .ref q_text, .ref q_tapes])), (q_now, .inr (0, [.int u_now_people, .ref q_now_debts, .ref q_now_consents, .ref q_now_trail, .ref q_now_seen, .ref q_now_events, .ref q_now_book])), (q_now_debts, .inr (2, [.ref q_now_debts_owed, .ref q_now_debts_order, .int u_now_debts_size])), (q_now_debts_owed, .inl (C 0, 36, .inl u_now_debts_owed)), (q_now_debts_order, .inl (C 0, 36, .inl u_now_debts_order))] [(q_, .inr (8, [.ref q_now, .ref q_kept, .int u_isKept, .ref q_supposed, .ref q_rings, .ref q_netting, .ref q_text, .ref q_tapes])), (q_now, .inr (0, [.int u_now_people, .ref q_now_debts, .ref q_now_consents, .ref q_now_trail, .ref q_now_seen, .ref q_now_events, .ref q_now_book])), (q_now_debts, .inr (2, [.ref q_now_debts_owed, .ref q_now_debts_order, .int u_now_debts_size])), (q_now_debts_owed, .inl (C 0, 36, .inl u_now_debts_owed)), (q_now_debts_order, .inl (C 0, 36, .inl u_now_debts_order))] (some (.int z)) := by
  refine Ct_of (by decide) (Nat.le_of_ble_eq_true rfl) ?_
  intro p e R s m args below meth c A Q H locs ls cx hw hl hret
  have cx : CX p m c s args RX8 cX8_debt 3 D C A R 4 := cx
  have hx := cx.1
  have hb := cx.2.1
  have hl : lv_has ls 3 [(0, .ref q_), (1, .int x1), (2, .int x2)] := hl
  rw [fX8_debt.eq_1] at hF
  refine lv_aload_n hx hb dX8_debt_0 rfl (lv_at hl 0 rfl) ?_
  refine r_get (ci := 8) (v := .ref q_now) cx hw iX8 0 0 rfl rfl (by decide) wf_X8_12 rfl dX8_debt_1 ?_
  refine r_get (ci := 0) (v := .ref q_now_debts) cx hw iX0 1 1 rfl rfl (by decide) wf_X8_68 rfl dX8_debt_4 ?_
  refine lv_iload_n hx hb dX8_debt_7 rfl (lv_at hl 1 rfl) ?_
  refine lv_iload_n hx hb dX8_debt_8 rfl (lv_at hl 2 rfl) ?_
  obtain ⟨z1, hz1, hF⟩ := ob hF
  refine cV (wr := [(q_, .inr (8, [.ref q_now, .ref q_kept, .int u_isKept, .ref q_supposed, .ref q_rings, .ref q_netting, .ref q_text, .ref q_tapes])), (q_now, .inr (0, [.int u_now_people, .ref q_now_debts, .ref q_now_consents, .ref q_now_trail, .ref q_now_seen, .ref q_now_events, .ref q_now_book]))]) (w2 := [(q_, .inr (8, [.ref q_now, .ref q_kept, .int u_isKept, .ref q_supposed, .ref q_rings, .ref q_netting, .ref q_text, .ref q_tapes])), (q_now, .inr (0, [.int u_now_people, .ref q_now_debts, .ref q_now_consents, .ref q_now_trail, .ref q_now_seen, .ref q_now_events, .ref q_now_book])), (q_now_debts, .inr (2, [.ref q_now_debts_owed, .ref q_now_debts_order, .int u_now_debts_size])), (q_now_debts_owed, .inl (C 0, 36, .inl u_now_debts_owed)), (q_now_debts_order, .inl (C 0, 36, .inl u_now_debts_order))]) (st2 := [.int z1]) cx (CX2_at l D C q_now_debts q_now_debts_owed q_now_debts_order u_now_debts_size u_now_debts_owed u_now_debts_order x1 x2 z1 hz1) lk_X8_98 my_X2_at ml_X2_at ⟨by decide, by decide⟩ hw [2, 3, 4] [0, 1] [0, 1, 2, 3, 4] rfl rfl (by decide) rfl rfl rfl rfl (Nat.le_of_ble_eq_true rfl) dX8_debt_9 rfl (fun H locs hw => ?_) hl.1
  obtain rfl := Option.some.inj hF
  exact rt_i hret hw rfl dX8_debt_12
theorem wf_X8_49 : Cond.fieldLink RX8 49 (TX8 6).1 (TX8 6).2.1 (TX8 6).2.2.1 ∈ gdt := gdt_of 269 (by decide +kernel) (by decide +kernel)
theorem lk_X8_101 : Cond.methodLink RX8 101 yX7_add ∈ gdt := gdt_of 365 (by decide +kernel) (by decide +kernel)
theorem my_X7_add : (yX7_add.cls ≠ "java/lang/invoke/MethodHandle" ∧ yX7_add.cls ≠ "java/lang/invoke/VarHandle") ∧ Cond.instanceMethod yX7_add ∈ gdt ∧ Cond.selects yX7_add.cls yX7_add yX7_add ∈ gdt ∧ Cond.initialized yX7_add.cls ∈ gdt ∧ Cond.code yX7_add cX7_add 2 (some .int) ∈ gdt := ⟨⟨by decide +kernel, by decide +kernel⟩, gdt_of 366 (by decide +kernel) (by decide +kernel), gdt_of 367 (by decide +kernel) (by decide +kernel), gdt_of 75 (by decide +kernel) (by decide +kernel), gdt_of 368 (by decide +kernel) (by decide +kernel)⟩
theorem ml_X7_add : (parseMethodDescriptor yX7_add.desc).map (fun d => d.parameters.length) = some 1 := by decide +kernel
theorem dX8_feed_0 : decode cX8_feed 0 = .ok (.iload_n 1, 1) := by decide +kernel
theorem dX8_feed_1 : decode cX8_feed 1 = .ok (.ifCond .lt 9, 3) := by decide +kernel
theorem dX8_feed_4 : decode cX8_feed 4 = .ok (.iload_n 1, 1) := by decide +kernel
theorem dX8_feed_5 : decode cX8_feed 5 = .ok (.bipush 127, 2) := by decide +kernel
theorem dX8_feed_7 : decode cX8_feed 7 = .ok (.if_icmp .le 6, 3) := by decide +kernel
theorem dX8_feed_10 : decode cX8_feed 10 = .ok (.bipush (-2), 2) := by decide +kernel
theorem dX8_feed_12 : decode cX8_feed 12 = .ok (.ireturn, 1) := by decide +kernel
theorem dX8_feed_13 : decode cX8_feed 13 = .ok (.aload_n 0, 1) := by decide +kernel
theorem dX8_feed_14 : decode cX8_feed 14 = .ok (.getfield 49, 3) := by decide +kernel
theorem dX8_feed_17 : decode cX8_feed 17 = .ok (.iload_n 1, 1) := by decide +kernel
theorem dX8_feed_18 : decode cX8_feed 18 = .ok (.invokevirtual 101, 3) := by decide +kernel
theorem dX8_feed_21 : decode cX8_feed 21 = .ok (.ireturn, 1) := by decide +kernel
def fX8_feed (u_text_size : Int32) (u_text_signs : (Nat → Int32)) (x1 : Int32) : Option (Int32 × Int32 × (Nat → Int32)) := if x1 < 0 then (some ((-2), u_text_size, u_text_signs)) else (if x1 ≤ 127 then ((fX7_add u_text_size u_text_signs x1).bind (fun z3 => some (z3.1, z3.2.1, z3.2.2))) else (some ((-2), u_text_size, u_text_signs)))
set_option maxRecDepth 20000 in
theorem CX8_feed (l : Launch) (D : va_G) (C : Nat → ClassId) (q_ q_now q_kept q_supposed q_rings q_netting q_text q_tapes q_text_signs : Nat) (u_isKept : Int32) (u_text_size : Int32) (u_text_signs : (Nat → Int32)) (x1 : Int32) (z : (Int32 × Int32 × (Nat → Int32))) (hF : fX8_feed u_text_size u_text_signs x1 = some z) : Ct l yX8_feed cX8_feed 2 (some .int) 2 D C [.ref q_, .int x1] [(q_, .inr (8, [.ref q_now, .ref q_kept, .int u_isKept, .ref q_supposed, .ref q_rings, .ref q_netting, .ref q_text, .ref q_tapes])), (q_text, .inr (7, [.ref q_text_signs, .int u_text_size])), (q_text_signs, .inl (C 3, 100, .inl u_text_signs))] [(q_, .inr (8, [.ref q_now, .ref q_kept, .int u_isKept, .ref q_supposed, .ref q_rings, .ref q_netting, .ref q_text, .ref q_tapes])), (q_text, .inr (7, [.ref q_text_signs, .int z.2.1])), (q_text_signs, .inl (C 3, 100, .inl z.2.2))] (some (.int z.1)) := by
  refine Ct_of (by decide) (Nat.le_of_ble_eq_true rfl) ?_
  intro p e R s m args below meth c A Q H locs ls cx hw hl hret
  have cx : CX p m c s args RX8 cX8_feed 2 D C A R 2 := cx
  have hx := cx.1
  have hb := cx.2.1
  have hl : lv_has ls 2 [(0, .ref q_), (1, .int x1)] := hl
  rw [fX8_feed.eq_1] at hF
  refine lv_iload_n hx hb dX8_feed_0 rfl (lv_at hl 1 rfl) ?_
  refine lv_if_lt (tgt := 10) hx hb dX8_feed_1 (by decide) (fun c1 => ?_) (fun c1 => ?_)
  · replace hF := oi_t c1 hF
    refine lv_bipush (v := (-2)) hx hb dX8_feed_10 (by decide) ?_
    obtain rfl := Option.some.inj hF
    exact rt_i hret hw rfl dX8_feed_12
  · replace hF := oi_f c1 hF
    refine lv_iload_n hx hb dX8_feed_4 rfl (lv_at hl 1 rfl) ?_
    refine lv_bipush (v := 127) hx hb dX8_feed_5 (by decide) ?_
    refine lv_icmp_le (tgt := 13) hx hb dX8_feed_7 (by decide) (fun c2 => ?_) (fun c2 => ?_)
    · replace hF := oi_t c2 hF
      refine lv_aload_n hx hb dX8_feed_13 rfl (lv_at hl 0 rfl) ?_
      refine r_get (ci := 8) (v := .ref q_text) cx hw iX8 0 6 rfl rfl (by decide) wf_X8_49 rfl dX8_feed_14 ?_
      refine lv_iload_n hx hb dX8_feed_17 rfl (lv_at hl 1 rfl) ?_
      obtain ⟨z3, hz3, hF⟩ := ob hF
      refine cV (wr := [(q_, .inr (8, [.ref q_now, .ref q_kept, .int u_isKept, .ref q_supposed, .ref q_rings, .ref q_netting, .ref q_text, .ref q_tapes]))]) (w2 := [(q_, .inr (8, [.ref q_now, .ref q_kept, .int u_isKept, .ref q_supposed, .ref q_rings, .ref q_netting, .ref q_text, .ref q_tapes])), (q_text, .inr (7, [.ref q_text_signs, .int z3.2.1])), (q_text_signs, .inl (C 3, 100, .inl z3.2.2))]) (st2 := [.int z3.1]) cx (CX7_add l D C q_text q_text_signs u_text_size u_text_signs x1 z3 hz3) lk_X8_101 my_X7_add ml_X7_add ⟨by decide, by decide⟩ hw [1, 2] [0] [0, 1, 2] rfl rfl (by decide) rfl rfl rfl rfl (Nat.le_of_ble_eq_true rfl) dX8_feed_18 rfl (fun H locs hw => ?_) hl.1
      obtain rfl := Option.some.inj hF
      exact rt_i hret hw rfl dX8_feed_21
    · replace hF := oi_f c2 hF
      refine lv_bipush (v := (-2)) hx hb dX8_feed_10 (by decide) ?_
      obtain rfl := Option.some.inj hF
      exact rt_i hret hw rfl dX8_feed_12
theorem dX8_isRule_0 : decode cX8_isRule 0 = .ok (.iload_n 0, 1) := by decide +kernel
theorem dX8_isRule_1 : decode cX8_isRule 1 = .ok (.ifCond .lt 12, 3) := by decide +kernel
theorem dX8_isRule_4 : decode cX8_isRule 4 = .ok (.iload_n 0, 1) := by decide +kernel
theorem dX8_isRule_5 : decode cX8_isRule 5 = .ok (.iconst 3, 1) := by decide +kernel
theorem dX8_isRule_6 : decode cX8_isRule 6 = .ok (.if_icmp .gt 7, 3) := by decide +kernel
theorem dX8_isRule_9 : decode cX8_isRule 9 = .ok (.iconst 1, 1) := by decide +kernel
theorem dX8_isRule_10 : decode cX8_isRule 10 = .ok (.goto 4, 3) := by decide +kernel
theorem dX8_isRule_13 : decode cX8_isRule 13 = .ok (.iconst 0, 1) := by decide +kernel
theorem dX8_isRule_14 : decode cX8_isRule 14 = .ok (.ireturn, 1) := by decide +kernel
def fX8_isRule (x0 : Int32) : Option Int32 := if x0 < 0 then (some 0) else (if 3 < x0 then (some 0) else (some 1))
set_option maxRecDepth 20000 in
theorem CX8_isRule (l : Launch) (D : va_G) (C : Nat → ClassId)  (x0 : Int32) (z : Int32) (hF : fX8_isRule x0 = some z) : Ct l yX8_isRule cX8_isRule 1 (some .boolean) 1 D C [.int x0] [] [] (some (.int z)) := by
  refine Ct_of (by decide) (Nat.le_of_ble_eq_true rfl) ?_
  intro p e R s m args below meth c A Q H locs ls cx hw hl hret
  have cx : CX p m c s args RX8 cX8_isRule 1 D C A R 1 := cx
  have hx := cx.1
  have hb := cx.2.1
  have hl : lv_has ls 1 [(0, .int x0)] := hl
  rw [fX8_isRule.eq_1] at hF
  refine lv_iload_n hx hb dX8_isRule_0 rfl (lv_at hl 0 rfl) ?_
  refine lv_if_lt (tgt := 13) hx hb dX8_isRule_1 (by decide) (fun c1 => ?_) (fun c1 => ?_)
  · replace hF := oi_t c1 hF
    refine lv_iconst (v := 0) hx hb dX8_isRule_13 (by decide) ?_
    obtain rfl := Option.some.inj hF
    exact rt_z hret hw rfl rfl dX8_isRule_14
  · replace hF := oi_f c1 hF
    refine lv_iload_n hx hb dX8_isRule_4 rfl (lv_at hl 0 rfl) ?_
    refine lv_iconst (v := 3) hx hb dX8_isRule_5 (by decide) ?_
    refine lv_icmp_gt (tgt := 13) hx hb dX8_isRule_6 (by decide) (fun c2 => ?_) (fun c2 => ?_)
    · replace hF := oi_t c2 hF
      refine lv_iconst (v := 0) hx hb dX8_isRule_13 (by decide) ?_
      obtain rfl := Option.some.inj hF
      exact rt_z hret hw rfl rfl dX8_isRule_14
    · replace hF := oi_f c2 hF
      refine lv_iconst (v := 1) hx hb dX8_isRule_9 (by decide) ?_
      refine lv_goto (tgt := 14) hx hb dX8_isRule_10 (by decide) ?_
      obtain rfl := Option.some.inj hF
      exact rt_z hret hw rfl rfl dX8_isRule_14
theorem lk_X8_122 : Cond.methodLink RX8 122 yX8_isRule ∈ gdt := gdt_of 413 (by decide +kernel) (by decide +kernel)
theorem wf_X8_35 : Cond.fieldLink RX8 35 (TX8 4).1 (TX8 4).2.1 (TX8 4).2.2.1 ∈ gdt := gdt_of 267 (by decide +kernel) (by decide +kernel)
theorem lk_X8_125 : Cond.methodLink RX8 125 yX4_search ∈ gdt := gdt_of 416 (by decide +kernel) (by decide +kernel)
theorem lk_X8_129 : Cond.methodLink RX8 129 yX4_size ∈ gdt := gdt_of 450 (by decide +kernel) (by decide +kernel)
theorem wf_X8_130 : Cond.fieldLink RX8 130 (TX0 3).1 (TX0 3).2.1 (TX0 3).2.2.1 ∈ gdt := gdt_of 148 (by decide +kernel) (by decide +kernel)
theorem lk_X8_134 : Cond.methodLink RX8 134 yX5_isFull ∈ gdt := gdt_of 454 (by decide +kernel) (by decide +kernel)
theorem lk_X8_140 : Cond.methodLink RX8 140 yX4_takeLeastFrom ∈ gdt := gdt_of 458 (by decide +kernel) (by decide +kernel)
theorem lk_X8_144 : Cond.methodLink RX8 144 yX4_least ∈ gdt := gdt_of 471 (by decide +kernel) (by decide +kernel)
theorem lk_X8_147 : Cond.methodLink RX8 147 yX5_add ∈ gdt := gdt_of 475 (by decide +kernel) (by decide +kernel)
theorem my_X8_isRule : (yX8_isRule.cls ≠ "java/lang/invoke/MethodHandle" ∧ yX8_isRule.cls ≠ "java/lang/invoke/VarHandle") ∧ Cond.static yX8_isRule ∈ gdt ∧ Cond.initialized yX8_isRule.cls ∈ gdt ∧ Cond.code yX8_isRule cX8_isRule 1 (some .boolean) ∈ gdt := ⟨⟨by decide +kernel, by decide +kernel⟩, gdt_of 414 (by decide +kernel) (by decide +kernel), gdt_of 67 (by decide +kernel) (by decide +kernel), gdt_of 415 (by decide +kernel) (by decide +kernel)⟩
theorem ml_X8_isRule : (parseMethodDescriptor yX8_isRule.desc).map (fun d => d.parameters.length) = some 1 := by decide +kernel
theorem my_X4_search : (yX4_search.cls ≠ "java/lang/invoke/MethodHandle" ∧ yX4_search.cls ≠ "java/lang/invoke/VarHandle") ∧ Cond.instanceMethod yX4_search ∈ gdt ∧ Cond.selects yX4_search.cls yX4_search yX4_search ∈ gdt ∧ Cond.initialized yX4_search.cls ∈ gdt ∧ Cond.code yX4_search cX4_search 6 none ∈ gdt := ⟨⟨by decide +kernel, by decide +kernel⟩, gdt_of 417 (by decide +kernel) (by decide +kernel), gdt_of 418 (by decide +kernel) (by decide +kernel), gdt_of 73 (by decide +kernel) (by decide +kernel), gdt_of 419 (by decide +kernel) (by decide +kernel)⟩
theorem ml_X4_search : (parseMethodDescriptor yX4_search.desc).map (fun d => d.parameters.length) = some 3 := by decide +kernel
theorem my_X4_size : (yX4_size.cls ≠ "java/lang/invoke/MethodHandle" ∧ yX4_size.cls ≠ "java/lang/invoke/VarHandle") ∧ Cond.instanceMethod yX4_size ∈ gdt ∧ Cond.selects yX4_size.cls yX4_size yX4_size ∈ gdt ∧ Cond.initialized yX4_size.cls ∈ gdt ∧ Cond.code yX4_size cX4_size 1 (some .int) ∈ gdt := ⟨⟨by decide +kernel, by decide +kernel⟩, gdt_of 451 (by decide +kernel) (by decide +kernel), gdt_of 452 (by decide +kernel) (by decide +kernel), gdt_of 73 (by decide +kernel) (by decide +kernel), gdt_of 453 (by decide +kernel) (by decide +kernel)⟩
theorem ml_X4_size : (parseMethodDescriptor yX4_size.desc).map (fun d => d.parameters.length) = some 0 := by decide +kernel
theorem my_X5_isFull : (yX5_isFull.cls ≠ "java/lang/invoke/MethodHandle" ∧ yX5_isFull.cls ≠ "java/lang/invoke/VarHandle") ∧ Cond.instanceMethod yX5_isFull ∈ gdt ∧ Cond.selects yX5_isFull.cls yX5_isFull yX5_isFull ∈ gdt ∧ Cond.initialized yX5_isFull.cls ∈ gdt ∧ Cond.code yX5_isFull cX5_isFull 1 (some .boolean) ∈ gdt := ⟨⟨by decide +kernel, by decide +kernel⟩, gdt_of 455 (by decide +kernel) (by decide +kernel), gdt_of 456 (by decide +kernel) (by decide +kernel), gdt_of 71 (by decide +kernel) (by decide +kernel), gdt_of 457 (by decide +kernel) (by decide +kernel)⟩
theorem ml_X5_isFull : (parseMethodDescriptor yX5_isFull.desc).map (fun d => d.parameters.length) = some 0 := by decide +kernel
theorem my_X4_takeLeastFrom : (yX4_takeLeastFrom.cls ≠ "java/lang/invoke/MethodHandle" ∧ yX4_takeLeastFrom.cls ≠ "java/lang/invoke/VarHandle") ∧ Cond.instanceMethod yX4_takeLeastFrom ∈ gdt ∧ Cond.selects yX4_takeLeastFrom.cls yX4_takeLeastFrom yX4_takeLeastFrom ∈ gdt ∧ Cond.initialized yX4_takeLeastFrom.cls ∈ gdt ∧ Cond.code yX4_takeLeastFrom cX4_takeLeastFrom 5 none ∈ gdt := ⟨⟨by decide +kernel, by decide +kernel⟩, gdt_of 459 (by decide +kernel) (by decide +kernel), gdt_of 460 (by decide +kernel) (by decide +kernel), gdt_of 73 (by decide +kernel) (by decide +kernel), gdt_of 461 (by decide +kernel) (by decide +kernel)⟩
theorem ml_X4_takeLeastFrom : (parseMethodDescriptor yX4_takeLeastFrom.desc).map (fun d => d.parameters.length) = some 1 := by decide +kernel
theorem my_X4_least : (yX4_least.cls ≠ "java/lang/invoke/MethodHandle" ∧ yX4_least.cls ≠ "java/lang/invoke/VarHandle") ∧ Cond.instanceMethod yX4_least ∈ gdt ∧ Cond.selects yX4_least.cls yX4_least yX4_least ∈ gdt ∧ Cond.initialized yX4_least.cls ∈ gdt ∧ Cond.code yX4_least cX4_least 1 (some .int) ∈ gdt := ⟨⟨by decide +kernel, by decide +kernel⟩, gdt_of 472 (by decide +kernel) (by decide +kernel), gdt_of 473 (by decide +kernel) (by decide +kernel), gdt_of 73 (by decide +kernel) (by decide +kernel), gdt_of 474 (by decide +kernel) (by decide +kernel)⟩
theorem ml_X4_least : (parseMethodDescriptor yX4_least.desc).map (fun d => d.parameters.length) = some 0 := by decide +kernel
theorem dX8_cut_0 : decode cX8_cut 0 = .ok (.iload_n 1, 1) := by decide +kernel
theorem dX8_cut_1 : decode cX8_cut 1 = .ok (.invokestatic 122, 3) := by decide +kernel
theorem dX8_cut_4 : decode cX8_cut 4 = .ok (.ifCond .eq 13, 3) := by decide +kernel
theorem dX8_cut_7 : decode cX8_cut 7 = .ok (.iload_n 2, 1) := by decide +kernel
theorem dX8_cut_8 : decode cX8_cut 8 = .ok (.ifCond .lt 9, 3) := by decide +kernel
theorem dX8_cut_11 : decode cX8_cut 11 = .ok (.iload_n 2, 1) := by decide +kernel
theorem dX8_cut_12 : decode cX8_cut 12 = .ok (.bipush 40, 2) := by decide +kernel
theorem dX8_cut_14 : decode cX8_cut 14 = .ok (.if_icmp .le 6, 3) := by decide +kernel
theorem dX8_cut_17 : decode cX8_cut 17 = .ok (.bipush (-2), 2) := by decide +kernel
theorem dX8_cut_19 : decode cX8_cut 19 = .ok (.ireturn, 1) := by decide +kernel
theorem dX8_cut_20 : decode cX8_cut 20 = .ok (.iconst 0, 1) := by decide +kernel
theorem dX8_cut_21 : decode cX8_cut 21 = .ok (.istore_n 3, 1) := by decide +kernel
theorem dX8_cut_22 : decode cX8_cut 22 = .ok (.iload_n 3, 1) := by decide +kernel
theorem dX8_cut_23 : decode cX8_cut 23 = .ok (.iload_n 2, 1) := by decide +kernel
theorem dX8_cut_24 : decode cX8_cut 24 = .ok (.if_icmp .ge 96, 3) := by decide +kernel
theorem dX8_cut_27 : decode cX8_cut 27 = .ok (.aload_n 0, 1) := by decide +kernel
theorem dX8_cut_28 : decode cX8_cut 28 = .ok (.getfield 35, 3) := by decide +kernel
theorem dX8_cut_31 : decode cX8_cut 31 = .ok (.aload_n 0, 1) := by decide +kernel
theorem dX8_cut_32 : decode cX8_cut 32 = .ok (.getfield 12, 3) := by decide +kernel
theorem dX8_cut_35 : decode cX8_cut 35 = .ok (.getfield 68, 3) := by decide +kernel
theorem dX8_cut_38 : decode cX8_cut 38 = .ok (.aload_n 0, 1) := by decide +kernel
theorem dX8_cut_39 : decode cX8_cut 39 = .ok (.getfield 12, 3) := by decide +kernel
theorem dX8_cut_42 : decode cX8_cut 42 = .ok (.getfield 79, 3) := by decide +kernel
theorem dX8_cut_45 : decode cX8_cut 45 = .ok (.iload_n 1, 1) := by decide +kernel
theorem dX8_cut_46 : decode cX8_cut 46 = .ok (.invokevirtual 125, 3) := by decide +kernel
theorem dX8_cut_49 : decode cX8_cut 49 = .ok (.aload_n 0, 1) := by decide +kernel
theorem dX8_cut_50 : decode cX8_cut 50 = .ok (.getfield 35, 3) := by decide +kernel
theorem dX8_cut_53 : decode cX8_cut 53 = .ok (.invokevirtual 129, 3) := by decide +kernel
theorem dX8_cut_56 : decode cX8_cut 56 = .ok (.ifCond .eq 16, 3) := by decide +kernel
theorem dX8_cut_59 : decode cX8_cut 59 = .ok (.aload_n 0, 1) := by decide +kernel
theorem dX8_cut_60 : decode cX8_cut 60 = .ok (.getfield 12, 3) := by decide +kernel
theorem dX8_cut_63 : decode cX8_cut 63 = .ok (.getfield 130, 3) := by decide +kernel
theorem dX8_cut_66 : decode cX8_cut 66 = .ok (.invokevirtual 134, 3) := by decide +kernel
theorem dX8_cut_69 : decode cX8_cut 69 = .ok (.ifCond .eq 5, 3) := by decide +kernel
theorem dX8_cut_72 : decode cX8_cut 72 = .ok (.iload_n 3, 1) := by decide +kernel
theorem dX8_cut_73 : decode cX8_cut 73 = .ok (.ireturn, 1) := by decide +kernel
theorem dX8_cut_74 : decode cX8_cut 74 = .ok (.aload_n 0, 1) := by decide +kernel
theorem dX8_cut_75 : decode cX8_cut 75 = .ok (.getfield 35, 3) := by decide +kernel
theorem dX8_cut_78 : decode cX8_cut 78 = .ok (.aload_n 0, 1) := by decide +kernel
theorem dX8_cut_79 : decode cX8_cut 79 = .ok (.getfield 12, 3) := by decide +kernel
theorem dX8_cut_82 : decode cX8_cut 82 = .ok (.getfield 68, 3) := by decide +kernel
theorem dX8_cut_85 : decode cX8_cut 85 = .ok (.invokevirtual 140, 3) := by decide +kernel
theorem dX8_cut_88 : decode cX8_cut 88 = .ok (.aload_n 0, 1) := by decide +kernel
theorem dX8_cut_89 : decode cX8_cut 89 = .ok (.getfield 12, 3) := by decide +kernel
theorem dX8_cut_92 : decode cX8_cut 92 = .ok (.getfield 130, 3) := by decide +kernel
theorem dX8_cut_95 : decode cX8_cut 95 = .ok (.iload_n 1, 1) := by decide +kernel
theorem dX8_cut_96 : decode cX8_cut 96 = .ok (.aload_n 0, 1) := by decide +kernel
theorem dX8_cut_97 : decode cX8_cut 97 = .ok (.getfield 35, 3) := by decide +kernel
theorem dX8_cut_100 : decode cX8_cut 100 = .ok (.invokevirtual 129, 3) := by decide +kernel
theorem dX8_cut_103 : decode cX8_cut 103 = .ok (.aload_n 0, 1) := by decide +kernel
theorem dX8_cut_104 : decode cX8_cut 104 = .ok (.getfield 35, 3) := by decide +kernel
theorem dX8_cut_107 : decode cX8_cut 107 = .ok (.invokevirtual 144, 3) := by decide +kernel
theorem dX8_cut_110 : decode cX8_cut 110 = .ok (.invokevirtual 147, 3) := by decide +kernel
theorem dX8_cut_113 : decode cX8_cut 113 = .ok (.pop, 1) := by decide +kernel
theorem dX8_cut_114 : decode cX8_cut 114 = .ok (.iinc 3 1, 3) := by decide +kernel
theorem dX8_cut_117 : decode cX8_cut 117 = .ok (.goto (-95), 3) := by decide +kernel
theorem dX8_cut_120 : decode cX8_cut 120 = .ok (.iload_n 2, 1) := by decide +kernel
theorem dX8_cut_121 : decode cX8_cut 121 = .ok (.ireturn, 1) := by decide +kernel
def fX8_cut_L22 (n_now_trail_numbers : Nat) (u_now_consents_refused : (Nat → Int32)) (u_now_trail_room : Int32) (x1 : Int32) (x2 : Int32) : Nat → Int32 → Int32 → (Nat → Int32) → (Nat → Int32) → Int32 → (Nat → Int32) → Int32 → Int32 → Int32 → Int32 → (Nat → Int32) → (Nat → Int32) → (Nat → Int32) → Option (Int32 × Int32 × (Nat → Int32) × (Nat → Int32) × Int32 × (Nat → Int32) × Int32 × Int32 × Int32 × Int32 × (Nat → Int32) × (Nat → Int32) × (Nat → Int32))
  | 0, _, _, _, _, _, _, _, _, _, _, _, _, _ => none
  | n + 1, x3, u_now_debts_size, u_now_debts_owed, u_now_debts_order, u_now_trail_size, u_now_trail_numbers, u_rings_rule, u_rings_found, u_rings_size, u_rings_least, u_rings_steps, u_rings_path, u_rings_taken => if x2 ≤ x3 then (some (x2, u_now_debts_size, u_now_debts_owed, u_now_debts_order, u_now_trail_size, u_now_trail_numbers, u_rings_rule, u_rings_found, u_rings_size, u_rings_least, u_rings_steps, u_rings_path, u_rings_taken)) else ((fX4_search u_rings_steps u_rings_path u_rings_taken u_now_debts_owed u_now_consents_refused x1).bind (fun z6 => (fX4_size z6.2.2.1).bind (fun z7 => if z7 = 0 then (some (x3, u_now_debts_size, u_now_debts_owed, u_now_debts_order, u_now_trail_size, u_now_trail_numbers, z6.1, z6.2.1, z6.2.2.1, z6.2.2.2.1, z6.2.2.2.2.1, z6.2.2.2.2.2.1, z6.2.2.2.2.2.2)) else ((fX5_isFull u_now_trail_room u_now_trail_size).bind (fun z9 => if z9 = 0 then ((fX4_takeLeastFrom z6.2.2.1 z6.2.2.2.1 z6.2.2.2.2.2.2 u_now_debts_size u_now_debts_owed u_now_debts_order).bind (fun z11 => (fX4_size z6.2.2.1).bind (fun z12 => (fX4_least z6.2.2.2.1).bind (fun z13 => (fX5_add n_now_trail_numbers u_now_trail_room u_now_trail_size u_now_trail_numbers x1 z12 z13).bind (fun z14 => fX8_cut_L22 n_now_trail_numbers u_now_consents_refused u_now_trail_room x1 x2 n (x3 + 1) z11.1 z11.2.1 z11.2.2 z14.2.1 z14.2.2 z6.1 z6.2.1 z6.2.2.1 z6.2.2.2.1 z6.2.2.2.2.1 z6.2.2.2.2.2.1 z6.2.2.2.2.2.2))))) else (some (x3, u_now_debts_size, u_now_debts_owed, u_now_debts_order, u_now_trail_size, u_now_trail_numbers, z6.1, z6.2.1, z6.2.2.1, z6.2.2.2.1, z6.2.2.2.2.1, z6.2.2.2.2.2.1, z6.2.2.2.2.2.2)))))))
def fX8_cut (n_now_trail_numbers : Nat) (u_now_debts_size : Int32) (u_now_debts_owed : (Nat → Int32)) (u_now_debts_order : (Nat → Int32)) (u_now_consents_refused : (Nat → Int32)) (u_now_trail_room : Int32) (u_now_trail_size : Int32) (u_now_trail_numbers : (Nat → Int32)) (u_rings_rule : Int32) (u_rings_found : Int32) (u_rings_size : Int32) (u_rings_least : Int32) (u_rings_steps : (Nat → Int32)) (u_rings_path : (Nat → Int32)) (u_rings_taken : (Nat → Int32)) (x1 : Int32) (x2 : Int32) : Option (Int32 × Int32 × (Nat → Int32) × (Nat → Int32) × Int32 × (Nat → Int32) × Int32 × Int32 × Int32 × Int32 × (Nat → Int32) × (Nat → Int32) × (Nat → Int32)) := (fX8_isRule x1).bind (fun z1 => if z1 = 0 then (some ((-2), u_now_debts_size, u_now_debts_owed, u_now_debts_order, u_now_trail_size, u_now_trail_numbers, u_rings_rule, u_rings_found, u_rings_size, u_rings_least, u_rings_steps, u_rings_path, u_rings_taken)) else (if x2 < 0 then (some ((-2), u_now_debts_size, u_now_debts_owed, u_now_debts_order, u_now_trail_size, u_now_trail_numbers, u_rings_rule, u_rings_found, u_rings_size, u_rings_least, u_rings_steps, u_rings_path, u_rings_taken)) else (if x2 ≤ 40 then (fX8_cut_L22 n_now_trail_numbers u_now_consents_refused u_now_trail_room x1 x2 400 0 u_now_debts_size u_now_debts_owed u_now_debts_order u_now_trail_size u_now_trail_numbers u_rings_rule u_rings_found u_rings_size u_rings_least u_rings_steps u_rings_path u_rings_taken) else (some ((-2), u_now_debts_size, u_now_debts_owed, u_now_debts_order, u_now_trail_size, u_now_trail_numbers, u_rings_rule, u_rings_found, u_rings_size, u_rings_least, u_rings_steps, u_rings_path, u_rings_taken)))))
set_option maxRecDepth 20000 in
theorem LX8_cut_22 {p : Program} {l : Launch} {e : Env} {R : Room} {s : State} {m : MethodId} {args : Array Value} {below : List Frame} {meth : Method} {c : Code} {Q : State → Prop} {D : va_G} {C : Nat → ClassId} {A : Nat → Prop} (cx : CX p m c s args RX8 cX8_cut 4 D C A R 13) {q_ q_now q_kept q_supposed q_rings q_netting q_text q_tapes q_now_debts q_now_consents q_now_trail q_now_seen q_now_events q_now_book q_now_debts_owed q_now_debts_order q_now_consents_refused q_now_trail_numbers q_rings_steps q_rings_path q_rings_taken n_now_trail_numbers : Nat} {u_isKept : Int32} {u_now_people : Int32} {u_now_consents_refused : (Nat → Int32)} {u_now_trail_room : Int32} {x1 : Int32} {x2 : Int32} {z : (Int32 × Int32 × (Nat → Int32) × (Nat → Int32) × Int32 × (Nat → Int32) × Int32 × Int32 × Int32 × Int32 × (Nat → Int32) × (Nat → Int32) × (Nat → Int32))} (hret : RT p l e R s m args below meth c Q D A cX8_cut (some .int) [(q_, .inr (8, [.ref q_now, .ref q_kept, .int u_isKept, .ref q_supposed, .ref q_rings, .ref q_netting, .ref q_text, .ref q_tapes])), (q_now, .inr (0, [.int u_now_people, .ref q_now_debts, .ref q_now_consents, .ref q_now_trail, .ref q_now_seen, .ref q_now_events, .ref q_now_book])), (q_now_debts, .inr (2, [.ref q_now_debts_owed, .ref q_now_debts_order, .int z.2.1])), (q_now_debts_owed, .inl (C 0, 36, .inl z.2.2.1)), (q_now_debts_order, .inl (C 0, 36, .inl z.2.2.2.1)), (q_now_consents, .inr (1, [.ref q_now_consents_refused])), (q_now_consents_refused, .inl (C 2, 36, .inl u_now_consents_refused)), (q_now_trail, .inr (5, [.ref q_now_trail_numbers, .int u_now_trail_room, .int z.2.2.2.2.1])), (q_now_trail_numbers, .inl (C 0, n_now_trail_numbers, .inl z.2.2.2.2.2.1)), (q_rings, .inr (4, [.ref q_rings_steps, .ref q_rings_path, .ref q_rings_taken, .int z.2.2.2.2.2.2.1, .int z.2.2.2.2.2.2.2.1, .int z.2.2.2.2.2.2.2.2.1, .int z.2.2.2.2.2.2.2.2.2.1])), (q_rings_steps, .inl (C 0, 36, .inl z.2.2.2.2.2.2.2.2.2.2.1)), (q_rings_path, .inl (C 0, 6, .inl z.2.2.2.2.2.2.2.2.2.2.2.1)), (q_rings_taken, .inl (C 0, 6, .inl z.2.2.2.2.2.2.2.2.2.2.2.2))] (some (.int z.1))) :
    ∀ (n : Nat) (x3 : Int32) (u_now_debts_size : Int32) (u_now_debts_owed : (Nat → Int32)) (u_now_debts_order : (Nat → Int32)) (u_now_trail_size : Int32) (u_now_trail_numbers : (Nat → Int32)) (u_rings_rule : Int32) (u_rings_found : Int32) (u_rings_size : Int32) (u_rings_least : Int32) (u_rings_steps : (Nat → Int32)) (u_rings_path : (Nat → Int32)) (u_rings_taken : (Nat → Int32)) (H : Heap) (locs : List Loc) (ls : Array Slot), fX8_cut_L22 n_now_trail_numbers u_now_consents_refused u_now_trail_room x1 x2 n x3 u_now_debts_size u_now_debts_owed u_now_debts_order u_now_trail_size u_now_trail_numbers u_rings_rule u_rings_found u_rings_size u_rings_least u_rings_steps u_rings_path u_rings_taken = some z → HW D A s.heap H locs [(q_, .inr (8, [.ref q_now, .ref q_kept, .int u_isKept, .ref q_supposed, .ref q_rings, .ref q_netting, .ref q_text, .ref q_tapes])), (q_now, .inr (0, [.int u_now_people, .ref q_now_debts, .ref q_now_consents, .ref q_now_trail, .ref q_now_seen, .ref q_now_events, .ref q_now_book])), (q_now_debts, .inr (2, [.ref q_now_debts_owed, .ref q_now_debts_order, .int u_now_debts_size])), (q_now_debts_owed, .inl (C 0, 36, .inl u_now_debts_owed)), (q_now_debts_order, .inl (C 0, 36, .inl u_now_debts_order)), (q_now_consents, .inr (1, [.ref q_now_consents_refused])), (q_now_consents_refused, .inl (C 2, 36, .inl u_now_consents_refused)), (q_now_trail, .inr (5, [.ref q_now_trail_numbers, .int u_now_trail_room, .int u_now_trail_size])), (q_now_trail_numbers, .inl (C 0, n_now_trail_numbers, .inl u_now_trail_numbers)), (q_rings, .inr (4, [.ref q_rings_steps, .ref q_rings_path, .ref q_rings_taken, .int u_rings_rule, .int u_rings_found, .int u_rings_size, .int u_rings_least])), (q_rings_steps, .inl (C 0, 36, .inl u_rings_steps)), (q_rings_path, .inl (C 0, 6, .inl u_rings_path)), (q_rings_taken, .inl (C 0, 6, .inl u_rings_taken))] → lv_has ls 4 [(0, .ref q_), (1, .int x1), (2, .int x2), (3, .int x3)] → W p l e R s m args below meth c H locs 0 0 Q (F0 m 22 ls []) := by
  have hx := cx.1
  have hb := cx.2.1
  intro n
  induction n with
  | zero => intro x3 u_now_debts_size u_now_debts_owed u_now_debts_order u_now_trail_size u_now_trail_numbers u_rings_rule u_rings_found u_rings_size u_rings_least u_rings_steps u_rings_path u_rings_taken H locs ls hF; cases hF
  | succ n ih =>
    intro x3 u_now_debts_size u_now_debts_owed u_now_debts_order u_now_trail_size u_now_trail_numbers u_rings_rule u_rings_found u_rings_size u_rings_least u_rings_steps u_rings_path u_rings_taken H locs ls hF hw hl
    rw [fX8_cut_L22.eq_2] at hF
    refine lv_iload_n hx hb dX8_cut_22 rfl (lv_at hl 3 rfl) ?_
    refine lv_iload_n hx hb dX8_cut_23 rfl (lv_at hl 2 rfl) ?_
    refine lv_icmp_ge (tgt := 120) hx hb dX8_cut_24 (by decide) (fun c5 => ?_) (fun c5 => ?_)
    · replace hF := oi_t c5 hF
      refine lv_iload_n hx hb dX8_cut_120 rfl (lv_at hl 2 rfl) ?_
      obtain rfl := Option.some.inj hF
      exact rt_i hret hw rfl dX8_cut_121
    · replace hF := oi_f c5 hF
      refine lv_aload_n hx hb dX8_cut_27 rfl (lv_at hl 0 rfl) ?_
      refine r_get (ci := 8) (v := .ref q_rings) cx hw iX8 0 4 rfl rfl (by decide) wf_X8_35 rfl dX8_cut_28 ?_
      refine lv_aload_n hx hb dX8_cut_31 rfl (lv_at hl 0 rfl) ?_
      refine r_get (ci := 8) (v := .ref q_now) cx hw iX8 0 0 rfl rfl (by decide) wf_X8_12 rfl dX8_cut_32 ?_
      refine r_get (ci := 0) (v := .ref q_now_debts) cx hw iX0 1 1 rfl rfl (by decide) wf_X8_68 rfl dX8_cut_35 ?_
      refine lv_aload_n hx hb dX8_cut_38 rfl (lv_at hl 0 rfl) ?_
      refine r_get (ci := 8) (v := .ref q_now) cx hw iX8 0 0 rfl rfl (by decide) wf_X8_12 rfl dX8_cut_39 ?_
      refine r_get (ci := 0) (v := .ref q_now_consents) cx hw iX0 1 2 rfl rfl (by decide) wf_X8_79 rfl dX8_cut_42 ?_
      refine lv_iload_n hx hb dX8_cut_45 rfl (lv_at hl 1 rfl) ?_
      obtain ⟨z6, hz6, hF⟩ := ob hF
      refine cV (wr := [(q_, .inr (8, [.ref q_now, .ref q_kept, .int u_isKept, .ref q_supposed, .ref q_rings, .ref q_netting, .ref q_text, .ref q_tapes])), (q_now, .inr (0, [.int u_now_people, .ref q_now_debts, .ref q_now_consents, .ref q_now_trail, .ref q_now_seen, .ref q_now_events, .ref q_now_book])), (q_now_debts_order, .inl (C 0, 36, .inl u_now_debts_order)), (q_now_trail, .inr (5, [.ref q_now_trail_numbers, .int u_now_trail_room, .int u_now_trail_size])), (q_now_trail_numbers, .inl (C 0, n_now_trail_numbers, .inl u_now_trail_numbers))]) (w2 := [(q_, .inr (8, [.ref q_now, .ref q_kept, .int u_isKept, .ref q_supposed, .ref q_rings, .ref q_netting, .ref q_text, .ref q_tapes])), (q_now, .inr (0, [.int u_now_people, .ref q_now_debts, .ref q_now_consents, .ref q_now_trail, .ref q_now_seen, .ref q_now_events, .ref q_now_book])), (q_now_debts, .inr (2, [.ref q_now_debts_owed, .ref q_now_debts_order, .int u_now_debts_size])), (q_now_debts_owed, .inl (C 0, 36, .inl u_now_debts_owed)), (q_now_debts_order, .inl (C 0, 36, .inl u_now_debts_order)), (q_now_consents, .inr (1, [.ref q_now_consents_refused])), (q_now_consents_refused, .inl (C 2, 36, .inl u_now_consents_refused)), (q_now_trail, .inr (5, [.ref q_now_trail_numbers, .int u_now_trail_room, .int u_now_trail_size])), (q_now_trail_numbers, .inl (C 0, n_now_trail_numbers, .inl u_now_trail_numbers)), (q_rings, .inr (4, [.ref q_rings_steps, .ref q_rings_path, .ref q_rings_taken, .int z6.1, .int z6.2.1, .int z6.2.2.1, .int z6.2.2.2.1])), (q_rings_steps, .inl (C 0, 36, .inl z6.2.2.2.2.1)), (q_rings_path, .inl (C 0, 6, .inl z6.2.2.2.2.2.1)), (q_rings_taken, .inl (C 0, 6, .inl z6.2.2.2.2.2.2))]) (st2 := []) cx (CX4_search l D C q_rings q_rings_steps q_rings_path q_rings_taken q_now_debts q_now_debts_owed q_now_debts_order q_now_consents q_now_consents_refused u_rings_rule u_rings_found u_rings_size u_rings_least u_rings_steps u_rings_path u_rings_taken u_now_debts_size u_now_debts_owed u_now_consents_refused x1 z6 hz6) lk_X8_125 my_X4_search ml_X4_search ⟨by decide, by decide⟩ hw [9, 10, 11, 12, 2, 3, 5, 6] [0, 1, 4, 7, 8] [0, 1, 9, 10, 2, 11, 12, 3, 4, 5, 6, 7, 8] rfl rfl (by decide) rfl rfl rfl rfl (Nat.le_of_ble_eq_true rfl) dX8_cut_46 rfl (fun H locs hw => ?_) hl.1
      refine lv_aload_n hx hb dX8_cut_49 rfl (lv_at hl 0 rfl) ?_
      refine r_get (ci := 8) (v := .ref q_rings) cx hw iX8 0 4 rfl rfl (by decide) wf_X8_35 rfl dX8_cut_50 ?_
      obtain ⟨z7, hz7, hF⟩ := ob hF
      refine cV (wr := [(q_, .inr (8, [.ref q_now, .ref q_kept, .int u_isKept, .ref q_supposed, .ref q_rings, .ref q_netting, .ref q_text, .ref q_tapes])), (q_now, .inr (0, [.int u_now_people, .ref q_now_debts, .ref q_now_consents, .ref q_now_trail, .ref q_now_seen, .ref q_now_events, .ref q_now_book])), (q_now_debts, .inr (2, [.ref q_now_debts_owed, .ref q_now_debts_order, .int u_now_debts_size])), (q_now_debts_owed, .inl (C 0, 36, .inl u_now_debts_owed)), (q_now_debts_order, .inl (C 0, 36, .inl u_now_debts_order)), (q_now_consents, .inr (1, [.ref q_now_consents_refused])), (q_now_consents_refused, .inl (C 2, 36, .inl u_now_consents_refused)), (q_now_trail, .inr (5, [.ref q_now_trail_numbers, .int u_now_trail_room, .int u_now_trail_size])), (q_now_trail_numbers, .inl (C 0, n_now_trail_numbers, .inl u_now_trail_numbers)), (q_rings_steps, .inl (C 0, 36, .inl z6.2.2.2.2.1)), (q_rings_path, .inl (C 0, 6, .inl z6.2.2.2.2.2.1)), (q_rings_taken, .inl (C 0, 6, .inl z6.2.2.2.2.2.2))]) (w2 := [(q_, .inr (8, [.ref q_now, .ref q_kept, .int u_isKept, .ref q_supposed, .ref q_rings, .ref q_netting, .ref q_text, .ref q_tapes])), (q_now, .inr (0, [.int u_now_people, .ref q_now_debts, .ref q_now_consents, .ref q_now_trail, .ref q_now_seen, .ref q_now_events, .ref q_now_book])), (q_now_debts, .inr (2, [.ref q_now_debts_owed, .ref q_now_debts_order, .int u_now_debts_size])), (q_now_debts_owed, .inl (C 0, 36, .inl u_now_debts_owed)), (q_now_debts_order, .inl (C 0, 36, .inl u_now_debts_order)), (q_now_consents, .inr (1, [.ref q_now_consents_refused])), (q_now_consents_refused, .inl (C 2, 36, .inl u_now_consents_refused)), (q_now_trail, .inr (5, [.ref q_now_trail_numbers, .int u_now_trail_room, .int u_now_trail_size])), (q_now_trail_numbers, .inl (C 0, n_now_trail_numbers, .inl u_now_trail_numbers)), (q_rings, .inr (4, [.ref q_rings_steps, .ref q_rings_path, .ref q_rings_taken, .int z6.1, .int z6.2.1, .int z6.2.2.1, .int z6.2.2.2.1])), (q_rings_steps, .inl (C 0, 36, .inl z6.2.2.2.2.1)), (q_rings_path, .inl (C 0, 6, .inl z6.2.2.2.2.2.1)), (q_rings_taken, .inl (C 0, 6, .inl z6.2.2.2.2.2.2))]) (st2 := [.int z7]) cx (CX4_size l D C q_rings q_rings_steps q_rings_path q_rings_taken z6.1 z6.2.1 z6.2.2.1 z6.2.2.2.1 z7 hz7) lk_X8_129 my_X4_size ml_X4_size ⟨by decide, by decide⟩ hw [9] [0, 1, 2, 3, 4, 5, 6, 7, 8, 10, 11, 12] [0, 1, 2, 3, 4, 5, 6, 7, 8, 12, 9, 10, 11] rfl rfl (by decide) rfl rfl rfl rfl (Nat.le_of_ble_eq_true rfl) dX8_cut_53 rfl (fun H locs hw => ?_) hl.1
      refine lv_if_eq (tgt := 72) hx hb dX8_cut_56 (by decide) (fun c8 => ?_) (fun c8 => ?_)
      · replace hF := oi_t c8 hF
        refine lv_iload_n hx hb dX8_cut_72 rfl (lv_at hl 3 rfl) ?_
        obtain rfl := Option.some.inj hF
        exact rt_i hret hw rfl dX8_cut_73
      · replace hF := oi_f c8 hF
        refine lv_aload_n hx hb dX8_cut_59 rfl (lv_at hl 0 rfl) ?_
        refine r_get (ci := 8) (v := .ref q_now) cx hw iX8 0 0 rfl rfl (by decide) wf_X8_12 rfl dX8_cut_60 ?_
        refine r_get (ci := 0) (v := .ref q_now_trail) cx hw iX0 1 3 rfl rfl (by decide) wf_X8_130 rfl dX8_cut_63 ?_
        obtain ⟨z9, hz9, hF⟩ := ob hF
        refine cV (wr := [(q_, .inr (8, [.ref q_now, .ref q_kept, .int u_isKept, .ref q_supposed, .ref q_rings, .ref q_netting, .ref q_text, .ref q_tapes])), (q_now, .inr (0, [.int u_now_people, .ref q_now_debts, .ref q_now_consents, .ref q_now_trail, .ref q_now_seen, .ref q_now_events, .ref q_now_book])), (q_now_debts, .inr (2, [.ref q_now_debts_owed, .ref q_now_debts_order, .int u_now_debts_size])), (q_now_debts_owed, .inl (C 0, 36, .inl u_now_debts_owed)), (q_now_debts_order, .inl (C 0, 36, .inl u_now_debts_order)), (q_now_consents, .inr (1, [.ref q_now_consents_refused])), (q_now_consents_refused, .inl (C 2, 36, .inl u_now_consents_refused)), (q_now_trail_numbers, .inl (C 0, n_now_trail_numbers, .inl u_now_trail_numbers)), (q_rings, .inr (4, [.ref q_rings_steps, .ref q_rings_path, .ref q_rings_taken, .int z6.1, .int z6.2.1, .int z6.2.2.1, .int z6.2.2.2.1])), (q_rings_steps, .inl (C 0, 36, .inl z6.2.2.2.2.1)), (q_rings_path, .inl (C 0, 6, .inl z6.2.2.2.2.2.1)), (q_rings_taken, .inl (C 0, 6, .inl z6.2.2.2.2.2.2))]) (w2 := [(q_, .inr (8, [.ref q_now, .ref q_kept, .int u_isKept, .ref q_supposed, .ref q_rings, .ref q_netting, .ref q_text, .ref q_tapes])), (q_now, .inr (0, [.int u_now_people, .ref q_now_debts, .ref q_now_consents, .ref q_now_trail, .ref q_now_seen, .ref q_now_events, .ref q_now_book])), (q_now_debts, .inr (2, [.ref q_now_debts_owed, .ref q_now_debts_order, .int u_now_debts_size])), (q_now_debts_owed, .inl (C 0, 36, .inl u_now_debts_owed)), (q_now_debts_order, .inl (C 0, 36, .inl u_now_debts_order)), (q_now_consents, .inr (1, [.ref q_now_consents_refused])), (q_now_consents_refused, .inl (C 2, 36, .inl u_now_consents_refused)), (q_now_trail, .inr (5, [.ref q_now_trail_numbers, .int u_now_trail_room, .int u_now_trail_size])), (q_now_trail_numbers, .inl (C 0, n_now_trail_numbers, .inl u_now_trail_numbers)), (q_rings, .inr (4, [.ref q_rings_steps, .ref q_rings_path, .ref q_rings_taken, .int z6.1, .int z6.2.1, .int z6.2.2.1, .int z6.2.2.2.1])), (q_rings_steps, .inl (C 0, 36, .inl z6.2.2.2.2.1)), (q_rings_path, .inl (C 0, 6, .inl z6.2.2.2.2.2.1)), (q_rings_taken, .inl (C 0, 6, .inl z6.2.2.2.2.2.2))]) (st2 := [.int z9]) cx (CX5_isFull l D C q_now_trail q_now_trail_numbers u_now_trail_room u_now_trail_size z9 hz9) lk_X8_134 my_X5_isFull ml_X5_isFull ⟨by decide, by decide⟩ hw [7] [0, 1, 2, 3, 4, 5, 6, 8, 9, 10, 11, 12] [0, 1, 2, 3, 4, 5, 6, 12, 7, 8, 9, 10, 11] rfl rfl (by decide) rfl rfl rfl rfl (Nat.le_of_ble_eq_true rfl) dX8_cut_66 rfl (fun H locs hw => ?_) hl.1
        refine lv_if_eq (tgt := 74) hx hb dX8_cut_69 (by decide) (fun c10 => ?_) (fun c10 => ?_)
        · replace hF := oi_t c10 hF
          refine lv_aload_n hx hb dX8_cut_74 rfl (lv_at hl 0 rfl) ?_
          refine r_get (ci := 8) (v := .ref q_rings) cx hw iX8 0 4 rfl rfl (by decide) wf_X8_35 rfl dX8_cut_75 ?_
          refine lv_aload_n hx hb dX8_cut_78 rfl (lv_at hl 0 rfl) ?_
          refine r_get (ci := 8) (v := .ref q_now) cx hw iX8 0 0 rfl rfl (by decide) wf_X8_12 rfl dX8_cut_79 ?_
          refine r_get (ci := 0) (v := .ref q_now_debts) cx hw iX0 1 1 rfl rfl (by decide) wf_X8_68 rfl dX8_cut_82 ?_
          obtain ⟨z11, hz11, hF⟩ := ob hF
          refine cV (wr := [(q_, .inr (8, [.ref q_now, .ref q_kept, .int u_isKept, .ref q_supposed, .ref q_rings, .ref q_netting, .ref q_text, .ref q_tapes])), (q_now, .inr (0, [.int u_now_people, .ref q_now_debts, .ref q_now_consents, .ref q_now_trail, .ref q_now_seen, .ref q_now_events, .ref q_now_book])), (q_now_consents, .inr (1, [.ref q_now_consents_refused])), (q_now_consents_refused, .inl (C 2, 36, .inl u_now_consents_refused)), (q_now_trail, .inr (5, [.ref q_now_trail_numbers, .int u_now_trail_room, .int u_now_trail_size])), (q_now_trail_numbers, .inl (C 0, n_now_trail_numbers, .inl u_now_trail_numbers)), (q_rings_steps, .inl (C 0, 36, .inl z6.2.2.2.2.1)), (q_rings_path, .inl (C 0, 6, .inl z6.2.2.2.2.2.1))]) (w2 := [(q_, .inr (8, [.ref q_now, .ref q_kept, .int u_isKept, .ref q_supposed, .ref q_rings, .ref q_netting, .ref q_text, .ref q_tapes])), (q_now, .inr (0, [.int u_now_people, .ref q_now_debts, .ref q_now_consents, .ref q_now_trail, .ref q_now_seen, .ref q_now_events, .ref q_now_book])), (q_now_debts, .inr (2, [.ref q_now_debts_owed, .ref q_now_debts_order, .int z11.1])), (q_now_debts_owed, .inl (C 0, 36, .inl z11.2.1)), (q_now_debts_order, .inl (C 0, 36, .inl z11.2.2)), (q_now_consents, .inr (1, [.ref q_now_consents_refused])), (q_now_consents_refused, .inl (C 2, 36, .inl u_now_consents_refused)), (q_now_trail, .inr (5, [.ref q_now_trail_numbers, .int u_now_trail_room, .int u_now_trail_size])), (q_now_trail_numbers, .inl (C 0, n_now_trail_numbers, .inl u_now_trail_numbers)), (q_rings, .inr (4, [.ref q_rings_steps, .ref q_rings_path, .ref q_rings_taken, .int z6.1, .int z6.2.1, .int z6.2.2.1, .int z6.2.2.2.1])), (q_rings_steps, .inl (C 0, 36, .inl z6.2.2.2.2.1)), (q_rings_path, .inl (C 0, 6, .inl z6.2.2.2.2.2.1)), (q_rings_taken, .inl (C 0, 6, .inl z6.2.2.2.2.2.2))]) (st2 := []) cx (CX4_takeLeastFrom l D C q_rings q_rings_steps q_rings_path q_rings_taken q_now_debts q_now_debts_owed q_now_debts_order z6.1 z6.2.1 z6.2.2.1 z6.2.2.2.1 z6.2.2.2.2.2.2 u_now_debts_size u_now_debts_owed u_now_debts_order z11 hz11) lk_X8_140 my_X4_takeLeastFrom ml_X4_takeLeastFrom ⟨by decide, by decide⟩ hw [9, 12, 2, 3, 4] [0, 1, 5, 6, 7, 8, 10, 11] [0, 1, 10, 11, 12, 2, 3, 4, 5, 8, 6, 7, 9] rfl rfl (by decide) rfl rfl rfl rfl (Nat.le_of_ble_eq_true rfl) dX8_cut_85 rfl (fun H locs hw => ?_) hl.1
          refine lv_aload_n hx hb dX8_cut_88 rfl (lv_at hl 0 rfl) ?_
          refine r_get (ci := 8) (v := .ref q_now) cx hw iX8 0 0 rfl rfl (by decide) wf_X8_12 rfl dX8_cut_89 ?_
          refine r_get (ci := 0) (v := .ref q_now_trail) cx hw iX0 1 3 rfl rfl (by decide) wf_X8_130 rfl dX8_cut_92 ?_
          refine lv_iload_n hx hb dX8_cut_95 rfl (lv_at hl 1 rfl) ?_
          refine lv_aload_n hx hb dX8_cut_96 rfl (lv_at hl 0 rfl) ?_
          refine r_get (ci := 8) (v := .ref q_rings) cx hw iX8 0 4 rfl rfl (by decide) wf_X8_35 rfl dX8_cut_97 ?_
          obtain ⟨z12, hz12, hF⟩ := ob hF
          refine cV (wr := [(q_, .inr (8, [.ref q_now, .ref q_kept, .int u_isKept, .ref q_supposed, .ref q_rings, .ref q_netting, .ref q_text, .ref q_tapes])), (q_now, .inr (0, [.int u_now_people, .ref q_now_debts, .ref q_now_consents, .ref q_now_trail, .ref q_now_seen, .ref q_now_events, .ref q_now_book])), (q_now_debts, .inr (2, [.ref q_now_debts_owed, .ref q_now_debts_order, .int z11.1])), (q_now_debts_owed, .inl (C 0, 36, .inl z11.2.1)), (q_now_debts_order, .inl (C 0, 36, .inl z11.2.2)), (q_now_consents, .inr (1, [.ref q_now_consents_refused])), (q_now_consents_refused, .inl (C 2, 36, .inl u_now_consents_refused)), (q_now_trail, .inr (5, [.ref q_now_trail_numbers, .int u_now_trail_room, .int u_now_trail_size])), (q_now_trail_numbers, .inl (C 0, n_now_trail_numbers, .inl u_now_trail_numbers)), (q_rings_steps, .inl (C 0, 36, .inl z6.2.2.2.2.1)), (q_rings_path, .inl (C 0, 6, .inl z6.2.2.2.2.2.1)), (q_rings_taken, .inl (C 0, 6, .inl z6.2.2.2.2.2.2))]) (w2 := [(q_, .inr (8, [.ref q_now, .ref q_kept, .int u_isKept, .ref q_supposed, .ref q_rings, .ref q_netting, .ref q_text, .ref q_tapes])), (q_now, .inr (0, [.int u_now_people, .ref q_now_debts, .ref q_now_consents, .ref q_now_trail, .ref q_now_seen, .ref q_now_events, .ref q_now_book])), (q_now_debts, .inr (2, [.ref q_now_debts_owed, .ref q_now_debts_order, .int z11.1])), (q_now_debts_owed, .inl (C 0, 36, .inl z11.2.1)), (q_now_debts_order, .inl (C 0, 36, .inl z11.2.2)), (q_now_consents, .inr (1, [.ref q_now_consents_refused])), (q_now_consents_refused, .inl (C 2, 36, .inl u_now_consents_refused)), (q_now_trail, .inr (5, [.ref q_now_trail_numbers, .int u_now_trail_room, .int u_now_trail_size])), (q_now_trail_numbers, .inl (C 0, n_now_trail_numbers, .inl u_now_trail_numbers)), (q_rings, .inr (4, [.ref q_rings_steps, .ref q_rings_path, .ref q_rings_taken, .int z6.1, .int z6.2.1, .int z6.2.2.1, .int z6.2.2.2.1])), (q_rings_steps, .inl (C 0, 36, .inl z6.2.2.2.2.1)), (q_rings_path, .inl (C 0, 6, .inl z6.2.2.2.2.2.1)), (q_rings_taken, .inl (C 0, 6, .inl z6.2.2.2.2.2.2))]) (st2 := [.int z12, .int x1, .ref q_now_trail]) cx (CX4_size l D C q_rings q_rings_steps q_rings_path q_rings_taken z6.1 z6.2.1 z6.2.2.1 z6.2.2.2.1 z12 hz12) lk_X8_129 my_X4_size ml_X4_size ⟨by decide, by decide⟩ hw [9] [0, 1, 2, 3, 4, 5, 6, 7, 8, 10, 11, 12] [0, 1, 2, 3, 4, 5, 6, 7, 8, 12, 9, 10, 11] rfl rfl (by decide) rfl rfl rfl rfl (Nat.le_of_ble_eq_true rfl) dX8_cut_100 rfl (fun H locs hw => ?_) hl.1
          refine lv_aload_n hx hb dX8_cut_103 rfl (lv_at hl 0 rfl) ?_
          refine r_get (ci := 8) (v := .ref q_rings) cx hw iX8 0 4 rfl rfl (by decide) wf_X8_35 rfl dX8_cut_104 ?_
          obtain ⟨z13, hz13, hF⟩ := ob hF
          refine cV (wr := [(q_, .inr (8, [.ref q_now, .ref q_kept, .int u_isKept, .ref q_supposed, .ref q_rings, .ref q_netting, .ref q_text, .ref q_tapes])), (q_now, .inr (0, [.int u_now_people, .ref q_now_debts, .ref q_now_consents, .ref q_now_trail, .ref q_now_seen, .ref q_now_events, .ref q_now_book])), (q_now_debts, .inr (2, [.ref q_now_debts_owed, .ref q_now_debts_order, .int z11.1])), (q_now_debts_owed, .inl (C 0, 36, .inl z11.2.1)), (q_now_debts_order, .inl (C 0, 36, .inl z11.2.2)), (q_now_consents, .inr (1, [.ref q_now_consents_refused])), (q_now_consents_refused, .inl (C 2, 36, .inl u_now_consents_refused)), (q_now_trail, .inr (5, [.ref q_now_trail_numbers, .int u_now_trail_room, .int u_now_trail_size])), (q_now_trail_numbers, .inl (C 0, n_now_trail_numbers, .inl u_now_trail_numbers)), (q_rings_steps, .inl (C 0, 36, .inl z6.2.2.2.2.1)), (q_rings_path, .inl (C 0, 6, .inl z6.2.2.2.2.2.1)), (q_rings_taken, .inl (C 0, 6, .inl z6.2.2.2.2.2.2))]) (w2 := [(q_, .inr (8, [.ref q_now, .ref q_kept, .int u_isKept, .ref q_supposed, .ref q_rings, .ref q_netting, .ref q_text, .ref q_tapes])), (q_now, .inr (0, [.int u_now_people, .ref q_now_debts, .ref q_now_consents, .ref q_now_trail, .ref q_now_seen, .ref q_now_events, .ref q_now_book])), (q_now_debts, .inr (2, [.ref q_now_debts_owed, .ref q_now_debts_order, .int z11.1])), (q_now_debts_owed, .inl (C 0, 36, .inl z11.2.1)), (q_now_debts_order, .inl (C 0, 36, .inl z11.2.2)), (q_now_consents, .inr (1, [.ref q_now_consents_refused])), (q_now_consents_refused, .inl (C 2, 36, .inl u_now_consents_refused)), (q_now_trail, .inr (5, [.ref q_now_trail_numbers, .int u_now_trail_room, .int u_now_trail_size])), (q_now_trail_numbers, .inl (C 0, n_now_trail_numbers, .inl u_now_trail_numbers)), (q_rings, .inr (4, [.ref q_rings_steps, .ref q_rings_path, .ref q_rings_taken, .int z6.1, .int z6.2.1, .int z6.2.2.1, .int z6.2.2.2.1])), (q_rings_steps, .inl (C 0, 36, .inl z6.2.2.2.2.1)), (q_rings_path, .inl (C 0, 6, .inl z6.2.2.2.2.2.1)), (q_rings_taken, .inl (C 0, 6, .inl z6.2.2.2.2.2.2))]) (st2 := [.int z13, .int z12, .int x1, .ref q_now_trail]) cx (CX4_least l D C q_rings q_rings_steps q_rings_path q_rings_taken z6.1 z6.2.1 z6.2.2.1 z6.2.2.2.1 z13 hz13) lk_X8_144 my_X4_least ml_X4_least ⟨by decide, by decide⟩ hw [9] [0, 1, 2, 3, 4, 5, 6, 7, 8, 10, 11, 12] [0, 1, 2, 3, 4, 5, 6, 7, 8, 12, 9, 10, 11] rfl rfl (by decide) rfl rfl rfl rfl (Nat.le_of_ble_eq_true rfl) dX8_cut_107 rfl (fun H locs hw => ?_) hl.1
          obtain ⟨z14, hz14, hF⟩ := ob hF
          refine cV (wr := [(q_, .inr (8, [.ref q_now, .ref q_kept, .int u_isKept, .ref q_supposed, .ref q_rings, .ref q_netting, .ref q_text, .ref q_tapes])), (q_now, .inr (0, [.int u_now_people, .ref q_now_debts, .ref q_now_consents, .ref q_now_trail, .ref q_now_seen, .ref q_now_events, .ref q_now_book])), (q_now_debts, .inr (2, [.ref q_now_debts_owed, .ref q_now_debts_order, .int z11.1])), (q_now_debts_owed, .inl (C 0, 36, .inl z11.2.1)), (q_now_debts_order, .inl (C 0, 36, .inl z11.2.2)), (q_now_consents, .inr (1, [.ref q_now_consents_refused])), (q_now_consents_refused, .inl (C 2, 36, .inl u_now_consents_refused)), (q_rings, .inr (4, [.ref q_rings_steps, .ref q_rings_path, .ref q_rings_taken, .int z6.1, .int z6.2.1, .int z6.2.2.1, .int z6.2.2.2.1])), (q_rings_steps, .inl (C 0, 36, .inl z6.2.2.2.2.1)), (q_rings_path, .inl (C 0, 6, .inl z6.2.2.2.2.2.1)), (q_rings_taken, .inl (C 0, 6, .inl z6.2.2.2.2.2.2))]) (w2 := [(q_, .inr (8, [.ref q_now, .ref q_kept, .int u_isKept, .ref q_supposed, .ref q_rings, .ref q_netting, .ref q_text, .ref q_tapes])), (q_now, .inr (0, [.int u_now_people, .ref q_now_debts, .ref q_now_consents, .ref q_now_trail, .ref q_now_seen, .ref q_now_events, .ref q_now_book])), (q_now_debts, .inr (2, [.ref q_now_debts_owed, .ref q_now_debts_order, .int z11.1])), (q_now_debts_owed, .inl (C 0, 36, .inl z11.2.1)), (q_now_debts_order, .inl (C 0, 36, .inl z11.2.2)), (q_now_consents, .inr (1, [.ref q_now_consents_refused])), (q_now_consents_refused, .inl (C 2, 36, .inl u_now_consents_refused)), (q_now_trail, .inr (5, [.ref q_now_trail_numbers, .int u_now_trail_room, .int z14.2.1])), (q_now_trail_numbers, .inl (C 0, n_now_trail_numbers, .inl z14.2.2)), (q_rings, .inr (4, [.ref q_rings_steps, .ref q_rings_path, .ref q_rings_taken, .int z6.1, .int z6.2.1, .int z6.2.2.1, .int z6.2.2.2.1])), (q_rings_steps, .inl (C 0, 36, .inl z6.2.2.2.2.1)), (q_rings_path, .inl (C 0, 6, .inl z6.2.2.2.2.2.1)), (q_rings_taken, .inl (C 0, 6, .inl z6.2.2.2.2.2.2))]) (st2 := [.int z14.1]) cx (CX5_add l D C q_now_trail q_now_trail_numbers n_now_trail_numbers u_now_trail_room u_now_trail_size u_now_trail_numbers x1 z12 z13 z14 hz14) lk_X8_147 my_X5_add ml_X5_add ⟨by decide, by decide⟩ hw [7, 8] [0, 1, 2, 3, 4, 5, 6, 9, 10, 11, 12] [0, 1, 2, 3, 4, 5, 6, 11, 12, 7, 8, 9, 10] rfl rfl (by decide) rfl rfl rfl rfl (Nat.le_of_ble_eq_true rfl) dX8_cut_110 rfl (fun H locs hw => ?_) hl.1
          refine lv_pop hx hb dX8_cut_113 rfl ?_
          refine lv_iinc (v := x3 + 1) (lv' := [(3, .int (x3 + 1)), (0, .ref q_), (1, .int x1), (2, .int x2)]) hx hb dX8_cut_114 hl (k := 3) rfl rfl (by decide) rfl (fun ls hl => ?_)
          refine lv_goto (tgt := 22) hx hb dX8_cut_117 (by decide) ?_
          exact ih (x3 + 1) z11.1 z11.2.1 z11.2.2 z14.2.1 z14.2.2 z6.1 z6.2.1 z6.2.2.1 z6.2.2.2.1 z6.2.2.2.2.1 z6.2.2.2.2.2.1 z6.2.2.2.2.2.2 H locs ls hF hw (lv_sub hl [1, 2, 3, 0] rfl)
        · replace hF := oi_f c10 hF
          refine lv_iload_n hx hb dX8_cut_72 rfl (lv_at hl 3 rfl) ?_
          obtain rfl := Option.some.inj hF
          exact rt_i hret hw rfl dX8_cut_73
set_option maxRecDepth 20000 in
theorem CX8_cut (l : Launch) (D : va_G) (C : Nat → ClassId) (q_ q_now q_kept q_supposed q_rings q_netting q_text q_tapes q_now_debts q_now_consents q_now_trail q_now_seen q_now_events q_now_book q_now_debts_owed q_now_debts_order q_now_consents_refused q_now_trail_numbers q_rings_steps q_rings_path q_rings_taken n_now_trail_numbers : Nat) (u_isKept : Int32) (u_now_people : Int32) (u_now_debts_size : Int32) (u_now_debts_owed : (Nat → Int32)) (u_now_debts_order : (Nat → Int32)) (u_now_consents_refused : (Nat → Int32)) (u_now_trail_room : Int32) (u_now_trail_size : Int32) (u_now_trail_numbers : (Nat → Int32)) (u_rings_rule : Int32) (u_rings_found : Int32) (u_rings_size : Int32) (u_rings_least : Int32) (u_rings_steps : (Nat → Int32)) (u_rings_path : (Nat → Int32)) (u_rings_taken : (Nat → Int32)) (x1 : Int32) (x2 : Int32) (z : (Int32 × Int32 × (Nat → Int32) × (Nat → Int32) × Int32 × (Nat → Int32) × Int32 × Int32 × Int32 × Int32 × (Nat → Int32) × (Nat → Int32) × (Nat → Int32))) (hF : fX8_cut n_now_trail_numbers u_now_debts_size u_now_debts_owed u_now_debts_order u_now_consents_refused u_now_trail_room u_now_trail_size u_now_trail_numbers u_rings_rule u_rings_found u_rings_size u_rings_least u_rings_steps u_rings_path u_rings_taken x1 x2 = some z) : Ct l yX8_cut cX8_cut 4 (some .int) 13 D C [.ref q_, .int x1, .int x2] [(q_, .inr (8, [.ref q_now, .ref q_kept, .int u_isKept, .ref q_supposed, .ref q_rings, .ref q_netting, .ref q_text, .ref q_tapes])), (q_now, .inr (0, [.int u_now_people, .ref q_now_debts, .ref q_now_consents, .ref q_now_trail, .ref q_now_seen, .ref q_now_events, .ref q_now_book])), (q_now_debts, .inr (2, [.ref q_now_debts_owed, .ref q_now_debts_order, .int u_now_debts_size])), (q_now_debts_owed, .inl (C 0, 36, .inl u_now_debts_owed)), (q_now_debts_order, .inl (C 0, 36, .inl u_now_debts_order)), (q_now_consents, .inr (1, [.ref q_now_consents_refused])), (q_now_consents_refused, .inl (C 2, 36, .inl u_now_consents_refused)), (q_now_trail, .inr (5, [.ref q_now_trail_numbers, .int u_now_trail_room, .int u_now_trail_size])), (q_now_trail_numbers, .inl (C 0, n_now_trail_numbers, .inl u_now_trail_numbers)), (q_rings, .inr (4, [.ref q_rings_steps, .ref q_rings_path, .ref q_rings_taken, .int u_rings_rule, .int u_rings_found, .int u_rings_size, .int u_rings_least])), (q_rings_steps, .inl (C 0, 36, .inl u_rings_steps)), (q_rings_path, .inl (C 0, 6, .inl u_rings_path)), (q_rings_taken, .inl (C 0, 6, .inl u_rings_taken))] [(q_, .inr (8, [.ref q_now, .ref q_kept, .int u_isKept, .ref q_supposed, .ref q_rings, .ref q_netting, .ref q_text, .ref q_tapes])), (q_now, .inr (0, [.int u_now_people, .ref q_now_debts, .ref q_now_consents, .ref q_now_trail, .ref q_now_seen, .ref q_now_events, .ref q_now_book])), (q_now_debts, .inr (2, [.ref q_now_debts_owed, .ref q_now_debts_order, .int z.2.1])), (q_now_debts_owed, .inl (C 0, 36, .inl z.2.2.1)), (q_now_debts_order, .inl (C 0, 36, .inl z.2.2.2.1)), (q_now_consents, .inr (1, [.ref q_now_consents_refused])), (q_now_consents_refused, .inl (C 2, 36, .inl u_now_consents_refused)), (q_now_trail, .inr (5, [.ref q_now_trail_numbers, .int u_now_trail_room, .int z.2.2.2.2.1])), (q_now_trail_numbers, .inl (C 0, n_now_trail_numbers, .inl z.2.2.2.2.2.1)), (q_rings, .inr (4, [.ref q_rings_steps, .ref q_rings_path, .ref q_rings_taken, .int z.2.2.2.2.2.2.1, .int z.2.2.2.2.2.2.2.1, .int z.2.2.2.2.2.2.2.2.1, .int z.2.2.2.2.2.2.2.2.2.1])), (q_rings_steps, .inl (C 0, 36, .inl z.2.2.2.2.2.2.2.2.2.2.1)), (q_rings_path, .inl (C 0, 6, .inl z.2.2.2.2.2.2.2.2.2.2.2.1)), (q_rings_taken, .inl (C 0, 6, .inl z.2.2.2.2.2.2.2.2.2.2.2.2))] (some (.int z.1)) := by
  refine Ct_of (by decide) (Nat.le_of_ble_eq_true rfl) ?_
  intro p e R s m args below meth c A Q H locs ls cx hw hl hret
  have cx : CX p m c s args RX8 cX8_cut 4 D C A R 13 := cx
  have hx := cx.1
  have hb := cx.2.1
  have hl : lv_has ls 4 [(0, .ref q_), (1, .int x1), (2, .int x2)] := hl
  rw [fX8_cut.eq_1] at hF
  refine lv_iload_n hx hb dX8_cut_0 rfl (lv_at hl 1 rfl) ?_
  obtain ⟨z1, hz1, hF⟩ := ob hF
  refine cS (wr := [(q_, .inr (8, [.ref q_now, .ref q_kept, .int u_isKept, .ref q_supposed, .ref q_rings, .ref q_netting, .ref q_text, .ref q_tapes])), (q_now, .inr (0, [.int u_now_people, .ref q_now_debts, .ref q_now_consents, .ref q_now_trail, .ref q_now_seen, .ref q_now_events, .ref q_now_book])), (q_now_debts, .inr (2, [.ref q_now_debts_owed, .ref q_now_debts_order, .int u_now_debts_size])), (q_now_debts_owed, .inl (C 0, 36, .inl u_now_debts_owed)), (q_now_debts_order, .inl (C 0, 36, .inl u_now_debts_order)), (q_now_consents, .inr (1, [.ref q_now_consents_refused])), (q_now_consents_refused, .inl (C 2, 36, .inl u_now_consents_refused)), (q_now_trail, .inr (5, [.ref q_now_trail_numbers, .int u_now_trail_room, .int u_now_trail_size])), (q_now_trail_numbers, .inl (C 0, n_now_trail_numbers, .inl u_now_trail_numbers)), (q_rings, .inr (4, [.ref q_rings_steps, .ref q_rings_path, .ref q_rings_taken, .int u_rings_rule, .int u_rings_found, .int u_rings_size, .int u_rings_least])), (q_rings_steps, .inl (C 0, 36, .inl u_rings_steps)), (q_rings_path, .inl (C 0, 6, .inl u_rings_path)), (q_rings_taken, .inl (C 0, 6, .inl u_rings_taken))]) (w2 := [(q_, .inr (8, [.ref q_now, .ref q_kept, .int u_isKept, .ref q_supposed, .ref q_rings, .ref q_netting, .ref q_text, .ref q_tapes])), (q_now, .inr (0, [.int u_now_people, .ref q_now_debts, .ref q_now_consents, .ref q_now_trail, .ref q_now_seen, .ref q_now_events, .ref q_now_book])), (q_now_debts, .inr (2, [.ref q_now_debts_owed, .ref q_now_debts_order, .int u_now_debts_size])), (q_now_debts_owed, .inl (C 0, 36, .inl u_now_debts_owed)), (q_now_debts_order, .inl (C 0, 36, .inl u_now_debts_order)), (q_now_consents, .inr (1, [.ref q_now_consents_refused])), (q_now_consents_refused, .inl (C 2, 36, .inl u_now_consents_refused)), (q_now_trail, .inr (5, [.ref q_now_trail_numbers, .int u_now_trail_room, .int u_now_trail_size])), (q_now_trail_numbers, .inl (C 0, n_now_trail_numbers, .inl u_now_trail_numbers)), (q_rings, .inr (4, [.ref q_rings_steps, .ref q_rings_path, .ref q_rings_taken, .int u_rings_rule, .int u_rings_found, .int u_rings_size, .int u_rings_least])), (q_rings_steps, .inl (C 0, 36, .inl u_rings_steps)), (q_rings_path, .inl (C 0, 6, .inl u_rings_path)), (q_rings_taken, .inl (C 0, 6, .inl u_rings_taken))]) (st2 := [.int z1]) cx (CX8_isRule l D C x1 z1 hz1) lk_X8_122 my_X8_isRule ml_X8_isRule ⟨by decide, by decide⟩ hw [] [0, 1, 2, 3, 4, 5, 6, 7, 8, 9, 10, 11, 12] [0, 1, 2, 3, 4, 5, 6, 7, 8, 9, 10, 11, 12] rfl rfl (by decide) rfl rfl (Nat.le_of_ble_eq_true rfl) dX8_cut_1 rfl (fun H locs hw => ?_) hl.1
  refine lv_if_eq (tgt := 17) hx hb dX8_cut_4 (by decide) (fun c2 => ?_) (fun c2 => ?_)
  · replace hF := oi_t c2 hF
    refine lv_bipush (v := (-2)) hx hb dX8_cut_17 (by decide) ?_
    obtain rfl := Option.some.inj hF
    exact rt_i hret hw rfl dX8_cut_19
  · replace hF := oi_f c2 hF
    refine lv_iload_n hx hb dX8_cut_7 rfl (lv_at hl 2 rfl) ?_
    refine lv_if_lt (tgt := 17) hx hb dX8_cut_8 (by decide) (fun c3 => ?_) (fun c3 => ?_)
    · replace hF := oi_t c3 hF
      refine lv_bipush (v := (-2)) hx hb dX8_cut_17 (by decide) ?_
      obtain rfl := Option.some.inj hF
      exact rt_i hret hw rfl dX8_cut_19
    · replace hF := oi_f c3 hF
      refine lv_iload_n hx hb dX8_cut_11 rfl (lv_at hl 2 rfl) ?_
      refine lv_bipush (v := 40) hx hb dX8_cut_12 (by decide) ?_
      refine lv_icmp_le (tgt := 20) hx hb dX8_cut_14 (by decide) (fun c4 => ?_) (fun c4 => ?_)
      · replace hF := oi_t c4 hF
        refine lv_iconst (v := 0) hx hb dX8_cut_20 (by decide) ?_
        refine lv_istore_n (lv' := [(3, .int 0), (0, .ref q_), (1, .int x1), (2, .int x2)]) hx hb dX8_cut_21 rfl hl (by decide) rfl (fun ls hl => ?_)
        refine LX8_cut_22 cx hret 400 0 u_now_debts_size u_now_debts_owed u_now_debts_order u_now_trail_size u_now_trail_numbers u_rings_rule u_rings_found u_rings_size u_rings_least u_rings_steps u_rings_path u_rings_taken H locs ls hF hw (lv_sub hl [1, 2, 3, 0] rfl)
      · replace hF := oi_f c4 hF
        refine lv_bipush (v := (-2)) hx hb dX8_cut_17 (by decide) ?_
        obtain rfl := Option.some.inj hF
        exact rt_i hret hw rfl dX8_cut_19
theorem lk_X8_277 : Cond.methodLink RX8 277 yX7_digitAt ∈ gdt := gdt_of 396 (by decide +kernel) (by decide +kernel)
theorem lk_X8_280 : Cond.methodLink RX8 280 yX7_signAt ∈ gdt := gdt_of 400 (by decide +kernel) (by decide +kernel)
theorem lk_X8_296 : Cond.methodLink RX8 296 yX8_cut ∈ gdt := gdt_of 409 (by decide +kernel) (by decide +kernel)
theorem lk_X8_292 : Cond.methodLink RX8 292 yX8_consent ∈ gdt := gdt_of 408 (by decide +kernel) (by decide +kernel)
theorem lk_X8_286 : Cond.methodLink RX8 286 yX7_amountAt ∈ gdt := gdt_of 402 (by decide +kernel) (by decide +kernel)
theorem lk_X8_289 : Cond.methodLink RX8 289 yX8_owe ∈ gdt := gdt_of 407 (by decide +kernel) (by decide +kernel)
theorem lk_X8_283 : Cond.methodLink RX8 283 yX8_person ∈ gdt := gdt_of 401 (by decide +kernel) (by decide +kernel)
theorem my_X8_cut : (yX8_cut.cls ≠ "java/lang/invoke/MethodHandle" ∧ yX8_cut.cls ≠ "java/lang/invoke/VarHandle") ∧ Cond.instanceMethod yX8_cut ∈ gdt ∧ Cond.selects yX8_cut.cls yX8_cut yX8_cut ∈ gdt ∧ Cond.initialized yX8_cut.cls ∈ gdt ∧ Cond.code yX8_cut cX8_cut 4 (some .int) ∈ gdt := ⟨⟨by decide +kernel, by decide +kernel⟩, gdt_of 410 (by decide +kernel) (by decide +kernel), gdt_of 411 (by decide +kernel) (by decide +kernel), gdt_of 67 (by decide +kernel) (by decide +kernel), gdt_of 412 (by decide +kernel) (by decide +kernel)⟩
theorem ml_X8_cut : (parseMethodDescriptor yX8_cut.desc).map (fun d => d.parameters.length) = some 2 := by decide +kernel
theorem my_X8_consent : (yX8_consent.cls ≠ "java/lang/invoke/MethodHandle" ∧ yX8_consent.cls ≠ "java/lang/invoke/VarHandle") ∧ Cond.instanceMethod yX8_consent ∈ gdt ∧ Cond.selects yX8_consent.cls yX8_consent yX8_consent ∈ gdt ∧ Cond.initialized yX8_consent.cls ∈ gdt ∧ Cond.code yX8_consent cX8_consent 5 (some .int) ∈ gdt := ⟨⟨by decide +kernel, by decide +kernel⟩, gdt_of 328 (by decide +kernel) (by decide +kernel), gdt_of 329 (by decide +kernel) (by decide +kernel), gdt_of 67 (by decide +kernel) (by decide +kernel), gdt_of 330 (by decide +kernel) (by decide +kernel)⟩
theorem ml_X8_consent : (parseMethodDescriptor yX8_consent.desc).map (fun d => d.parameters.length) = some 3 := by decide +kernel
theorem my_X7_amountAt : (yX7_amountAt.cls ≠ "java/lang/invoke/MethodHandle" ∧ yX7_amountAt.cls ≠ "java/lang/invoke/VarHandle") ∧ Cond.instanceMethod yX7_amountAt ∈ gdt ∧ Cond.selects yX7_amountAt.cls yX7_amountAt yX7_amountAt ∈ gdt ∧ Cond.initialized yX7_amountAt.cls ∈ gdt ∧ Cond.code yX7_amountAt cX7_amountAt 3 (some .int) ∈ gdt := ⟨⟨by decide +kernel, by decide +kernel⟩, gdt_of 403 (by decide +kernel) (by decide +kernel), gdt_of 404 (by decide +kernel) (by decide +kernel), gdt_of 75 (by decide +kernel) (by decide +kernel), gdt_of 405 (by decide +kernel) (by decide +kernel)⟩
theorem ml_X7_amountAt : (parseMethodDescriptor yX7_amountAt.desc).map (fun d => d.parameters.length) = some 1 := by decide +kernel
theorem my_X8_owe : (yX8_owe.cls ≠ "java/lang/invoke/MethodHandle" ∧ yX8_owe.cls ≠ "java/lang/invoke/VarHandle") ∧ Cond.instanceMethod yX8_owe ∈ gdt ∧ Cond.selects yX8_owe.cls yX8_owe yX8_owe ∈ gdt ∧ Cond.initialized yX8_owe.cls ∈ gdt ∧ Cond.code yX8_owe cX8_owe 5 (some .int) ∈ gdt := ⟨⟨by decide +kernel, by decide +kernel⟩, gdt_of 293 (by decide +kernel) (by decide +kernel), gdt_of 294 (by decide +kernel) (by decide +kernel), gdt_of 67 (by decide +kernel) (by decide +kernel), gdt_of 295 (by decide +kernel) (by decide +kernel)⟩
theorem ml_X8_owe : (parseMethodDescriptor yX8_owe.desc).map (fun d => d.parameters.length) = some 3 := by decide +kernel
theorem my_X8_person : (yX8_person.cls ≠ "java/lang/invoke/MethodHandle" ∧ yX8_person.cls ≠ "java/lang/invoke/VarHandle") ∧ Cond.instanceMethod yX8_person ∈ gdt ∧ Cond.selects yX8_person.cls yX8_person yX8_person ∈ gdt ∧ Cond.initialized yX8_person.cls ∈ gdt ∧ Cond.code yX8_person cX8_person 1 (some .int) ∈ gdt := ⟨⟨by decide +kernel, by decide +kernel⟩, gdt_of 289 (by decide +kernel) (by decide +kernel), gdt_of 290 (by decide +kernel) (by decide +kernel), gdt_of 67 (by decide +kernel) (by decide +kernel), gdt_of 291 (by decide +kernel) (by decide +kernel)⟩
theorem ml_X8_person : (parseMethodDescriptor yX8_person.desc).map (fun d => d.parameters.length) = some 0 := by decide +kernel
theorem dX8_doClause_0 : decode cX8_doClause 0 = .ok (.aload_n 0, 1) := by decide +kernel
theorem dX8_doClause_1 : decode cX8_doClause 1 = .ok (.getfield 49, 3) := by decide +kernel
theorem dX8_doClause_4 : decode cX8_doClause 4 = .ok (.iload_n 1, 1) := by decide +kernel
theorem dX8_doClause_5 : decode cX8_doClause 5 = .ok (.iconst 1, 1) := by decide +kernel
theorem dX8_doClause_6 : decode cX8_doClause 6 = .ok (.iadd, 1) := by decide +kernel
theorem dX8_doClause_7 : decode cX8_doClause 7 = .ok (.invokevirtual 277, 3) := by decide +kernel
theorem dX8_doClause_10 : decode cX8_doClause 10 = .ok (.istore_n 2, 1) := by decide +kernel
theorem dX8_doClause_11 : decode cX8_doClause 11 = .ok (.aload_n 0, 1) := by decide +kernel
theorem dX8_doClause_12 : decode cX8_doClause 12 = .ok (.getfield 49, 3) := by decide +kernel
theorem dX8_doClause_15 : decode cX8_doClause 15 = .ok (.iload_n 1, 1) := by decide +kernel
theorem dX8_doClause_16 : decode cX8_doClause 16 = .ok (.iconst 2, 1) := by decide +kernel
theorem dX8_doClause_17 : decode cX8_doClause 17 = .ok (.iadd, 1) := by decide +kernel
theorem dX8_doClause_18 : decode cX8_doClause 18 = .ok (.invokevirtual 277, 3) := by decide +kernel
theorem dX8_doClause_21 : decode cX8_doClause 21 = .ok (.istore_n 3, 1) := by decide +kernel
theorem dX8_doClause_22 : decode cX8_doClause 22 = .ok (.aload_n 0, 1) := by decide +kernel
theorem dX8_doClause_23 : decode cX8_doClause 23 = .ok (.getfield 49, 3) := by decide +kernel
theorem dX8_doClause_26 : decode cX8_doClause 26 = .ok (.iload_n 1, 1) := by decide +kernel
theorem dX8_doClause_27 : decode cX8_doClause 27 = .ok (.invokevirtual 280, 3) := by decide +kernel
theorem dX8_doClause_30 : decode cX8_doClause 30 = .ok (.lookupswitch 136 #[(99, 120), (110, 88), (111, 63), (112, 50), (121, 104)], 50) := by decide +kernel
theorem dX8_doClause_80 : decode cX8_doClause 80 = .ok (.aload_n 0, 1) := by decide +kernel
theorem dX8_doClause_81 : decode cX8_doClause 81 = .ok (.invokevirtual 283, 3) := by decide +kernel
theorem dX8_doClause_84 : decode cX8_doClause 84 = .ok (.ifCond .lt 7, 3) := by decide +kernel
theorem dX8_doClause_87 : decode cX8_doClause 87 = .ok (.iconst 1, 1) := by decide +kernel
theorem dX8_doClause_88 : decode cX8_doClause 88 = .ok (.goto 4, 3) := by decide +kernel
theorem dX8_doClause_91 : decode cX8_doClause 91 = .ok (.iconst 0, 1) := by decide +kernel
theorem dX8_doClause_92 : decode cX8_doClause 92 = .ok (.ireturn, 1) := by decide +kernel
theorem dX8_doClause_93 : decode cX8_doClause 93 = .ok (.aload_n 0, 1) := by decide +kernel
theorem dX8_doClause_94 : decode cX8_doClause 94 = .ok (.iload_n 2, 1) := by decide +kernel
theorem dX8_doClause_95 : decode cX8_doClause 95 = .ok (.iload_n 3, 1) := by decide +kernel
theorem dX8_doClause_96 : decode cX8_doClause 96 = .ok (.aload_n 0, 1) := by decide +kernel
theorem dX8_doClause_97 : decode cX8_doClause 97 = .ok (.getfield 49, 3) := by decide +kernel
theorem dX8_doClause_100 : decode cX8_doClause 100 = .ok (.iload_n 1, 1) := by decide +kernel
theorem dX8_doClause_101 : decode cX8_doClause 101 = .ok (.iconst 3, 1) := by decide +kernel
theorem dX8_doClause_102 : decode cX8_doClause 102 = .ok (.iadd, 1) := by decide +kernel
theorem dX8_doClause_103 : decode cX8_doClause 103 = .ok (.invokevirtual 286, 3) := by decide +kernel
theorem dX8_doClause_106 : decode cX8_doClause 106 = .ok (.invokevirtual 289, 3) := by decide +kernel
theorem dX8_doClause_109 : decode cX8_doClause 109 = .ok (.ifCond .lt 7, 3) := by decide +kernel
theorem dX8_doClause_112 : decode cX8_doClause 112 = .ok (.iconst 1, 1) := by decide +kernel
theorem dX8_doClause_113 : decode cX8_doClause 113 = .ok (.goto 4, 3) := by decide +kernel
theorem dX8_doClause_116 : decode cX8_doClause 116 = .ok (.iconst 0, 1) := by decide +kernel
theorem dX8_doClause_117 : decode cX8_doClause 117 = .ok (.ireturn, 1) := by decide +kernel
theorem dX8_doClause_118 : decode cX8_doClause 118 = .ok (.aload_n 0, 1) := by decide +kernel
theorem dX8_doClause_119 : decode cX8_doClause 119 = .ok (.iload_n 2, 1) := by decide +kernel
theorem dX8_doClause_120 : decode cX8_doClause 120 = .ok (.iload_n 3, 1) := by decide +kernel
theorem dX8_doClause_121 : decode cX8_doClause 121 = .ok (.iconst 0, 1) := by decide +kernel
theorem dX8_doClause_122 : decode cX8_doClause 122 = .ok (.invokevirtual 292, 3) := by decide +kernel
theorem dX8_doClause_125 : decode cX8_doClause 125 = .ok (.ifCond .lt 7, 3) := by decide +kernel
theorem dX8_doClause_128 : decode cX8_doClause 128 = .ok (.iconst 1, 1) := by decide +kernel
theorem dX8_doClause_129 : decode cX8_doClause 129 = .ok (.goto 4, 3) := by decide +kernel
theorem dX8_doClause_132 : decode cX8_doClause 132 = .ok (.iconst 0, 1) := by decide +kernel
theorem dX8_doClause_133 : decode cX8_doClause 133 = .ok (.ireturn, 1) := by decide +kernel
theorem dX8_doClause_134 : decode cX8_doClause 134 = .ok (.aload_n 0, 1) := by decide +kernel
theorem dX8_doClause_135 : decode cX8_doClause 135 = .ok (.iload_n 2, 1) := by decide +kernel
theorem dX8_doClause_136 : decode cX8_doClause 136 = .ok (.iload_n 3, 1) := by decide +kernel
theorem dX8_doClause_137 : decode cX8_doClause 137 = .ok (.iconst 1, 1) := by decide +kernel
theorem dX8_doClause_138 : decode cX8_doClause 138 = .ok (.invokevirtual 292, 3) := by decide +kernel
theorem dX8_doClause_141 : decode cX8_doClause 141 = .ok (.ifCond .lt 7, 3) := by decide +kernel
theorem dX8_doClause_144 : decode cX8_doClause 144 = .ok (.iconst 1, 1) := by decide +kernel
theorem dX8_doClause_145 : decode cX8_doClause 145 = .ok (.goto 4, 3) := by decide +kernel
theorem dX8_doClause_148 : decode cX8_doClause 148 = .ok (.iconst 0, 1) := by decide +kernel
theorem dX8_doClause_149 : decode cX8_doClause 149 = .ok (.ireturn, 1) := by decide +kernel
theorem dX8_doClause_150 : decode cX8_doClause 150 = .ok (.aload_n 0, 1) := by decide +kernel
theorem dX8_doClause_151 : decode cX8_doClause 151 = .ok (.iload_n 2, 1) := by decide +kernel
theorem dX8_doClause_152 : decode cX8_doClause 152 = .ok (.iconst 1, 1) := by decide +kernel
theorem dX8_doClause_153 : decode cX8_doClause 153 = .ok (.invokevirtual 296, 3) := by decide +kernel
theorem dX8_doClause_156 : decode cX8_doClause 156 = .ok (.iconst 1, 1) := by decide +kernel
theorem dX8_doClause_157 : decode cX8_doClause 157 = .ok (.if_icmp .ne 7, 3) := by decide +kernel
theorem dX8_doClause_160 : decode cX8_doClause 160 = .ok (.iconst 1, 1) := by decide +kernel
theorem dX8_doClause_161 : decode cX8_doClause 161 = .ok (.goto 4, 3) := by decide +kernel
theorem dX8_doClause_164 : decode cX8_doClause 164 = .ok (.iconst 0, 1) := by decide +kernel
theorem dX8_doClause_165 : decode cX8_doClause 165 = .ok (.ireturn, 1) := by decide +kernel
theorem dX8_doClause_166 : decode cX8_doClause 166 = .ok (.iconst 0, 1) := by decide +kernel
theorem dX8_doClause_167 : decode cX8_doClause 167 = .ok (.ireturn, 1) := by decide +kernel
def fX8_doClause (n_now_trail_numbers : Nat) (u_now_people : Int32) (u_now_debts_size : Int32) (u_now_debts_owed : (Nat → Int32)) (u_now_debts_order : (Nat → Int32)) (u_now_consents_refused : (Nat → Int32)) (u_now_trail_room : Int32) (u_now_trail_size : Int32) (u_now_trail_numbers : (Nat → Int32)) (u_rings_rule : Int32) (u_rings_found : Int32) (u_rings_size : Int32) (u_rings_least : Int32) (u_rings_steps : (Nat → Int32)) (u_rings_path : (Nat → Int32)) (u_rings_taken : (Nat → Int32)) (u_text_size : Int32) (u_text_signs : (Nat → Int32)) (x1 : Int32) : Option (Int32 × Int32 × Int32 × (Nat → Int32) × (Nat → Int32) × (Nat → Int32) × Int32 × (Nat → Int32) × Int32 × Int32 × Int32 × Int32 × (Nat → Int32) × (Nat → Int32) × (Nat → Int32)) := (fX7_digitAt u_text_size u_text_signs (x1 + 1)).bind (fun z1 => (fX7_digitAt u_text_size u_text_signs (x1 + 2)).bind (fun z2 => (fX7_signAt u_text_size u_text_signs x1).bind (fun z3 => if z3 = 99 then ((fX8_cut n_now_trail_numbers u_now_debts_size u_now_debts_owed u_now_debts_order u_now_consents_refused u_now_trail_room u_now_trail_size u_now_trail_numbers u_rings_rule u_rings_found u_rings_size u_rings_least u_rings_steps u_rings_path u_rings_taken z1 1).bind (fun z5 => if z5.1 = 1 then (some (1, u_now_people, z5.2.1, z5.2.2.1, z5.2.2.2.1, u_now_consents_refused, z5.2.2.2.2.1, z5.2.2.2.2.2.1, z5.2.2.2.2.2.2.1, z5.2.2.2.2.2.2.2.1, z5.2.2.2.2.2.2.2.2.1, z5.2.2.2.2.2.2.2.2.2.1, z5.2.2.2.2.2.2.2.2.2.2.1, z5.2.2.2.2.2.2.2.2.2.2.2.1, z5.2.2.2.2.2.2.2.2.2.2.2.2)) else (some (0, u_now_people, z5.2.1, z5.2.2.1, z5.2.2.2.1, u_now_consents_refused, z5.2.2.2.2.1, z5.2.2.2.2.2.1, z5.2.2.2.2.2.2.1, z5.2.2.2.2.2.2.2.1, z5.2.2.2.2.2.2.2.2.1, z5.2.2.2.2.2.2.2.2.2.1, z5.2.2.2.2.2.2.2.2.2.2.1, z5.2.2.2.2.2.2.2.2.2.2.2.1, z5.2.2.2.2.2.2.2.2.2.2.2.2)))) else (if z3 = 110 then ((fX8_consent u_now_people u_now_consents_refused z1 z2 0).bind (fun z8 => if z8.1 < 0 then (some (0, u_now_people, u_now_debts_size, u_now_debts_owed, u_now_debts_order, z8.2, u_now_trail_size, u_now_trail_numbers, u_rings_rule, u_rings_found, u_rings_size, u_rings_least, u_rings_steps, u_rings_path, u_rings_taken)) else (some (1, u_now_people, u_now_debts_size, u_now_debts_owed, u_now_debts_order, z8.2, u_now_trail_size, u_now_trail_numbers, u_rings_rule, u_rings_found, u_rings_size, u_rings_least, u_rings_steps, u_rings_path, u_rings_taken)))) else (if z3 = 111 then ((fX7_amountAt u_text_size u_text_signs (x1 + 3)).bind (fun z11 => (fX8_owe u_now_people u_now_debts_size u_now_debts_owed u_now_debts_order z1 z2 z11).bind (fun z12 => if z12.1 < 0 then (some (0, u_now_people, z12.2.1, z12.2.2.1, z12.2.2.2, u_now_consents_refused, u_now_trail_size, u_now_trail_numbers, u_rings_rule, u_rings_found, u_rings_size, u_rings_least, u_rings_steps, u_rings_path, u_rings_taken)) else (some (1, u_now_people, z12.2.1, z12.2.2.1, z12.2.2.2, u_now_consents_refused, u_now_trail_size, u_now_trail_numbers, u_rings_rule, u_rings_found, u_rings_size, u_rings_least, u_rings_steps, u_rings_path, u_rings_taken))))) else (if z3 = 112 then ((fX8_person u_now_people).bind (fun z15 => if z15.1 < 0 then (some (0, z15.2, u_now_debts_size, u_now_debts_owed, u_now_debts_order, u_now_consents_refused, u_now_trail_size, u_now_trail_numbers, u_rings_rule, u_rings_found, u_rings_size, u_rings_least, u_rings_steps, u_rings_path, u_rings_taken)) else (some (1, z15.2, u_now_debts_size, u_now_debts_owed, u_now_debts_order, u_now_consents_refused, u_now_trail_size, u_now_trail_numbers, u_rings_rule, u_rings_found, u_rings_size, u_rings_least, u_rings_steps, u_rings_path, u_rings_taken)))) else (if z3 = 121 then ((fX8_consent u_now_people u_now_consents_refused z1 z2 1).bind (fun z18 => if z18.1 < 0 then (some (0, u_now_people, u_now_debts_size, u_now_debts_owed, u_now_debts_order, z18.2, u_now_trail_size, u_now_trail_numbers, u_rings_rule, u_rings_found, u_rings_size, u_rings_least, u_rings_steps, u_rings_path, u_rings_taken)) else (some (1, u_now_people, u_now_debts_size, u_now_debts_owed, u_now_debts_order, z18.2, u_now_trail_size, u_now_trail_numbers, u_rings_rule, u_rings_found, u_rings_size, u_rings_least, u_rings_steps, u_rings_path, u_rings_taken)))) else (some (0, u_now_people, u_now_debts_size, u_now_debts_owed, u_now_debts_order, u_now_consents_refused, u_now_trail_size, u_now_trail_numbers, u_rings_rule, u_rings_found, u_rings_size, u_rings_least, u_rings_steps, u_rings_path, u_rings_taken)))))))))
set_option maxRecDepth 20000 in
theorem CX8_doClause (l : Launch) (D : va_G) (C : Nat → ClassId) (q_ q_now q_kept q_supposed q_rings q_netting q_text q_tapes q_now_debts q_now_consents q_now_trail q_now_seen q_now_events q_now_book q_now_debts_owed q_now_debts_order q_now_consents_refused q_now_trail_numbers q_rings_steps q_rings_path q_rings_taken q_text_signs n_now_trail_numbers : Nat) (u_isKept : Int32) (u_now_people : Int32) (u_now_debts_size : Int32) (u_now_debts_owed : (Nat → Int32)) (u_now_debts_order : (Nat → Int32)) (u_now_consents_refused : (Nat → Int32)) (u_now_trail_room : Int32) (u_now_trail_size : Int32) (u_now_trail_numbers : (Nat → Int32)) (u_rings_rule : Int32) (u_rings_found : Int32) (u_rings_size : Int32) (u_rings_least : Int32) (u_rings_steps : (Nat → Int32)) (u_rings_path : (Nat → Int32)) (u_rings_taken : (Nat → Int32)) (u_text_size : Int32) (u_text_signs : (Nat → Int32)) (x1 : Int32) (z : (Int32 × Int32 × Int32 × (Nat → Int32) × (Nat → Int32) × (Nat → Int32) × Int32 × (Nat → Int32) × Int32 × Int32 × Int32 × Int32 × (Nat → Int32) × (Nat → Int32) × (Nat → Int32))) (hF : fX8_doClause n_now_trail_numbers u_now_people u_now_debts_size u_now_debts_owed u_now_debts_order u_now_consents_refused u_now_trail_room u_now_trail_size u_now_trail_numbers u_rings_rule u_rings_found u_rings_size u_rings_least u_rings_steps u_rings_path u_rings_taken u_text_size u_text_signs x1 = some z) : Ct l yX8_doClause cX8_doClause 4 (some .boolean) 14 D C [.ref q_, .int x1] [(q_, .inr (8, [.ref q_now, .ref q_kept, .int u_isKept, .ref q_supposed, .ref q_rings, .ref q_netting, .ref q_text, .ref q_tapes])), (q_now, .inr (0, [.int u_now_people, .ref q_now_debts, .ref q_now_consents, .ref q_now_trail, .ref q_now_seen, .ref q_now_events, .ref q_now_book])), (q_now_debts, .inr (2, [.ref q_now_debts_owed, .ref q_now_debts_order, .int u_now_debts_size])), (q_now_debts_owed, .inl (C 0, 36, .inl u_now_debts_owed)), (q_now_debts_order, .inl (C 0, 36, .inl u_now_debts_order)), (q_now_consents, .inr (1, [.ref q_now_consents_refused])), (q_now_consents_refused, .inl (C 2, 36, .inl u_now_consents_refused)), (q_now_trail, .inr (5, [.ref q_now_trail_numbers, .int u_now_trail_room, .int u_now_trail_size])), (q_now_trail_numbers, .inl (C 0, n_now_trail_numbers, .inl u_now_trail_numbers)), (q_rings, .inr (4, [.ref q_rings_steps, .ref q_rings_path, .ref q_rings_taken, .int u_rings_rule, .int u_rings_found, .int u_rings_size, .int u_rings_least])), (q_rings_steps, .inl (C 0, 36, .inl u_rings_steps)), (q_rings_path, .inl (C 0, 6, .inl u_rings_path)), (q_rings_taken, .inl (C 0, 6, .inl u_rings_taken)), (q_text, .inr (7, [.ref q_text_signs, .int u_text_size])), (q_text_signs, .inl (C 3, 100, .inl u_text_signs))] [(q_, .inr (8, [.ref q_now, .ref q_kept, .int u_isKept, .ref q_supposed, .ref q_rings, .ref q_netting, .ref q_text, .ref q_tapes])), (q_now, .inr (0, [.int z.2.1, .ref q_now_debts, .ref q_now_consents, .ref q_now_trail, .ref q_now_seen, .ref q_now_events, .ref q_now_book])), (q_now_debts, .inr (2, [.ref q_now_debts_owed, .ref q_now_debts_order, .int z.2.2.1])), (q_now_debts_owed, .inl (C 0, 36, .inl z.2.2.2.1)), (q_now_debts_order, .inl (C 0, 36, .inl z.2.2.2.2.1)), (q_now_consents, .inr (1, [.ref q_now_consents_refused])), (q_now_consents_refused, .inl (C 2, 36, .inl z.2.2.2.2.2.1)), (q_now_trail, .inr (5, [.ref q_now_trail_numbers, .int u_now_trail_room, .int z.2.2.2.2.2.2.1])), (q_now_trail_numbers, .inl (C 0, n_now_trail_numbers, .inl z.2.2.2.2.2.2.2.1)), (q_rings, .inr (4, [.ref q_rings_steps, .ref q_rings_path, .ref q_rings_taken, .int z.2.2.2.2.2.2.2.2.1, .int z.2.2.2.2.2.2.2.2.2.1, .int z.2.2.2.2.2.2.2.2.2.2.1, .int z.2.2.2.2.2.2.2.2.2.2.2.1])), (q_rings_steps, .inl (C 0, 36, .inl z.2.2.2.2.2.2.2.2.2.2.2.2.1)), (q_rings_path, .inl (C 0, 6, .inl z.2.2.2.2.2.2.2.2.2.2.2.2.2.1)), (q_rings_taken, .inl (C 0, 6, .inl z.2.2.2.2.2.2.2.2.2.2.2.2.2.2)), (q_text, .inr (7, [.ref q_text_signs, .int u_text_size])), (q_text_signs, .inl (C 3, 100, .inl u_text_signs))] (some (.int z.1)) := by
  refine Ct_of (by decide) (Nat.le_of_ble_eq_true rfl) ?_
  intro p e R s m args below meth c A Q H locs ls cx hw hl hret
  have cx : CX p m c s args RX8 cX8_doClause 4 D C A R 14 := cx
  have hx := cx.1
  have hb := cx.2.1
  have hl : lv_has ls 4 [(0, .ref q_), (1, .int x1)] := hl
  rw [fX8_doClause.eq_1] at hF
  refine lv_aload_n hx hb dX8_doClause_0 rfl (lv_at hl 0 rfl) ?_
  refine r_get (ci := 8) (v := .ref q_text) cx hw iX8 0 6 rfl rfl (by decide) wf_X8_49 rfl dX8_doClause_1 ?_
  refine lv_iload_n hx hb dX8_doClause_4 rfl (lv_at hl 1 rfl) ?_
  refine lv_iconst (v := 1) hx hb dX8_doClause_5 (by decide) ?_
  refine lv_iadd hx hb dX8_doClause_6 ?_
  obtain ⟨z1, hz1, hF⟩ := ob hF
  refine cV (wr := [(q_, .inr (8, [.ref q_now, .ref q_kept, .int u_isKept, .ref q_supposed, .ref q_rings, .ref q_netting, .ref q_text, .ref q_tapes])), (q_now, .inr (0, [.int u_now_people, .ref q_now_debts, .ref q_now_consents, .ref q_now_trail, .ref q_now_seen, .ref q_now_events, .ref q_now_book])), (q_now_debts, .inr (2, [.ref q_now_debts_owed, .ref q_now_debts_order, .int u_now_debts_size])), (q_now_debts_owed, .inl (C 0, 36, .inl u_now_debts_owed)), (q_now_debts_order, .inl (C 0, 36, .inl u_now_debts_order)), (q_now_consents, .inr (1, [.ref q_now_consents_refused])), (q_now_consents_refused, .inl (C 2, 36, .inl u_now_consents_refused)), (q_now_trail, .inr (5, [.ref q_now_trail_numbers, .int u_now_trail_room, .int u_now_trail_size])), (q_now_trail_numbers, .inl (C 0, n_now_trail_numbers, .inl u_now_trail_numbers)), (q_rings, .inr (4, [.ref q_rings_steps, .ref q_rings_path, .ref q_rings_taken, .int u_rings_rule, .int u_rings_found, .int u_rings_size, .int u_rings_least])), (q_rings_steps, .inl (C 0, 36, .inl u_rings_steps)), (q_rings_path, .inl (C 0, 6, .inl u_rings_path)), (q_rings_taken, .inl (C 0, 6, .inl u_rings_taken))]) (w2 := [(q_, .inr (8, [.ref q_now, .ref q_kept, .int u_isKept, .ref q_supposed, .ref q_rings, .ref q_netting, .ref q_text, .ref q_tapes])), (q_now, .inr (0, [.int u_now_people, .ref q_now_debts, .ref q_now_consents, .ref q_now_trail, .ref q_now_seen, .ref q_now_events, .ref q_now_book])), (q_now_debts, .inr (2, [.ref q_now_debts_owed, .ref q_now_debts_order, .int u_now_debts_size])), (q_now_debts_owed, .inl (C 0, 36, .inl u_now_debts_owed)), (q_now_debts_order, .inl (C 0, 36, .inl u_now_debts_order)), (q_now_consents, .inr (1, [.ref q_now_consents_refused])), (q_now_consents_refused, .inl (C 2, 36, .inl u_now_consents_refused)), (q_now_trail, .inr (5, [.ref q_now_trail_numbers, .int u_now_trail_room, .int u_now_trail_size])), (q_now_trail_numbers, .inl (C 0, n_now_trail_numbers, .inl u_now_trail_numbers)), (q_rings, .inr (4, [.ref q_rings_steps, .ref q_rings_path, .ref q_rings_taken, .int u_rings_rule, .int u_rings_found, .int u_rings_size, .int u_rings_least])), (q_rings_steps, .inl (C 0, 36, .inl u_rings_steps)), (q_rings_path, .inl (C 0, 6, .inl u_rings_path)), (q_rings_taken, .inl (C 0, 6, .inl u_rings_taken)), (q_text, .inr (7, [.ref q_text_signs, .int u_text_size])), (q_text_signs, .inl (C 3, 100, .inl u_text_signs))]) (st2 := [.int z1]) cx (CX7_digitAt l D C q_text q_text_signs u_text_size u_text_signs (x1 + 1) z1 hz1) lk_X8_277 my_X7_digitAt ml_X7_digitAt ⟨by decide, by decide⟩ hw [13, 14] [0, 1, 2, 3, 4, 5, 6, 7, 8, 9, 10, 11, 12] [0, 1, 2, 3, 4, 5, 6, 7, 8, 9, 10, 11, 12, 13, 14] rfl rfl (by decide) rfl rfl rfl rfl (Nat.le_of_ble_eq_true rfl) dX8_doClause_7 rfl (fun H locs hw => ?_) hl.1
  refine lv_istore_n (lv' := [(2, .int z1), (0, .ref q_), (1, .int x1)]) hx hb dX8_doClause_10 rfl hl (by decide) rfl (fun ls hl => ?_)
  refine lv_aload_n hx hb dX8_doClause_11 rfl (lv_at hl 1 rfl) ?_
  refine r_get (ci := 8) (v := .ref q_text) cx hw iX8 0 6 rfl rfl (by decide) wf_X8_49 rfl dX8_doClause_12 ?_
  refine lv_iload_n hx hb dX8_doClause_15 rfl (lv_at hl 2 rfl) ?_
  refine lv_iconst (v := 2) hx hb dX8_doClause_16 (by decide) ?_
  refine lv_iadd hx hb dX8_doClause_17 ?_
  obtain ⟨z2, hz2, hF⟩ := ob hF
  refine cV (wr := [(q_, .inr (8, [.ref q_now, .ref q_kept, .int u_isKept, .ref q_supposed, .ref q_rings, .ref q_netting, .ref q_text, .ref q_tapes])), (q_now, .inr (0, [.int u_now_people, .ref q_now_debts, .ref q_now_consents, .ref q_now_trail, .ref q_now_seen, .ref q_now_events, .ref q_now_book])), (q_now_debts, .inr (2, [.ref q_now_debts_owed, .ref q_now_debts_order, .int u_now_debts_size])), (q_now_debts_owed, .inl (C 0, 36, .inl u_now_debts_owed)), (q_now_debts_order, .inl (C 0, 36, .inl u_now_debts_order)), (q_now_consents, .inr (1, [.ref q_now_consents_refused])), (q_now_consents_refused, .inl (C 2, 36, .inl u_now_consents_refused)), (q_now_trail, .inr (5, [.ref q_now_trail_numbers, .int u_now_trail_room, .int u_now_trail_size])), (q_now_trail_numbers, .inl (C 0, n_now_trail_numbers, .inl u_now_trail_numbers)), (q_rings, .inr (4, [.ref q_rings_steps, .ref q_rings_path, .ref q_rings_taken, .int u_rings_rule, .int u_rings_found, .int u_rings_size, .int u_rings_least])), (q_rings_steps, .inl (C 0, 36, .inl u_rings_steps)), (q_rings_path, .inl (C 0, 6, .inl u_rings_path)), (q_rings_taken, .inl (C 0, 6, .inl u_rings_taken))]) (w2 := [(q_, .inr (8, [.ref q_now, .ref q_kept, .int u_isKept, .ref q_supposed, .ref q_rings, .ref q_netting, .ref q_text, .ref q_tapes])), (q_now, .inr (0, [.int u_now_people, .ref q_now_debts, .ref q_now_consents, .ref q_now_trail, .ref q_now_seen, .ref q_now_events, .ref q_now_book])), (q_now_debts, .inr (2, [.ref q_now_debts_owed, .ref q_now_debts_order, .int u_now_debts_size])), (q_now_debts_owed, .inl (C 0, 36, .inl u_now_debts_owed)), (q_now_debts_order, .inl (C 0, 36, .inl u_now_debts_order)), (q_now_consents, .inr (1, [.ref q_now_consents_refused])), (q_now_consents_refused, .inl (C 2, 36, .inl u_now_consents_refused)), (q_now_trail, .inr (5, [.ref q_now_trail_numbers, .int u_now_trail_room, .int u_now_trail_size])), (q_now_trail_numbers, .inl (C 0, n_now_trail_numbers, .inl u_now_trail_numbers)), (q_rings, .inr (4, [.ref q_rings_steps, .ref q_rings_path, .ref q_rings_taken, .int u_rings_rule, .int u_rings_found, .int u_rings_size, .int u_rings_least])), (q_rings_steps, .inl (C 0, 36, .inl u_rings_steps)), (q_rings_path, .inl (C 0, 6, .inl u_rings_path)), (q_rings_taken, .inl (C 0, 6, .inl u_rings_taken)), (q_text, .inr (7, [.ref q_text_signs, .int u_text_size])), (q_text_signs, .inl (C 3, 100, .inl u_text_signs))]) (st2 := [.int z2]) cx (CX7_digitAt l D C q_text q_text_signs u_text_size u_text_signs (x1 + 2) z2 hz2) lk_X8_277 my_X7_digitAt ml_X7_digitAt ⟨by decide, by decide⟩ hw [13, 14] [0, 1, 2, 3, 4, 5, 6, 7, 8, 9, 10, 11, 12] [0, 1, 2, 3, 4, 5, 6, 7, 8, 9, 10, 11, 12, 13, 14] rfl rfl (by decide) rfl rfl rfl rfl (Nat.le_of_ble_eq_true rfl) dX8_doClause_18 rfl (fun H locs hw => ?_) hl.1
  refine lv_istore_n (lv' := [(3, .int z2), (2, .int z1), (0, .ref q_), (1, .int x1)]) hx hb dX8_doClause_21 rfl hl (by decide) rfl (fun ls hl => ?_)
  refine lv_aload_n hx hb dX8_doClause_22 rfl (lv_at hl 2 rfl) ?_
  refine r_get (ci := 8) (v := .ref q_text) cx hw iX8 0 6 rfl rfl (by decide) wf_X8_49 rfl dX8_doClause_23 ?_
  refine lv_iload_n hx hb dX8_doClause_26 rfl (lv_at hl 3 rfl) ?_
  obtain ⟨z3, hz3, hF⟩ := ob hF
  refine cV (wr := [(q_, .inr (8, [.ref q_now, .ref q_kept, .int u_isKept, .ref q_supposed, .ref q_rings, .ref q_netting, .ref q_text, .ref q_tapes])), (q_now, .inr (0, [.int u_now_people, .ref q_now_debts, .ref q_now_consents, .ref q_now_trail, .ref q_now_seen, .ref q_now_events, .ref q_now_book])), (q_now_debts, .inr (2, [.ref q_now_debts_owed, .ref q_now_debts_order, .int u_now_debts_size])), (q_now_debts_owed, .inl (C 0, 36, .inl u_now_debts_owed)), (q_now_debts_order, .inl (C 0, 36, .inl u_now_debts_order)), (q_now_consents, .inr (1, [.ref q_now_consents_refused])), (q_now_consents_refused, .inl (C 2, 36, .inl u_now_consents_refused)), (q_now_trail, .inr (5, [.ref q_now_trail_numbers, .int u_now_trail_room, .int u_now_trail_size])), (q_now_trail_numbers, .inl (C 0, n_now_trail_numbers, .inl u_now_trail_numbers)), (q_rings, .inr (4, [.ref q_rings_steps, .ref q_rings_path, .ref q_rings_taken, .int u_rings_rule, .int u_rings_found, .int u_rings_size, .int u_rings_least])), (q_rings_steps, .inl (C 0, 36, .inl u_rings_steps)), (q_rings_path, .inl (C 0, 6, .inl u_rings_path)), (q_rings_taken, .inl (C 0, 6, .inl u_rings_taken))]) (w2 := [(q_, .inr (8, [.ref q_now, .ref q_kept, .int u_isKept, .ref q_supposed, .ref q_rings, .ref q_netting, .ref q_text, .ref q_tapes])), (q_now, .inr (0, [.int u_now_people, .ref q_now_debts, .ref q_now_consents, .ref q_now_trail, .ref q_now_seen, .ref q_now_events, .ref q_now_book])), (q_now_debts, .inr (2, [.ref q_now_debts_owed, .ref q_now_debts_order, .int u_now_debts_size])), (q_now_debts_owed, .inl (C 0, 36, .inl u_now_debts_owed)), (q_now_debts_order, .inl (C 0, 36, .inl u_now_debts_order)), (q_now_consents, .inr (1, [.ref q_now_consents_refused])), (q_now_consents_refused, .inl (C 2, 36, .inl u_now_consents_refused)), (q_now_trail, .inr (5, [.ref q_now_trail_numbers, .int u_now_trail_room, .int u_now_trail_size])), (q_now_trail_numbers, .inl (C 0, n_now_trail_numbers, .inl u_now_trail_numbers)), (q_rings, .inr (4, [.ref q_rings_steps, .ref q_rings_path, .ref q_rings_taken, .int u_rings_rule, .int u_rings_found, .int u_rings_size, .int u_rings_least])), (q_rings_steps, .inl (C 0, 36, .inl u_rings_steps)), (q_rings_path, .inl (C 0, 6, .inl u_rings_path)), (q_rings_taken, .inl (C 0, 6, .inl u_rings_taken)), (q_text, .inr (7, [.ref q_text_signs, .int u_text_size])), (q_text_signs, .inl (C 3, 100, .inl u_text_signs))]) (st2 := [.int z3]) cx (CX7_signAt l D C q_text q_text_signs u_text_size u_text_signs x1 z3 hz3) lk_X8_280 my_X7_signAt ml_X7_signAt ⟨by decide, by decide⟩ hw [13, 14] [0, 1, 2, 3, 4, 5, 6, 7, 8, 9, 10, 11, 12] [0, 1, 2, 3, 4, 5, 6, 7, 8, 9, 10, 11, 12, 13, 14] rfl rfl (by decide) rfl rfl rfl rfl (Nat.le_of_ble_eq_true rfl) dX8_doClause_27 rfl (fun H locs hw => ?_) hl.1
  by_cases c4 : z3 = 99
  · replace hF := oi_t c4 hF
    refine lv_lookup (tgt := 150) (off := 120) hx hb dX8_doClause_30 (by decide) (by rw [c4]; decide +kernel) (by decide) ?_
    refine lv_aload_n hx hb dX8_doClause_150 rfl (lv_at hl 2 rfl) ?_
    refine lv_iload_n hx hb dX8_doClause_151 rfl (lv_at hl 1 rfl) ?_
    refine lv_iconst (v := 1) hx hb dX8_doClause_152 (by decide) ?_
    obtain ⟨z5, hz5, hF⟩ := ob hF
    refine cV (wr := [(q_text, .inr (7, [.ref q_text_signs, .int u_text_size])), (q_text_signs, .inl (C 3, 100, .inl u_text_signs))]) (w2 := [(q_, .inr (8, [.ref q_now, .ref q_kept, .int u_isKept, .ref q_supposed, .ref q_rings, .ref q_netting, .ref q_text, .ref q_tapes])), (q_now, .inr (0, [.int u_now_people, .ref q_now_debts, .ref q_now_consents, .ref q_now_trail, .ref q_now_seen, .ref q_now_events, .ref q_now_book])), (q_now_debts, .inr (2, [.ref q_now_debts_owed, .ref q_now_debts_order, .int z5.2.1])), (q_now_debts_owed, .inl (C 0, 36, .inl z5.2.2.1)), (q_now_debts_order, .inl (C 0, 36, .inl z5.2.2.2.1)), (q_now_consents, .inr (1, [.ref q_now_consents_refused])), (q_now_consents_refused, .inl (C 2, 36, .inl u_now_consents_refused)), (q_now_trail, .inr (5, [.ref q_now_trail_numbers, .int u_now_trail_room, .int z5.2.2.2.2.1])), (q_now_trail_numbers, .inl (C 0, n_now_trail_numbers, .inl z5.2.2.2.2.2.1)), (q_rings, .inr (4, [.ref q_rings_steps, .ref q_rings_path, .ref q_rings_taken, .int z5.2.2.2.2.2.2.1, .int z5.2.2.2.2.2.2.2.1, .int z5.2.2.2.2.2.2.2.2.1, .int z5.2.2.2.2.2.2.2.2.2.1])), (q_rings_steps, .inl (C 0, 36, .inl z5.2.2.2.2.2.2.2.2.2.2.1)), (q_rings_path, .inl (C 0, 6, .inl z5.2.2.2.2.2.2.2.2.2.2.2.1)), (q_rings_taken, .inl (C 0, 6, .inl z5.2.2.2.2.2.2.2.2.2.2.2.2)), (q_text, .inr (7, [.ref q_text_signs, .int u_text_size])), (q_text_signs, .inl (C 3, 100, .inl u_text_signs))]) (st2 := [.int z5.1]) cx (CX8_cut l D C q_ q_now q_kept q_supposed q_rings q_netting q_text q_tapes q_now_debts q_now_consents q_now_trail q_now_seen q_now_events q_now_book q_now_debts_owed q_now_debts_order q_now_consents_refused q_now_trail_numbers q_rings_steps q_rings_path q_rings_taken n_now_trail_numbers u_isKept u_now_people u_now_debts_size u_now_debts_owed u_now_debts_order u_now_consents_refused u_now_trail_room u_now_trail_size u_now_trail_numbers u_rings_rule u_rings_found u_rings_size u_rings_least u_rings_steps u_rings_path u_rings_taken z1 1 z5 hz5) lk_X8_296 my_X8_cut ml_X8_cut ⟨by decide, by decide⟩ hw [0, 1, 2, 3, 4, 5, 6, 7, 8, 9, 10, 11, 12] [13, 14] [2, 3, 4, 5, 6, 7, 8, 9, 10, 11, 12, 13, 14, 0, 1] rfl rfl (by decide) rfl rfl rfl rfl (Nat.le_of_ble_eq_true rfl) dX8_doClause_153 rfl (fun H locs hw => ?_) hl.1
    refine lv_iconst (v := 1) hx hb dX8_doClause_156 (by decide) ?_
    refine lv_icmp_ne (tgt := 164) hx hb dX8_doClause_157 (by decide) (fun c6 => ?_) (fun c6 => ?_)
    · replace hF := oi_f c6 hF
      refine lv_iconst (v := 0) hx hb dX8_doClause_164 (by decide) ?_
      obtain rfl := Option.some.inj hF
      exact rt_z hret hw rfl rfl dX8_doClause_165
    · replace hF := oi_t c6 hF
      refine lv_iconst (v := 1) hx hb dX8_doClause_160 (by decide) ?_
      refine lv_goto (tgt := 165) hx hb dX8_doClause_161 (by decide) ?_
      obtain rfl := Option.some.inj hF
      exact rt_z hret hw rfl rfl dX8_doClause_165
  replace hF := oi_f c4 hF
  by_cases c7 : z3 = 110
  · replace hF := oi_t c7 hF
    refine lv_lookup (tgt := 118) (off := 88) hx hb dX8_doClause_30 (by decide) (by rw [c7]; decide +kernel) (by decide) ?_
    refine lv_aload_n hx hb dX8_doClause_118 rfl (lv_at hl 2 rfl) ?_
    refine lv_iload_n hx hb dX8_doClause_119 rfl (lv_at hl 1 rfl) ?_
    refine lv_iload_n hx hb dX8_doClause_120 rfl (lv_at hl 0 rfl) ?_
    refine lv_iconst (v := 0) hx hb dX8_doClause_121 (by decide) ?_
    obtain ⟨z8, hz8, hF⟩ := ob hF
    refine cV (wr := [(q_now_debts, .inr (2, [.ref q_now_debts_owed, .ref q_now_debts_order, .int u_now_debts_size])), (q_now_debts_owed, .inl (C 0, 36, .inl u_now_debts_owed)), (q_now_debts_order, .inl (C 0, 36, .inl u_now_debts_order)), (q_now_trail, .inr (5, [.ref q_now_trail_numbers, .int u_now_trail_room, .int u_now_trail_size])), (q_now_trail_numbers, .inl (C 0, n_now_trail_numbers, .inl u_now_trail_numbers)), (q_rings, .inr (4, [.ref q_rings_steps, .ref q_rings_path, .ref q_rings_taken, .int u_rings_rule, .int u_rings_found, .int u_rings_size, .int u_rings_least])), (q_rings_steps, .inl (C 0, 36, .inl u_rings_steps)), (q_rings_path, .inl (C 0, 6, .inl u_rings_path)), (q_rings_taken, .inl (C 0, 6, .inl u_rings_taken)), (q_text, .inr (7, [.ref q_text_signs, .int u_text_size])), (q_text_signs, .inl (C 3, 100, .inl u_text_signs))]) (w2 := [(q_, .inr (8, [.ref q_now, .ref q_kept, .int u_isKept, .ref q_supposed, .ref q_rings, .ref q_netting, .ref q_text, .ref q_tapes])), (q_now, .inr (0, [.int u_now_people, .ref q_now_debts, .ref q_now_consents, .ref q_now_trail, .ref q_now_seen, .ref q_now_events, .ref q_now_book])), (q_now_debts, .inr (2, [.ref q_now_debts_owed, .ref q_now_debts_order, .int u_now_debts_size])), (q_now_debts_owed, .inl (C 0, 36, .inl u_now_debts_owed)), (q_now_debts_order, .inl (C 0, 36, .inl u_now_debts_order)), (q_now_consents, .inr (1, [.ref q_now_consents_refused])), (q_now_consents_refused, .inl (C 2, 36, .inl z8.2)), (q_now_trail, .inr (5, [.ref q_now_trail_numbers, .int u_now_trail_room, .int u_now_trail_size])), (q_now_trail_numbers, .inl (C 0, n_now_trail_numbers, .inl u_now_trail_numbers)), (q_rings, .inr (4, [.ref q_rings_steps, .ref q_rings_path, .ref q_rings_taken, .int u_rings_rule, .int u_rings_found, .int u_rings_size, .int u_rings_least])), (q_rings_steps, .inl (C 0, 36, .inl u_rings_steps)), (q_rings_path, .inl (C 0, 6, .inl u_rings_path)), (q_rings_taken, .inl (C 0, 6, .inl u_rings_taken)), (q_text, .inr (7, [.ref q_text_signs, .int u_text_size])), (q_text_signs, .inl (C 3, 100, .inl u_text_signs))]) (st2 := [.int z8.1]) cx (CX8_consent l D C q_ q_now q_kept q_supposed q_rings q_netting q_text q_tapes q_now_debts q_now_consents q_now_trail q_now_seen q_now_events q_now_book q_now_consents_refused u_isKept u_now_people u_now_consents_refused z1 z2 0 z8 hz8) lk_X8_292 my_X8_consent ml_X8_consent ⟨by decide, by decide⟩ hw [0, 1, 5, 6] [2, 3, 4, 7, 8, 9, 10, 11, 12, 13, 14] [11, 12, 0, 1, 2, 13, 14, 3, 4, 5, 6, 7, 8, 9, 10] rfl rfl (by decide) rfl rfl rfl rfl (Nat.le_of_ble_eq_true rfl) dX8_doClause_122 rfl (fun H locs hw => ?_) hl.1
    refine lv_if_lt (tgt := 132) hx hb dX8_doClause_125 (by decide) (fun c9 => ?_) (fun c9 => ?_)
    · replace hF := oi_t c9 hF
      refine lv_iconst (v := 0) hx hb dX8_doClause_132 (by decide) ?_
      obtain rfl := Option.some.inj hF
      exact rt_z hret hw rfl rfl dX8_doClause_133
    · replace hF := oi_f c9 hF
      refine lv_iconst (v := 1) hx hb dX8_doClause_128 (by decide) ?_
      refine lv_goto (tgt := 133) hx hb dX8_doClause_129 (by decide) ?_
      obtain rfl := Option.some.inj hF
      exact rt_z hret hw rfl rfl dX8_doClause_133
  replace hF := oi_f c7 hF
  by_cases c10 : z3 = 111
  · replace hF := oi_t c10 hF
    refine lv_lookup (tgt := 93) (off := 63) hx hb dX8_doClause_30 (by decide) (by rw [c10]; decide +kernel) (by decide) ?_
    refine lv_aload_n hx hb dX8_doClause_93 rfl (lv_at hl 2 rfl) ?_
    refine lv_iload_n hx hb dX8_doClause_94 rfl (lv_at hl 1 rfl) ?_
    refine lv_iload_n hx hb dX8_doClause_95 rfl (lv_at hl 0 rfl) ?_
    refine lv_aload_n hx hb dX8_doClause_96 rfl (lv_at hl 2 rfl) ?_
    refine r_get (ci := 8) (v := .ref q_text) cx hw iX8 0 6 rfl rfl (by decide) wf_X8_49 rfl dX8_doClause_97 ?_
    refine lv_iload_n hx hb dX8_doClause_100 rfl (lv_at hl 3 rfl) ?_
    refine lv_iconst (v := 3) hx hb dX8_doClause_101 (by decide) ?_
    refine lv_iadd hx hb dX8_doClause_102 ?_
    obtain ⟨z11, hz11, hF⟩ := ob hF
    refine cV (wr := [(q_, .inr (8, [.ref q_now, .ref q_kept, .int u_isKept, .ref q_supposed, .ref q_rings, .ref q_netting, .ref q_text, .ref q_tapes])), (q_now, .inr (0, [.int u_now_people, .ref q_now_debts, .ref q_now_consents, .ref q_now_trail, .ref q_now_seen, .ref q_now_events, .ref q_now_book])), (q_now_debts, .inr (2, [.ref q_now_debts_owed, .ref q_now_debts_order, .int u_now_debts_size])), (q_now_debts_owed, .inl (C 0, 36, .inl u_now_debts_owed)), (q_now_debts_order, .inl (C 0, 36, .inl u_now_debts_order)), (q_now_consents, .inr (1, [.ref q_now_consents_refused])), (q_now_consents_refused, .inl (C 2, 36, .inl u_now_consents_refused)), (q_now_trail, .inr (5, [.ref q_now_trail_numbers, .int u_now_trail_room, .int u_now_trail_size])), (q_now_trail_numbers, .inl (C 0, n_now_trail_numbers, .inl u_now_trail_numbers)), (q_rings, .inr (4, [.ref q_rings_steps, .ref q_rings_path, .ref q_rings_taken, .int u_rings_rule, .int u_rings_found, .int u_rings_size, .int u_rings_least])), (q_rings_steps, .inl (C 0, 36, .inl u_rings_steps)), (q_rings_path, .inl (C 0, 6, .inl u_rings_path)), (q_rings_taken, .inl (C 0, 6, .inl u_rings_taken))]) (w2 := [(q_, .inr (8, [.ref q_now, .ref q_kept, .int u_isKept, .ref q_supposed, .ref q_rings, .ref q_netting, .ref q_text, .ref q_tapes])), (q_now, .inr (0, [.int u_now_people, .ref q_now_debts, .ref q_now_consents, .ref q_now_trail, .ref q_now_seen, .ref q_now_events, .ref q_now_book])), (q_now_debts, .inr (2, [.ref q_now_debts_owed, .ref q_now_debts_order, .int u_now_debts_size])), (q_now_debts_owed, .inl (C 0, 36, .inl u_now_debts_owed)), (q_now_debts_order, .inl (C 0, 36, .inl u_now_debts_order)), (q_now_consents, .inr (1, [.ref q_now_consents_refused])), (q_now_consents_refused, .inl (C 2, 36, .inl u_now_consents_refused)), (q_now_trail, .inr (5, [.ref q_now_trail_numbers, .int u_now_trail_room, .int u_now_trail_size])), (q_now_trail_numbers, .inl (C 0, n_now_trail_numbers, .inl u_now_trail_numbers)), (q_rings, .inr (4, [.ref q_rings_steps, .ref q_rings_path, .ref q_rings_taken, .int u_rings_rule, .int u_rings_found, .int u_rings_size, .int u_rings_least])), (q_rings_steps, .inl (C 0, 36, .inl u_rings_steps)), (q_rings_path, .inl (C 0, 6, .inl u_rings_path)), (q_rings_taken, .inl (C 0, 6, .inl u_rings_taken)), (q_text, .inr (7, [.ref q_text_signs, .int u_text_size])), (q_text_signs, .inl (C 3, 100, .inl u_text_signs))]) (st2 := [.int z11, .int z2, .int z1, .ref q_]) cx (CX7_amountAt l D C q_text q_text_signs u_text_size u_text_signs (x1 + 3) z11 hz11) lk_X8_286 my_X7_amountAt ml_X7_amountAt ⟨by decide, by decide⟩ hw [13, 14] [0, 1, 2, 3, 4, 5, 6, 7, 8, 9, 10, 11, 12] [0, 1, 2, 3, 4, 5, 6, 7, 8, 9, 10, 11, 12, 13, 14] rfl rfl (by decide) rfl rfl rfl rfl (Nat.le_of_ble_eq_true rfl) dX8_doClause_103 rfl (fun H locs hw => ?_) hl.1
    obtain ⟨z12, hz12, hF⟩ := ob hF
    refine cV (wr := [(q_now_consents, .inr (1, [.ref q_now_consents_refused])), (q_now_consents_refused, .inl (C 2, 36, .inl u_now_consents_refused)), (q_now_trail, .inr (5, [.ref q_now_trail_numbers, .int u_now_trail_room, .int u_now_trail_size])), (q_now_trail_numbers, .inl (C 0, n_now_trail_numbers, .inl u_now_trail_numbers)), (q_rings, .inr (4, [.ref q_rings_steps, .ref q_rings_path, .ref q_rings_taken, .int u_rings_rule, .int u_rings_found, .int u_rings_size, .int u_rings_least])), (q_rings_steps, .inl (C 0, 36, .inl u_rings_steps)), (q_rings_path, .inl (C 0, 6, .inl u_rings_path)), (q_rings_taken, .inl (C 0, 6, .inl u_rings_taken)), (q_text, .inr (7, [.ref q_text_signs, .int u_text_size])), (q_text_signs, .inl (C 3, 100, .inl u_text_signs))]) (w2 := [(q_, .inr (8, [.ref q_now, .ref q_kept, .int u_isKept, .ref q_supposed, .ref q_rings, .ref q_netting, .ref q_text, .ref q_tapes])), (q_now, .inr (0, [.int u_now_people, .ref q_now_debts, .ref q_now_consents, .ref q_now_trail, .ref q_now_seen, .ref q_now_events, .ref q_now_book])), (q_now_debts, .inr (2, [.ref q_now_debts_owed, .ref q_now_debts_order, .int z12.2.1])), (q_now_debts_owed, .inl (C 0, 36, .inl z12.2.2.1)), (q_now_debts_order, .inl (C 0, 36, .inl z12.2.2.2)), (q_now_consents, .inr (1, [.ref q_now_consents_refused])), (q_now_consents_refused, .inl (C 2, 36, .inl u_now_consents_refused)), (q_now_trail, .inr (5, [.ref q_now_trail_numbers, .int u_now_trail_room, .int u_now_trail_size])), (q_now_trail_numbers, .inl (C 0, n_now_trail_numbers, .inl u_now_trail_numbers)), (q_rings, .inr (4, [.ref q_rings_steps, .ref q_rings_path, .ref q_rings_taken, .int u_rings_rule, .int u_rings_found, .int u_rings_size, .int u_rings_least])), (q_rings_steps, .inl (C 0, 36, .inl u_rings_steps)), (q_rings_path, .inl (C 0, 6, .inl u_rings_path)), (q_rings_taken, .inl (C 0, 6, .inl u_rings_taken)), (q_text, .inr (7, [.ref q_text_signs, .int u_text_size])), (q_text_signs, .inl (C 3, 100, .inl u_text_signs))]) (st2 := [.int z12.1]) cx (CX8_owe l D C q_ q_now q_kept q_supposed q_rings q_netting q_text q_tapes q_now_debts q_now_consents q_now_trail q_now_seen q_now_events q_now_book q_now_debts_owed q_now_debts_order u_isKept u_now_people u_now_debts_size u_now_debts_owed u_now_debts_order z1 z2 z11 z12 hz12) lk_X8_289 my_X8_owe ml_X8_owe ⟨by decide, by decide⟩ hw [0, 1, 2, 3, 4] [5, 6, 7, 8, 9, 10, 11, 12, 13, 14] [10, 11, 12, 13, 14, 0, 1, 2, 3, 4, 5, 6, 7, 8, 9] rfl rfl (by decide) rfl rfl rfl rfl (Nat.le_of_ble_eq_true rfl) dX8_doClause_106 rfl (fun H locs hw => ?_) hl.1
    refine lv_if_lt (tgt := 116) hx hb dX8_doClause_109 (by decide) (fun c13 => ?_) (fun c13 => ?_)
    · replace hF := oi_t c13 hF
      refine lv_iconst (v := 0) hx hb dX8_doClause_116 (by decide) ?_
      obtain rfl := Option.some.inj hF
      exact rt_z hret hw rfl rfl dX8_doClause_117
    · replace hF := oi_f c13 hF
      refine lv_iconst (v := 1) hx hb dX8_doClause_112 (by decide) ?_
      refine lv_goto (tgt := 117) hx hb dX8_doClause_113 (by decide) ?_
      obtain rfl := Option.some.inj hF
      exact rt_z hret hw rfl rfl dX8_doClause_117
  replace hF := oi_f c10 hF
  by_cases c14 : z3 = 112
  · replace hF := oi_t c14 hF
    refine lv_lookup (tgt := 80) (off := 50) hx hb dX8_doClause_30 (by decide) (by rw [c14]; decide +kernel) (by decide) ?_
    refine lv_aload_n hx hb dX8_doClause_80 rfl (lv_at hl 2 rfl) ?_
    obtain ⟨z15, hz15, hF⟩ := ob hF
    refine cV (wr := [(q_now_debts, .inr (2, [.ref q_now_debts_owed, .ref q_now_debts_order, .int u_now_debts_size])), (q_now_debts_owed, .inl (C 0, 36, .inl u_now_debts_owed)), (q_now_debts_order, .inl (C 0, 36, .inl u_now_debts_order)), (q_now_consents, .inr (1, [.ref q_now_consents_refused])), (q_now_consents_refused, .inl (C 2, 36, .inl u_now_consents_refused)), (q_now_trail, .inr (5, [.ref q_now_trail_numbers, .int u_now_trail_room, .int u_now_trail_size])), (q_now_trail_numbers, .inl (C 0, n_now_trail_numbers, .inl u_now_trail_numbers)), (q_rings, .inr (4, [.ref q_rings_steps, .ref q_rings_path, .ref q_rings_taken, .int u_rings_rule, .int u_rings_found, .int u_rings_size, .int u_rings_least])), (q_rings_steps, .inl (C 0, 36, .inl u_rings_steps)), (q_rings_path, .inl (C 0, 6, .inl u_rings_path)), (q_rings_taken, .inl (C 0, 6, .inl u_rings_taken)), (q_text, .inr (7, [.ref q_text_signs, .int u_text_size])), (q_text_signs, .inl (C 3, 100, .inl u_text_signs))]) (w2 := [(q_, .inr (8, [.ref q_now, .ref q_kept, .int u_isKept, .ref q_supposed, .ref q_rings, .ref q_netting, .ref q_text, .ref q_tapes])), (q_now, .inr (0, [.int z15.2, .ref q_now_debts, .ref q_now_consents, .ref q_now_trail, .ref q_now_seen, .ref q_now_events, .ref q_now_book])), (q_now_debts, .inr (2, [.ref q_now_debts_owed, .ref q_now_debts_order, .int u_now_debts_size])), (q_now_debts_owed, .inl (C 0, 36, .inl u_now_debts_owed)), (q_now_debts_order, .inl (C 0, 36, .inl u_now_debts_order)), (q_now_consents, .inr (1, [.ref q_now_consents_refused])), (q_now_consents_refused, .inl (C 2, 36, .inl u_now_consents_refused)), (q_now_trail, .inr (5, [.ref q_now_trail_numbers, .int u_now_trail_room, .int u_now_trail_size])), (q_now_trail_numbers, .inl (C 0, n_now_trail_numbers, .inl u_now_trail_numbers)), (q_rings, .inr (4, [.ref q_rings_steps, .ref q_rings_path, .ref q_rings_taken, .int u_rings_rule, .int u_rings_found, .int u_rings_size, .int u_rings_least])), (q_rings_steps, .inl (C 0, 36, .inl u_rings_steps)), (q_rings_path, .inl (C 0, 6, .inl u_rings_path)), (q_rings_taken, .inl (C 0, 6, .inl u_rings_taken)), (q_text, .inr (7, [.ref q_text_signs, .int u_text_size])), (q_text_signs, .inl (C 3, 100, .inl u_text_signs))]) (st2 := [.int z15.1]) cx (CX8_person l D C q_ q_now q_kept q_supposed q_rings q_netting q_text q_tapes q_now_debts q_now_consents q_now_trail q_now_seen q_now_events q_now_book u_isKept u_now_people z15 hz15) lk_X8_283 my_X8_person ml_X8_person ⟨by decide, by decide⟩ hw [0, 1] [2, 3, 4, 5, 6, 7, 8, 9, 10, 11, 12, 13, 14] [13, 14, 0, 1, 2, 3, 4, 5, 6, 7, 8, 9, 10, 11, 12] rfl rfl (by decide) rfl rfl rfl rfl (Nat.le_of_ble_eq_true rfl) dX8_doClause_81 rfl (fun H locs hw => ?_) hl.1
    refine lv_if_lt (tgt := 91) hx hb dX8_doClause_84 (by decide) (fun c16 => ?_) (fun c16 => ?_)
    · replace hF := oi_t c16 hF
      refine lv_iconst (v := 0) hx hb dX8_doClause_91 (by decide) ?_
      obtain rfl := Option.some.inj hF
      exact rt_z hret hw rfl rfl dX8_doClause_92
    · replace hF := oi_f c16 hF
      refine lv_iconst (v := 1) hx hb dX8_doClause_87 (by decide) ?_
      refine lv_goto (tgt := 92) hx hb dX8_doClause_88 (by decide) ?_
      obtain rfl := Option.some.inj hF
      exact rt_z hret hw rfl rfl dX8_doClause_92
  replace hF := oi_f c14 hF
  by_cases c17 : z3 = 121
  · replace hF := oi_t c17 hF
    refine lv_lookup (tgt := 134) (off := 104) hx hb dX8_doClause_30 (by decide) (by rw [c17]; decide +kernel) (by decide) ?_
    refine lv_aload_n hx hb dX8_doClause_134 rfl (lv_at hl 2 rfl) ?_
    refine lv_iload_n hx hb dX8_doClause_135 rfl (lv_at hl 1 rfl) ?_
    refine lv_iload_n hx hb dX8_doClause_136 rfl (lv_at hl 0 rfl) ?_
    refine lv_iconst (v := 1) hx hb dX8_doClause_137 (by decide) ?_
    obtain ⟨z18, hz18, hF⟩ := ob hF
    refine cV (wr := [(q_now_debts, .inr (2, [.ref q_now_debts_owed, .ref q_now_debts_order, .int u_now_debts_size])), (q_now_debts_owed, .inl (C 0, 36, .inl u_now_debts_owed)), (q_now_debts_order, .inl (C 0, 36, .inl u_now_debts_order)), (q_now_trail, .inr (5, [.ref q_now_trail_numbers, .int u_now_trail_room, .int u_now_trail_size])), (q_now_trail_numbers, .inl (C 0, n_now_trail_numbers, .inl u_now_trail_numbers)), (q_rings, .inr (4, [.ref q_rings_steps, .ref q_rings_path, .ref q_rings_taken, .int u_rings_rule, .int u_rings_found, .int u_rings_size, .int u_rings_least])), (q_rings_steps, .inl (C 0, 36, .inl u_rings_steps)), (q_rings_path, .inl (C 0, 6, .inl u_rings_path)), (q_rings_taken, .inl (C 0, 6, .inl u_rings_taken)), (q_text, .inr (7, [.ref q_text_signs, .int u_text_size])), (q_text_signs, .inl (C 3, 100, .inl u_text_signs))]) (w2 := [(q_, .inr (8, [.ref q_now, .ref q_kept, .int u_isKept, .ref q_supposed, .ref q_rings, .ref q_netting, .ref q_text, .ref q_tapes])), (q_now, .inr (0, [.int u_now_people, .ref q_now_debts, .ref q_now_consents, .ref q_now_trail, .ref q_now_seen, .ref q_now_events, .ref q_now_book])), (q_now_debts, .inr (2, [.ref q_now_debts_owed, .ref q_now_debts_order, .int u_now_debts_size])), (q_now_debts_owed, .inl (C 0, 36, .inl u_now_debts_owed)), (q_now_debts_order, .inl (C 0, 36, .inl u_now_debts_order)), (q_now_consents, .inr (1, [.ref q_now_consents_refused])), (q_now_consents_refused, .inl (C 2, 36, .inl z18.2)), (q_now_trail, .inr (5, [.ref q_now_trail_numbers, .int u_now_trail_room, .int u_now_trail_size])), (q_now_trail_numbers, .inl (C 0, n_now_trail_numbers, .inl u_now_trail_numbers)), (q_rings, .inr (4, [.ref q_rings_steps, .ref q_rings_path, .ref q_rings_taken, .int u_rings_rule, .int u_rings_found, .int u_rings_size, .int u_rings_least])), (q_rings_steps, .inl (C 0, 36, .inl u_rings_steps)), (q_rings_path, .inl (C 0, 6, .inl u_rings_path)), (q_rings_taken, .inl (C 0, 6, .inl u_rings_taken)), (q_text, .inr (7, [.ref q_text_signs, .int u_text_size])), (q_text_signs, .inl (C 3, 100, .inl u_text_signs))]) (st2 := [.int z18.1]) cx (CX8_consent l D C q_ q_now q_kept q_supposed q_rings q_netting q_text q_tapes q_now_debts q_now_consents q_now_trail q_now_seen q_now_events q_now_book q_now_consents_refused u_isKept u_now_people u_now_consents_refused z1 z2 1 z18 hz18) lk_X8_292 my_X8_consent ml_X8_consent ⟨by decide, by decide⟩ hw [0, 1, 5, 6] [2, 3, 4, 7, 8, 9, 10, 11, 12, 13, 14] [11, 12, 0, 1, 2, 13, 14, 3, 4, 5, 6, 7, 8, 9, 10] rfl rfl (by decide) rfl rfl rfl rfl (Nat.le_of_ble_eq_true rfl) dX8_doClause_138 rfl (fun H locs hw => ?_) hl.1
    refine lv_if_lt (tgt := 148) hx hb dX8_doClause_141 (by decide) (fun c19 => ?_) (fun c19 => ?_)
    · replace hF := oi_t c19 hF
      refine lv_iconst (v := 0) hx hb dX8_doClause_148 (by decide) ?_
      obtain rfl := Option.some.inj hF
      exact rt_z hret hw rfl rfl dX8_doClause_149
    · replace hF := oi_f c19 hF
      refine lv_iconst (v := 1) hx hb dX8_doClause_144 (by decide) ?_
      refine lv_goto (tgt := 149) hx hb dX8_doClause_145 (by decide) ?_
      obtain rfl := Option.some.inj hF
      exact rt_z hret hw rfl rfl dX8_doClause_149
  replace hF := oi_f c17 hF
  have t4 := ti_ne (n := 99) (by decide) c4
  have t7 := ti_ne (n := 110) (by decide) c7
  have t10 := ti_ne (n := 111) (by decide) c10
  have t14 := ti_ne (n := 112) (by decide) c14
  have t17 := ti_ne (n := 121) (by decide) c17
  refine lv_lookup (tgt := 166) (off := 136) hx hb dX8_doClause_30 (by decide) (by simp only [Op.lookupswitch.offset]; repeat (first | rfl | rw [if_neg (fun h => by omega)])) (by decide) ?_
  refine lv_iconst (v := 0) hx hb dX8_doClause_166 (by decide) ?_
  obtain rfl := Option.some.inj hF
  exact rt_z hret hw rfl rfl dX8_doClause_167
