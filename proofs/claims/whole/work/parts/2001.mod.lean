theorem lk_X9_159 : Cond.methodLink RX9 159 yX9_isIn ∈ gdt := gdt_of 1046 (by decide +kernel) (by decide +kernel)
theorem lk_X9_162 : Cond.methodLink RX9 162 yX9_goes ∈ gdt := gdt_of 1034 (by decide +kernel) (by decide +kernel)
theorem lk_X9_155 : Cond.methodLink RX9 155 yX9_meets ∈ gdt := gdt_of 1038 (by decide +kernel) (by decide +kernel)
theorem my_X9_isIn : (yX9_isIn.cls ≠ "java/lang/invoke/MethodHandle" ∧ yX9_isIn.cls ≠ "java/lang/invoke/VarHandle") ∧ Cond.instanceMethod yX9_isIn ∈ gdt ∧ Cond.selects yX9_isIn.cls yX9_isIn yX9_isIn ∈ gdt ∧ Cond.initialized yX9_isIn.cls ∈ gdt ∧ Cond.code yX9_isIn cX9_isIn 4 (some .boolean) ∈ gdt := ⟨⟨by decide +kernel, by decide +kernel⟩, gdt_of 1048 (by decide +kernel) (by decide +kernel), gdt_of 45 (by decide +kernel) (by decide +kernel), gdt_of 77 (by decide +kernel) (by decide +kernel), gdt_of 1049 (by decide +kernel) (by decide +kernel)⟩
theorem ml_X9_isIn : (parseMethodDescriptor yX9_isIn.desc).map (fun d => d.parameters.length) = some 2 := by decide +kernel
theorem my_X9_goes : (yX9_goes.cls ≠ "java/lang/invoke/MethodHandle" ∧ yX9_goes.cls ≠ "java/lang/invoke/VarHandle") ∧ Cond.instanceMethod yX9_goes ∈ gdt ∧ Cond.selects yX9_goes.cls yX9_goes yX9_goes ∈ gdt ∧ Cond.initialized yX9_goes.cls ∈ gdt ∧ Cond.code yX9_goes cX9_goes 4 none ∈ gdt := ⟨⟨by decide +kernel, by decide +kernel⟩, gdt_of 1036 (by decide +kernel) (by decide +kernel), gdt_of 42 (by decide +kernel) (by decide +kernel), gdt_of 77 (by decide +kernel) (by decide +kernel), gdt_of 1037 (by decide +kernel) (by decide +kernel)⟩
theorem ml_X9_goes : (parseMethodDescriptor yX9_goes.desc).map (fun d => d.parameters.length) = some 2 := by decide +kernel
theorem my_X9_meets : (yX9_meets.cls ≠ "java/lang/invoke/MethodHandle" ∧ yX9_meets.cls ≠ "java/lang/invoke/VarHandle") ∧ Cond.instanceMethod yX9_meets ∈ gdt ∧ Cond.selects yX9_meets.cls yX9_meets yX9_meets ∈ gdt ∧ Cond.initialized yX9_meets.cls ∈ gdt ∧ Cond.code yX9_meets cX9_meets 6 none ∈ gdt := ⟨⟨by decide +kernel, by decide +kernel⟩, gdt_of 1040 (by decide +kernel) (by decide +kernel), gdt_of 43 (by decide +kernel) (by decide +kernel), gdt_of 77 (by decide +kernel) (by decide +kernel), gdt_of 1041 (by decide +kernel) (by decide +kernel)⟩
theorem ml_X9_meets : (parseMethodDescriptor yX9_meets.desc).map (fun d => d.parameters.length) = some 1 := by decide +kernel
theorem dX9_goes_0 : decode cX9_goes 0 = .ok (.iload_n 1, 1) := by decide +kernel
theorem dX9_goes_1 : decode cX9_goes 1 = .ok (.iload_n 2, 1) := by decide +kernel
theorem dX9_goes_2 : decode cX9_goes 2 = .ok (.if_icmp .ne 35, 3) := by decide +kernel
theorem dX9_goes_5 : decode cX9_goes 5 = .ok (.aload_n 0, 1) := by decide +kernel
theorem dX9_goes_6 : decode cX9_goes 6 = .ok (.getfield 9, 3) := by decide +kernel
theorem dX9_goes_9 : decode cX9_goes 9 = .ok (.bipush 6, 2) := by decide +kernel
theorem dX9_goes_11 : decode cX9_goes 11 = .ok (.aload_n 0, 1) := by decide +kernel
theorem dX9_goes_12 : decode cX9_goes 12 = .ok (.getfield 36, 3) := by decide +kernel
theorem dX9_goes_15 : decode cX9_goes 15 = .ok (.iload_n 2, 1) := by decide +kernel
theorem dX9_goes_16 : decode cX9_goes 16 = .ok (.iconst 1, 1) := by decide +kernel
theorem dX9_goes_17 : decode cX9_goes 17 = .ok (.isub, 1) := by decide +kernel
theorem dX9_goes_18 : decode cX9_goes 18 = .ok (.iaload, 1) := by decide +kernel
theorem dX9_goes_19 : decode cX9_goes 19 = .ok (.imul, 1) := by decide +kernel
theorem dX9_goes_20 : decode cX9_goes 20 = .ok (.aload_n 0, 1) := by decide +kernel
theorem dX9_goes_21 : decode cX9_goes 21 = .ok (.getfield 36, 3) := by decide +kernel
theorem dX9_goes_24 : decode cX9_goes 24 = .ok (.iconst 0, 1) := by decide +kernel
theorem dX9_goes_25 : decode cX9_goes 25 = .ok (.iaload, 1) := by decide +kernel
theorem dX9_goes_26 : decode cX9_goes 26 = .ok (.iadd, 1) := by decide +kernel
theorem dX9_goes_27 : decode cX9_goes 27 = .ok (.iaload, 1) := by decide +kernel
theorem dX9_goes_28 : decode cX9_goes 28 = .ok (.ifCond .le 8, 3) := by decide +kernel
theorem dX9_goes_31 : decode cX9_goes 31 = .ok (.aload_n 0, 1) := by decide +kernel
theorem dX9_goes_32 : decode cX9_goes 32 = .ok (.iload_n 2, 1) := by decide +kernel
theorem dX9_goes_33 : decode cX9_goes 33 = .ok (.invokevirtual 155, 3) := by decide +kernel
theorem dX9_goes_36 : decode cX9_goes 36 = .ok (.return_, 1) := by decide +kernel
theorem dX9_goes_37 : decode cX9_goes 37 = .ok (.aload_n 0, 1) := by decide +kernel
theorem dX9_goes_38 : decode cX9_goes 38 = .ok (.getfield 36, 3) := by decide +kernel
theorem dX9_goes_41 : decode cX9_goes 41 = .ok (.iconst 0, 1) := by decide +kernel
theorem dX9_goes_42 : decode cX9_goes 42 = .ok (.iaload, 1) := by decide +kernel
theorem dX9_goes_43 : decode cX9_goes 43 = .ok (.iconst 1, 1) := by decide +kernel
theorem dX9_goes_44 : decode cX9_goes 44 = .ok (.iadd, 1) := by decide +kernel
theorem dX9_goes_45 : decode cX9_goes 45 = .ok (.istore_n 3, 1) := by decide +kernel
theorem dX9_goes_46 : decode cX9_goes 46 = .ok (.iload_n 3, 1) := by decide +kernel
theorem dX9_goes_47 : decode cX9_goes 47 = .ok (.aload_n 0, 1) := by decide +kernel
theorem dX9_goes_48 : decode cX9_goes 48 = .ok (.getfield 76, 3) := by decide +kernel
theorem dX9_goes_51 : decode cX9_goes 51 = .ok (.if_icmp .ge 57, 3) := by decide +kernel
theorem dX9_goes_54 : decode cX9_goes 54 = .ok (.aload_n 0, 1) := by decide +kernel
theorem dX9_goes_55 : decode cX9_goes 55 = .ok (.iload_n 3, 1) := by decide +kernel
theorem dX9_goes_56 : decode cX9_goes 56 = .ok (.iload_n 1, 1) := by decide +kernel
theorem dX9_goes_57 : decode cX9_goes 57 = .ok (.invokevirtual 159, 3) := by decide +kernel
theorem dX9_goes_60 : decode cX9_goes 60 = .ok (.ifCond .ne 42, 3) := by decide +kernel
theorem dX9_goes_63 : decode cX9_goes 63 = .ok (.aload_n 0, 1) := by decide +kernel
theorem dX9_goes_64 : decode cX9_goes 64 = .ok (.getfield 9, 3) := by decide +kernel
theorem dX9_goes_67 : decode cX9_goes 67 = .ok (.bipush 6, 2) := by decide +kernel
theorem dX9_goes_69 : decode cX9_goes 69 = .ok (.aload_n 0, 1) := by decide +kernel
theorem dX9_goes_70 : decode cX9_goes 70 = .ok (.getfield 36, 3) := by decide +kernel
theorem dX9_goes_73 : decode cX9_goes 73 = .ok (.iload_n 1, 1) := by decide +kernel
theorem dX9_goes_74 : decode cX9_goes 74 = .ok (.iconst 1, 1) := by decide +kernel
theorem dX9_goes_75 : decode cX9_goes 75 = .ok (.isub, 1) := by decide +kernel
theorem dX9_goes_76 : decode cX9_goes 76 = .ok (.iaload, 1) := by decide +kernel
theorem dX9_goes_77 : decode cX9_goes 77 = .ok (.imul, 1) := by decide +kernel
theorem dX9_goes_78 : decode cX9_goes 78 = .ok (.iload_n 3, 1) := by decide +kernel
theorem dX9_goes_79 : decode cX9_goes 79 = .ok (.iadd, 1) := by decide +kernel
theorem dX9_goes_80 : decode cX9_goes 80 = .ok (.iaload, 1) := by decide +kernel
theorem dX9_goes_81 : decode cX9_goes 81 = .ok (.ifCond .ne 6, 3) := by decide +kernel
theorem dX9_goes_84 : decode cX9_goes 84 = .ok (.goto 18, 3) := by decide +kernel
theorem dX9_goes_87 : decode cX9_goes 87 = .ok (.aload_n 0, 1) := by decide +kernel
theorem dX9_goes_88 : decode cX9_goes 88 = .ok (.getfield 36, 3) := by decide +kernel
theorem dX9_goes_91 : decode cX9_goes 91 = .ok (.iload_n 1, 1) := by decide +kernel
theorem dX9_goes_92 : decode cX9_goes 92 = .ok (.iload_n 3, 1) := by decide +kernel
theorem dX9_goes_93 : decode cX9_goes 93 = .ok (.iastore, 1) := by decide +kernel
theorem dX9_goes_94 : decode cX9_goes 94 = .ok (.aload_n 0, 1) := by decide +kernel
theorem dX9_goes_95 : decode cX9_goes 95 = .ok (.iload_n 1, 1) := by decide +kernel
theorem dX9_goes_96 : decode cX9_goes 96 = .ok (.iconst 1, 1) := by decide +kernel
theorem dX9_goes_97 : decode cX9_goes 97 = .ok (.iadd, 1) := by decide +kernel
theorem dX9_goes_98 : decode cX9_goes 98 = .ok (.iload_n 2, 1) := by decide +kernel
theorem dX9_goes_99 : decode cX9_goes 99 = .ok (.invokevirtual 162, 3) := by decide +kernel
theorem dX9_goes_102 : decode cX9_goes 102 = .ok (.iinc 3 1, 3) := by decide +kernel
theorem dX9_goes_105 : decode cX9_goes 105 = .ok (.goto (-59), 3) := by decide +kernel
theorem dX9_goes_108 : decode cX9_goes 108 = .ok (.return_, 1) := by decide +kernel
def fX9_goes_L46 (self : Int32 → Int32 → Int32 → Int32 → Int32 → Int32 → Int32 → Int32 → Int32 → Int32 → Int32 → Int64 → Int32 → Int32 → Int32 → (Nat → Int32) → (Nat → Int32) → (Nat → Int32) → (Nat → Int32) → Int32 → Int32 → Option (Int32 × Int32 × Int32 × Int64 × (Nat → Int32) × (Nat → Int32))) (u_people : Int32) (u_debts : Int32) (u_cuts : Int32) (u_seen : Int32) (u_events : Int32) (u_inBook : Int32) (u_texted : Int32) (u_rule : Int32) (u_groups : Int32) (u_paid : Int32) (u_imaged : Int32) (u_owes : (Nat → Int32)) (u_denies : (Nat → Int32)) (x1 : Int32) (x2 : Int32) : Nat → Int32 → Int32 → Int32 → Int32 → Int64 → (Nat → Int32) → (Nat → Int32) → Option (Int32 × Int32 × Int32 × Int64 × (Nat → Int32) × (Nat → Int32))
  | 0, _, _, _, _, _, _, _ => none
  | n + 1, x3, u_rings, u_size, u_least, u_worth, u_path, u_ring => if u_people ≤ x3 then (some (u_rings, u_size, u_least, u_worth, u_path, u_ring)) else ((fX9_isIn u_path x3 x1).bind (fun z4 => if z4 = 0 then (gA (x1 - 1) 6 (gA ((6 * (u_path (x1 - 1).toNatClampNeg)) + x3) 36 (if (u_owes ((6 * (u_path (x1 - 1).toNatClampNeg)) + x3).toNatClampNeg) = 0 then (fX9_goes_L46 self u_people u_debts u_cuts u_seen u_events u_inBook u_texted u_rule u_groups u_paid u_imaged u_owes u_denies x1 x2 n (x3 + 1) u_rings u_size u_least u_worth u_path u_ring) else (gA x1 6 ((self u_people u_debts u_cuts u_seen u_events u_inBook u_texted u_rule u_rings u_size u_least u_worth u_groups u_paid u_imaged u_owes u_denies (upd u_path (x1 : Int32).toNatClampNeg x3) u_ring (x1 + 1) x2).bind (fun z10 => fX9_goes_L46 self u_people u_debts u_cuts u_seen u_events u_inBook u_texted u_rule u_groups u_paid u_imaged u_owes u_denies x1 x2 n (x3 + 1) z10.1 z10.2.1 z10.2.2.1 z10.2.2.2.1 z10.2.2.2.2.1 z10.2.2.2.2.2)))))) else (fX9_goes_L46 self u_people u_debts u_cuts u_seen u_events u_inBook u_texted u_rule u_groups u_paid u_imaged u_owes u_denies x1 x2 n (x3 + 1) u_rings u_size u_least u_worth u_path u_ring)))
def fX9_goes : Nat → Int32 → Int32 → Int32 → Int32 → Int32 → Int32 → Int32 → Int32 → Int32 → Int32 → Int32 → Int64 → Int32 → Int32 → Int32 → (Nat → Int32) → (Nat → Int32) → (Nat → Int32) → (Nat → Int32) → Int32 → Int32 → Option (Int32 × Int32 × Int32 × Int64 × (Nat → Int32) × (Nat → Int32))
  | 0, _, _, _, _, _, _, _, _, _, _, _, _, _, _, _, _, _, _, _, _, _ => none
  | n + 1, u_people, u_debts, u_cuts, u_seen, u_events, u_inBook, u_texted, u_rule, u_rings, u_size, u_least, u_worth, u_groups, u_paid, u_imaged, u_owes, u_denies, u_path, u_ring, x1, x2 => if x1 = x2 then (gA (x2 - 1) 6 (gA 0 6 (gA ((6 * (u_path (x2 - 1).toNatClampNeg)) + (u_path (0 : Int32).toNatClampNeg)) 36 (if (u_owes ((6 * (u_path (x2 - 1).toNatClampNeg)) + (u_path (0 : Int32).toNatClampNeg)).toNatClampNeg) ≤ 0 then (some (u_rings, u_size, u_least, u_worth, u_path, u_ring)) else ((fX9_meets u_rule u_rings u_size u_least u_worth u_owes u_denies u_path u_ring x2).bind (fun z15 => some (z15.1, z15.2.1, z15.2.2.1, z15.2.2.2.1, u_path, z15.2.2.2.2))))))) else (gA 0 6 (fX9_goes_L46 (fun u_people u_debts u_cuts u_seen u_events u_inBook u_texted u_rule u_rings u_size u_least u_worth u_groups u_paid u_imaged u_owes u_denies u_path u_ring x1 x2 => fX9_goes n u_people u_debts u_cuts u_seen u_events u_inBook u_texted u_rule u_rings u_size u_least u_worth u_groups u_paid u_imaged u_owes u_denies u_path u_ring x1 x2) u_people u_debts u_cuts u_seen u_events u_inBook u_texted u_rule u_groups u_paid u_imaged u_owes u_denies x1 x2 400 ((u_path (0 : Int32).toNatClampNeg) + 1) u_rings u_size u_least u_worth u_path u_ring))
set_option maxRecDepth 20000 in
theorem LX9_goes_46 {p : Program} {l : Launch} {e : Env} {R : Room} {s : State} {m : MethodId} {args : Array Value} {below : List Frame} {meth : Method} {c : Code} {Q : State → Prop} {D : va_G} {C : Nat → ClassId} {A : Nat → Prop} {dd : Nat} (hdd : 3 ≤ dd) (cx : CX p m c s args RX9 cX9_goes 4 D C A R (dd + 1)) {q_ q_owes q_denies q_debt q_cut q_sight q_event q_book q_text q_path q_ring q_balance q_left q_sum q_parts q_group q_payment q_then q_image q_tapeSort q_tapeSize q_items : Nat} {u_people : Int32} {u_debts : Int32} {u_cuts : Int32} {u_seen : Int32} {u_events : Int32} {u_inBook : Int32} {u_texted : Int32} {u_rule : Int32} {u_groups : Int32} {u_paid : Int32} {u_imaged : Int32} {u_owes : (Nat → Int32)} {u_denies : (Nat → Int32)} {x1 : Int32} {x2 : Int32} {z : (Int32 × Int32 × Int32 × Int64 × (Nat → Int32) × (Nat → Int32))} (hret : RT p l e R s m args below meth c Q D A cX9_goes none [(q_, .inr (9, [.int u_people, .ref q_owes, .ref q_denies, .int u_debts, .ref q_debt, .int u_cuts, .ref q_cut, .int u_seen, .ref q_sight, .int u_events, .ref q_event, .int u_inBook, .ref q_book, .int u_texted, .ref q_text, .ref q_path, .int u_rule, .int z.1, .int z.2.1, .int z.2.2.1, .long z.2.2.2.1, .ref q_ring, .ref q_balance, .ref q_left, .ref q_sum, .ref q_parts, .int u_groups, .ref q_group, .int u_paid, .ref q_payment, .ref q_then, .int u_imaged, .ref q_image, .ref q_tapeSort, .ref q_tapeSize, .ref q_items])), (q_owes, .inl (C 0, 36, .inl u_owes)), (q_denies, .inl (C 0, 36, .inl u_denies)), (q_path, .inl (C 0, 6, .inl z.2.2.2.2.1)), (q_ring, .inl (C 0, 6, .inl z.2.2.2.2.2))] none) {self : Int32 → Int32 → Int32 → Int32 → Int32 → Int32 → Int32 → Int32 → Int32 → Int32 → Int32 → Int64 → Int32 → Int32 → Int32 → (Nat → Int32) → (Nat → Int32) → (Nat → Int32) → (Nat → Int32) → Int32 → Int32 → Option (Int32 × Int32 × Int32 × Int64 × (Nat → Int32) × (Nat → Int32))} (hrec : ∀ (q_ q_owes q_denies q_debt q_cut q_sight q_event q_book q_text q_path q_ring q_balance q_left q_sum q_parts q_group q_payment q_then q_image q_tapeSort q_tapeSize q_items : Nat) (u_people : Int32) (u_debts : Int32) (u_cuts : Int32) (u_seen : Int32) (u_events : Int32) (u_inBook : Int32) (u_texted : Int32) (u_rule : Int32) (u_rings : Int32) (u_size : Int32) (u_least : Int32) (u_worth : Int64) (u_groups : Int32) (u_paid : Int32) (u_imaged : Int32) (u_owes : (Nat → Int32)) (u_denies : (Nat → Int32)) (u_path : (Nat → Int32)) (u_ring : (Nat → Int32)) (x1 : Int32) (x2 : Int32) (z : (Int32 × Int32 × Int32 × Int64 × (Nat → Int32) × (Nat → Int32))), self u_people u_debts u_cuts u_seen u_events u_inBook u_texted u_rule u_rings u_size u_least u_worth u_groups u_paid u_imaged u_owes u_denies u_path u_ring x1 x2 = some z → Ct l yX9_goes cX9_goes 4 none dd D C [.ref q_, .int x1, .int x2] [(q_, .inr (9, [.int u_people, .ref q_owes, .ref q_denies, .int u_debts, .ref q_debt, .int u_cuts, .ref q_cut, .int u_seen, .ref q_sight, .int u_events, .ref q_event, .int u_inBook, .ref q_book, .int u_texted, .ref q_text, .ref q_path, .int u_rule, .int u_rings, .int u_size, .int u_least, .long u_worth, .ref q_ring, .ref q_balance, .ref q_left, .ref q_sum, .ref q_parts, .int u_groups, .ref q_group, .int u_paid, .ref q_payment, .ref q_then, .int u_imaged, .ref q_image, .ref q_tapeSort, .ref q_tapeSize, .ref q_items])), (q_owes, .inl (C 0, 36, .inl u_owes)), (q_denies, .inl (C 0, 36, .inl u_denies)), (q_path, .inl (C 0, 6, .inl u_path)), (q_ring, .inl (C 0, 6, .inl u_ring))] [(q_, .inr (9, [.int u_people, .ref q_owes, .ref q_denies, .int u_debts, .ref q_debt, .int u_cuts, .ref q_cut, .int u_seen, .ref q_sight, .int u_events, .ref q_event, .int u_inBook, .ref q_book, .int u_texted, .ref q_text, .ref q_path, .int u_rule, .int z.1, .int z.2.1, .int z.2.2.1, .long z.2.2.2.1, .ref q_ring, .ref q_balance, .ref q_left, .ref q_sum, .ref q_parts, .int u_groups, .ref q_group, .int u_paid, .ref q_payment, .ref q_then, .int u_imaged, .ref q_image, .ref q_tapeSort, .ref q_tapeSize, .ref q_items])), (q_owes, .inl (C 0, 36, .inl u_owes)), (q_denies, .inl (C 0, 36, .inl u_denies)), (q_path, .inl (C 0, 6, .inl z.2.2.2.2.1)), (q_ring, .inl (C 0, 6, .inl z.2.2.2.2.2))] none) :
    ∀ (n : Nat) (x3 : Int32) (u_rings : Int32) (u_size : Int32) (u_least : Int32) (u_worth : Int64) (u_path : (Nat → Int32)) (u_ring : (Nat → Int32)) (H : Heap) (locs : List Loc) (ls : Array Slot), fX9_goes_L46 self u_people u_debts u_cuts u_seen u_events u_inBook u_texted u_rule u_groups u_paid u_imaged u_owes u_denies x1 x2 n x3 u_rings u_size u_least u_worth u_path u_ring = some z → HW D A s.heap H locs [(q_, .inr (9, [.int u_people, .ref q_owes, .ref q_denies, .int u_debts, .ref q_debt, .int u_cuts, .ref q_cut, .int u_seen, .ref q_sight, .int u_events, .ref q_event, .int u_inBook, .ref q_book, .int u_texted, .ref q_text, .ref q_path, .int u_rule, .int u_rings, .int u_size, .int u_least, .long u_worth, .ref q_ring, .ref q_balance, .ref q_left, .ref q_sum, .ref q_parts, .int u_groups, .ref q_group, .int u_paid, .ref q_payment, .ref q_then, .int u_imaged, .ref q_image, .ref q_tapeSort, .ref q_tapeSize, .ref q_items])), (q_owes, .inl (C 0, 36, .inl u_owes)), (q_denies, .inl (C 0, 36, .inl u_denies)), (q_path, .inl (C 0, 6, .inl u_path)), (q_ring, .inl (C 0, 6, .inl u_ring))] → lv_has ls 4 [(0, .ref q_), (1, .int x1), (2, .int x2), (3, .int x3)] → W p l e R s m args below meth c H locs 0 0 Q (F0 m 46 ls []) := by
  have hx := cx.1
  have hb := cx.2.1
  intro n
  induction n with
  | zero => intro x3 u_rings u_size u_least u_worth u_path u_ring H locs ls hF; cases hF
  | succ n ih =>
    intro x3 u_rings u_size u_least u_worth u_path u_ring H locs ls hF hw hl
    rw [fX9_goes_L46.eq_2] at hF
    refine lv_iload_n hx hb dX9_goes_46 rfl (lv_at hl 3 rfl) ?_
    refine lv_aload_n hx hb dX9_goes_47 rfl (lv_at hl 0 rfl) ?_
    refine r_get (ci := 9) (v := .int u_people) cx hw iX9 0 0 rfl rfl (by decide) wf_X9_76 rfl dX9_goes_48 ?_
    refine lv_icmp_ge (tgt := 108) hx hb dX9_goes_51 (by decide) (fun c3 => ?_) (fun c3 => ?_)
    · replace hF := oi_t c3 hF
      obtain rfl := Option.some.inj hF
      exact rt_v hret hw rfl dX9_goes_108
    · replace hF := oi_f c3 hF
      refine lv_aload_n hx hb dX9_goes_54 rfl (lv_at hl 0 rfl) ?_
      refine lv_iload_n hx hb dX9_goes_55 rfl (lv_at hl 3 rfl) ?_
      refine lv_iload_n hx hb dX9_goes_56 rfl (lv_at hl 1 rfl) ?_
      obtain ⟨z4, hz4, hF⟩ := ob hF
      refine cV (wr := [(q_owes, .inl (C 0, 36, .inl u_owes)), (q_denies, .inl (C 0, 36, .inl u_denies)), (q_ring, .inl (C 0, 6, .inl u_ring))]) (w2 := [(q_, .inr (9, [.int u_people, .ref q_owes, .ref q_denies, .int u_debts, .ref q_debt, .int u_cuts, .ref q_cut, .int u_seen, .ref q_sight, .int u_events, .ref q_event, .int u_inBook, .ref q_book, .int u_texted, .ref q_text, .ref q_path, .int u_rule, .int u_rings, .int u_size, .int u_least, .long u_worth, .ref q_ring, .ref q_balance, .ref q_left, .ref q_sum, .ref q_parts, .int u_groups, .ref q_group, .int u_paid, .ref q_payment, .ref q_then, .int u_imaged, .ref q_image, .ref q_tapeSort, .ref q_tapeSize, .ref q_items])), (q_owes, .inl (C 0, 36, .inl u_owes)), (q_denies, .inl (C 0, 36, .inl u_denies)), (q_path, .inl (C 0, 6, .inl u_path)), (q_ring, .inl (C 0, 6, .inl u_ring))]) (st2 := [.int z4]) cx (CX9_isIn l D C q_ q_owes q_denies q_debt q_cut q_sight q_event q_book q_text q_path q_ring q_balance q_left q_sum q_parts q_group q_payment q_then q_image q_tapeSort q_tapeSize q_items u_people u_debts u_cuts u_seen u_events u_inBook u_texted u_rule u_rings u_size u_least u_worth u_groups u_paid u_imaged u_path x3 x1 z4 hz4) lk_X9_159 my_X9_isIn ml_X9_isIn ⟨by omega, by decide⟩ hw [0, 3] [1, 2, 4] [3, 0, 1, 4, 2] rfl rfl (by decide) rfl rfl rfl rfl (Nat.le_of_ble_eq_true rfl) dX9_goes_57 rfl (fun H locs hw => ?_) hl.1
      refine lv_if_ne (tgt := 102) hx hb dX9_goes_60 (by decide) (fun c5 => ?_) (fun c5 => ?_)
      · replace hF := oi_f c5 hF
        refine lv_iinc (v := x3 + 1) (lv' := [(3, .int (x3 + 1)), (0, .ref q_), (1, .int x1), (2, .int x2)]) hx hb dX9_goes_102 hl (k := 3) rfl rfl (by decide) rfl (fun ls hl => ?_)
        refine lv_goto (tgt := 46) hx hb dX9_goes_105 (by decide) ?_
        exact ih (x3 + 1) u_rings u_size u_least u_worth u_path u_ring H locs ls hF hw (lv_sub hl [1, 2, 3, 0] rfl)
      · replace hF := oi_t c5 hF
        refine lv_aload_n hx hb dX9_goes_63 rfl (lv_at hl 0 rfl) ?_
        refine r_get (ci := 9) (v := .ref q_owes) cx hw iX9 0 1 rfl rfl (by decide) wf_X9_9 rfl dX9_goes_64 ?_
        refine lv_bipush (v := 6) hx hb dX9_goes_67 (by decide) ?_
        refine lv_aload_n hx hb dX9_goes_69 rfl (lv_at hl 0 rfl) ?_
        refine r_get (ci := 9) (v := .ref q_path) cx hw iX9 0 15 rfl rfl (by decide) wf_X9_36 rfl dX9_goes_70 ?_
        refine lv_iload_n hx hb dX9_goes_73 rfl (lv_at hl 1 rfl) ?_
        refine lv_iconst (v := 1) hx hb dX9_goes_74 (by decide) ?_
        refine lv_isub hx hb dX9_goes_75 ?_
        obtain ⟨g6, hF⟩ := gA_s hF
        refine r_iald cx hw 3 rfl g6 dX9_goes_76 ?_
        refine lv_imul hx hb dX9_goes_77 ?_
        refine lv_iload_n hx hb dX9_goes_78 rfl (lv_at hl 3 rfl) ?_
        refine lv_iadd hx hb dX9_goes_79 ?_
        obtain ⟨g7, hF⟩ := gA_s hF
        refine r_iald cx hw 1 rfl g7 dX9_goes_80 ?_
        refine lv_if_ne (tgt := 87) hx hb dX9_goes_81 (by decide) (fun c8 => ?_) (fun c8 => ?_)
        · replace hF := oi_f c8 hF
          refine lv_aload_n hx hb dX9_goes_87 rfl (lv_at hl 0 rfl) ?_
          refine r_get (ci := 9) (v := .ref q_path) cx hw iX9 0 15 rfl rfl (by decide) wf_X9_36 rfl dX9_goes_88 ?_
          refine lv_iload_n hx hb dX9_goes_91 rfl (lv_at hl 1 rfl) ?_
          refine lv_iload_n hx hb dX9_goes_92 rfl (lv_at hl 3 rfl) ?_
          obtain ⟨g9, hF⟩ := gA_s hF
          refine r_iast (w2 := [(q_, .inr (9, [.int u_people, .ref q_owes, .ref q_denies, .int u_debts, .ref q_debt, .int u_cuts, .ref q_cut, .int u_seen, .ref q_sight, .int u_events, .ref q_event, .int u_inBook, .ref q_book, .int u_texted, .ref q_text, .ref q_path, .int u_rule, .int u_rings, .int u_size, .int u_least, .long u_worth, .ref q_ring, .ref q_balance, .ref q_left, .ref q_sum, .ref q_parts, .int u_groups, .ref q_group, .int u_paid, .ref q_payment, .ref q_then, .int u_imaged, .ref q_image, .ref q_tapeSort, .ref q_tapeSize, .ref q_items])), (q_owes, .inl (C 0, 36, .inl u_owes)), (q_denies, .inl (C 0, 36, .inl u_denies)), (q_path, .inl (C 0, 6, .inl (upd u_path (x1 : Int32).toNatClampNeg x3))), (q_ring, .inl (C 0, 6, .inl u_ring))]) cx hw 3 rfl g9 dX9_goes_93 rfl (fun H locs hw => ?_)
          refine lv_aload_n hx hb dX9_goes_94 rfl (lv_at hl 0 rfl) ?_
          refine lv_iload_n hx hb dX9_goes_95 rfl (lv_at hl 1 rfl) ?_
          refine lv_iconst (v := 1) hx hb dX9_goes_96 (by decide) ?_
          refine lv_iadd hx hb dX9_goes_97 ?_
          refine lv_iload_n hx hb dX9_goes_98 rfl (lv_at hl 2 rfl) ?_
          obtain ⟨z10, hz10, hF⟩ := ob hF
          refine cV (wr := []) (w2 := [(q_, .inr (9, [.int u_people, .ref q_owes, .ref q_denies, .int u_debts, .ref q_debt, .int u_cuts, .ref q_cut, .int u_seen, .ref q_sight, .int u_events, .ref q_event, .int u_inBook, .ref q_book, .int u_texted, .ref q_text, .ref q_path, .int u_rule, .int z10.1, .int z10.2.1, .int z10.2.2.1, .long z10.2.2.2.1, .ref q_ring, .ref q_balance, .ref q_left, .ref q_sum, .ref q_parts, .int u_groups, .ref q_group, .int u_paid, .ref q_payment, .ref q_then, .int u_imaged, .ref q_image, .ref q_tapeSort, .ref q_tapeSize, .ref q_items])), (q_owes, .inl (C 0, 36, .inl u_owes)), (q_denies, .inl (C 0, 36, .inl u_denies)), (q_path, .inl (C 0, 6, .inl z10.2.2.2.2.1)), (q_ring, .inl (C 0, 6, .inl z10.2.2.2.2.2))]) (st2 := []) cx (hrec q_ q_owes q_denies q_debt q_cut q_sight q_event q_book q_text q_path q_ring q_balance q_left q_sum q_parts q_group q_payment q_then q_image q_tapeSort q_tapeSize q_items u_people u_debts u_cuts u_seen u_events u_inBook u_texted u_rule u_rings u_size u_least u_worth u_groups u_paid u_imaged u_owes u_denies (upd u_path (x1 : Int32).toNatClampNeg x3) u_ring (x1 + 1) x2 z10 hz10) lk_X9_162 my_X9_goes ml_X9_goes ⟨by omega, by decide⟩ hw [0, 1, 2, 3, 4] [] [0, 1, 2, 3, 4] rfl rfl (by decide) rfl rfl rfl rfl (Nat.le_of_ble_eq_true rfl) dX9_goes_99 rfl (fun H locs hw => ?_) hl.1
          refine lv_iinc (v := x3 + 1) (lv' := [(3, .int (x3 + 1)), (0, .ref q_), (1, .int x1), (2, .int x2)]) hx hb dX9_goes_102 hl (k := 3) rfl rfl (by decide) rfl (fun ls hl => ?_)
          refine lv_goto (tgt := 46) hx hb dX9_goes_105 (by decide) ?_
          exact ih (x3 + 1) z10.1 z10.2.1 z10.2.2.1 z10.2.2.2.1 z10.2.2.2.2.1 z10.2.2.2.2.2 H locs ls hF hw (lv_sub hl [1, 2, 3, 0] rfl)
        · replace hF := oi_t c8 hF
          refine lv_goto (tgt := 102) hx hb dX9_goes_84 (by decide) ?_
          refine lv_iinc (v := x3 + 1) (lv' := [(3, .int (x3 + 1)), (0, .ref q_), (1, .int x1), (2, .int x2)]) hx hb dX9_goes_102 hl (k := 3) rfl rfl (by decide) rfl (fun ls hl => ?_)
          refine lv_goto (tgt := 46) hx hb dX9_goes_105 (by decide) ?_
          exact ih (x3 + 1) u_rings u_size u_least u_worth u_path u_ring H locs ls hF hw (lv_sub hl [1, 2, 3, 0] rfl)
set_option maxRecDepth 20000 in
theorem CX9_goes : ∀ (n : Nat) (l : Launch) (D : va_G) (C : Nat → ClassId) (q_ q_owes q_denies q_debt q_cut q_sight q_event q_book q_text q_path q_ring q_balance q_left q_sum q_parts q_group q_payment q_then q_image q_tapeSort q_tapeSize q_items : Nat) (u_people : Int32) (u_debts : Int32) (u_cuts : Int32) (u_seen : Int32) (u_events : Int32) (u_inBook : Int32) (u_texted : Int32) (u_rule : Int32) (u_rings : Int32) (u_size : Int32) (u_least : Int32) (u_worth : Int64) (u_groups : Int32) (u_paid : Int32) (u_imaged : Int32) (u_owes : (Nat → Int32)) (u_denies : (Nat → Int32)) (u_path : (Nat → Int32)) (u_ring : (Nat → Int32)) (x1 : Int32) (x2 : Int32) (z : (Int32 × Int32 × Int32 × Int64 × (Nat → Int32) × (Nat → Int32))) (hF : fX9_goes n u_people u_debts u_cuts u_seen u_events u_inBook u_texted u_rule u_rings u_size u_least u_worth u_groups u_paid u_imaged u_owes u_denies u_path u_ring x1 x2 = some z), Ct l yX9_goes cX9_goes 4 none (n + 3) D C [.ref q_, .int x1, .int x2] [(q_, .inr (9, [.int u_people, .ref q_owes, .ref q_denies, .int u_debts, .ref q_debt, .int u_cuts, .ref q_cut, .int u_seen, .ref q_sight, .int u_events, .ref q_event, .int u_inBook, .ref q_book, .int u_texted, .ref q_text, .ref q_path, .int u_rule, .int u_rings, .int u_size, .int u_least, .long u_worth, .ref q_ring, .ref q_balance, .ref q_left, .ref q_sum, .ref q_parts, .int u_groups, .ref q_group, .int u_paid, .ref q_payment, .ref q_then, .int u_imaged, .ref q_image, .ref q_tapeSort, .ref q_tapeSize, .ref q_items])), (q_owes, .inl (C 0, 36, .inl u_owes)), (q_denies, .inl (C 0, 36, .inl u_denies)), (q_path, .inl (C 0, 6, .inl u_path)), (q_ring, .inl (C 0, 6, .inl u_ring))] [(q_, .inr (9, [.int u_people, .ref q_owes, .ref q_denies, .int u_debts, .ref q_debt, .int u_cuts, .ref q_cut, .int u_seen, .ref q_sight, .int u_events, .ref q_event, .int u_inBook, .ref q_book, .int u_texted, .ref q_text, .ref q_path, .int u_rule, .int z.1, .int z.2.1, .int z.2.2.1, .long z.2.2.2.1, .ref q_ring, .ref q_balance, .ref q_left, .ref q_sum, .ref q_parts, .int u_groups, .ref q_group, .int u_paid, .ref q_payment, .ref q_then, .int u_imaged, .ref q_image, .ref q_tapeSort, .ref q_tapeSize, .ref q_items])), (q_owes, .inl (C 0, 36, .inl u_owes)), (q_denies, .inl (C 0, 36, .inl u_denies)), (q_path, .inl (C 0, 6, .inl z.2.2.2.2.1)), (q_ring, .inl (C 0, 6, .inl z.2.2.2.2.2))] none := by
  intro n
  induction n with
  | zero => intro l D C q_ q_owes q_denies q_debt q_cut q_sight q_event q_book q_text q_path q_ring q_balance q_left q_sum q_parts q_group q_payment q_then q_image q_tapeSort q_tapeSize q_items u_people u_debts u_cuts u_seen u_events u_inBook u_texted u_rule u_rings u_size u_least u_worth u_groups u_paid u_imaged u_owes u_denies u_path u_ring x1 x2 z hF; cases hF
  | succ n ih =>
    intro l D C q_ q_owes q_denies q_debt q_cut q_sight q_event q_book q_text q_path q_ring q_balance q_left q_sum q_parts q_group q_payment q_then q_image q_tapeSort q_tapeSize q_items u_people u_debts u_cuts u_seen u_events u_inBook u_texted u_rule u_rings u_size u_least u_worth u_groups u_paid u_imaged u_owes u_denies u_path u_ring x1 x2 z hF
    have hrec := ih l D C
    refine Ct_of (by decide) (Nat.le_of_ble_eq_true rfl) ?_
    intro p e R s m args below meth c A Q H locs ls cx hw hl hret
    have cx : CX p m c s args RX9 cX9_goes 4 D C A R ((n + 3) + 1) := cx
    have hx := cx.1
    have hb := cx.2.1
    have hl : lv_has ls 4 [(0, .ref q_), (1, .int x1), (2, .int x2)] := hl
    rw [fX9_goes.eq_2] at hF
    refine lv_iload_n hx hb dX9_goes_0 rfl (lv_at hl 1 rfl) ?_
    refine lv_iload_n hx hb dX9_goes_1 rfl (lv_at hl 2 rfl) ?_
    refine lv_icmp_ne (tgt := 37) hx hb dX9_goes_2 (by decide) (fun c1 => ?_) (fun c1 => ?_)
    · replace hF := oi_f c1 hF
      refine lv_aload_n hx hb dX9_goes_37 rfl (lv_at hl 0 rfl) ?_
      refine r_get (ci := 9) (v := .ref q_path) cx hw iX9 0 15 rfl rfl (by decide) wf_X9_36 rfl dX9_goes_38 ?_
      refine lv_iconst (v := 0) hx hb dX9_goes_41 (by decide) ?_
      obtain ⟨g2, hF⟩ := gA_s hF
      refine r_iald cx hw 3 rfl g2 dX9_goes_42 ?_
      refine lv_iconst (v := 1) hx hb dX9_goes_43 (by decide) ?_
      refine lv_iadd hx hb dX9_goes_44 ?_
      refine lv_istore_n (lv' := [(3, .int ((u_path (0 : Int32).toNatClampNeg) + 1)), (0, .ref q_), (1, .int x1), (2, .int x2)]) hx hb dX9_goes_45 rfl hl (by decide) rfl (fun ls hl => ?_)
      refine LX9_goes_46 (Nat.le_add_left _ _) cx hret hrec 400 ((u_path (0 : Int32).toNatClampNeg) + 1) u_rings u_size u_least u_worth u_path u_ring H locs ls hF hw (lv_sub hl [1, 2, 3, 0] rfl)
    · replace hF := oi_t c1 hF
      refine lv_aload_n hx hb dX9_goes_5 rfl (lv_at hl 0 rfl) ?_
      refine r_get (ci := 9) (v := .ref q_owes) cx hw iX9 0 1 rfl rfl (by decide) wf_X9_9 rfl dX9_goes_6 ?_
      refine lv_bipush (v := 6) hx hb dX9_goes_9 (by decide) ?_
      refine lv_aload_n hx hb dX9_goes_11 rfl (lv_at hl 0 rfl) ?_
      refine r_get (ci := 9) (v := .ref q_path) cx hw iX9 0 15 rfl rfl (by decide) wf_X9_36 rfl dX9_goes_12 ?_
      refine lv_iload_n hx hb dX9_goes_15 rfl (lv_at hl 2 rfl) ?_
      refine lv_iconst (v := 1) hx hb dX9_goes_16 (by decide) ?_
      refine lv_isub hx hb dX9_goes_17 ?_
      obtain ⟨g11, hF⟩ := gA_s hF
      refine r_iald cx hw 3 rfl g11 dX9_goes_18 ?_
      refine lv_imul hx hb dX9_goes_19 ?_
      refine lv_aload_n hx hb dX9_goes_20 rfl (lv_at hl 0 rfl) ?_
      refine r_get (ci := 9) (v := .ref q_path) cx hw iX9 0 15 rfl rfl (by decide) wf_X9_36 rfl dX9_goes_21 ?_
      refine lv_iconst (v := 0) hx hb dX9_goes_24 (by decide) ?_
      obtain ⟨g12, hF⟩ := gA_s hF
      refine r_iald cx hw 3 rfl g12 dX9_goes_25 ?_
      refine lv_iadd hx hb dX9_goes_26 ?_
      obtain ⟨g13, hF⟩ := gA_s hF
      refine r_iald cx hw 1 rfl g13 dX9_goes_27 ?_
      refine lv_if_le (tgt := 36) hx hb dX9_goes_28 (by decide) (fun c14 => ?_) (fun c14 => ?_)
      · replace hF := oi_t c14 hF
        obtain rfl := Option.some.inj hF
        exact rt_v hret hw rfl dX9_goes_36
      · replace hF := oi_f c14 hF
        refine lv_aload_n hx hb dX9_goes_31 rfl (lv_at hl 0 rfl) ?_
        refine lv_iload_n hx hb dX9_goes_32 rfl (lv_at hl 2 rfl) ?_
        obtain ⟨z15, hz15, hF⟩ := ob hF
        refine cV (wr := []) (w2 := [(q_, .inr (9, [.int u_people, .ref q_owes, .ref q_denies, .int u_debts, .ref q_debt, .int u_cuts, .ref q_cut, .int u_seen, .ref q_sight, .int u_events, .ref q_event, .int u_inBook, .ref q_book, .int u_texted, .ref q_text, .ref q_path, .int u_rule, .int z15.1, .int z15.2.1, .int z15.2.2.1, .long z15.2.2.2.1, .ref q_ring, .ref q_balance, .ref q_left, .ref q_sum, .ref q_parts, .int u_groups, .ref q_group, .int u_paid, .ref q_payment, .ref q_then, .int u_imaged, .ref q_image, .ref q_tapeSort, .ref q_tapeSize, .ref q_items])), (q_owes, .inl (C 0, 36, .inl u_owes)), (q_denies, .inl (C 0, 36, .inl u_denies)), (q_path, .inl (C 0, 6, .inl u_path)), (q_ring, .inl (C 0, 6, .inl z15.2.2.2.2))]) (st2 := []) cx (CX9_meets l D C q_ q_owes q_denies q_debt q_cut q_sight q_event q_book q_text q_path q_ring q_balance q_left q_sum q_parts q_group q_payment q_then q_image q_tapeSort q_tapeSize q_items u_people u_debts u_cuts u_seen u_events u_inBook u_texted u_rule u_rings u_size u_least u_worth u_groups u_paid u_imaged u_owes u_denies u_path u_ring x2 z15 hz15) lk_X9_155 my_X9_meets ml_X9_meets ⟨by omega, by decide⟩ hw [0, 1, 2, 3, 4] [] [0, 1, 2, 3, 4] rfl rfl (by decide) rfl rfl rfl rfl (Nat.le_of_ble_eq_true rfl) dX9_goes_33 rfl (fun H locs hw => ?_) hl.1
        obtain rfl := Option.some.inj hF
        exact rt_v hret hw rfl dX9_goes_36
theorem dX9_takes_0 : decode cX9_takes 0 = .ok (.aload_n 0, 1) := by decide +kernel
theorem dX9_takes_1 : decode cX9_takes 1 = .ok (.iload_n 1, 1) := by decide +kernel
theorem dX9_takes_2 : decode cX9_takes 2 = .ok (.putfield 139, 3) := by decide +kernel
theorem dX9_takes_5 : decode cX9_takes 5 = .ok (.aload_n 0, 1) := by decide +kernel
theorem dX9_takes_6 : decode cX9_takes 6 = .ok (.iconst 0, 1) := by decide +kernel
theorem dX9_takes_7 : decode cX9_takes 7 = .ok (.putfield 136, 3) := by decide +kernel
theorem dX9_takes_10 : decode cX9_takes 10 = .ok (.aload_n 0, 1) := by decide +kernel
theorem dX9_takes_11 : decode cX9_takes 11 = .ok (.iconst 0, 1) := by decide +kernel
theorem dX9_takes_12 : decode cX9_takes 12 = .ok (.putfield 149, 3) := by decide +kernel
theorem dX9_takes_15 : decode cX9_takes 15 = .ok (.aload_n 0, 1) := by decide +kernel
theorem dX9_takes_16 : decode cX9_takes 16 = .ok (.lconst 0, 1) := by decide +kernel
theorem dX9_takes_17 : decode cX9_takes 17 = .ok (.putfield 142, 3) := by decide +kernel
theorem dX9_takes_20 : decode cX9_takes 20 = .ok (.iconst 2, 1) := by decide +kernel
theorem dX9_takes_21 : decode cX9_takes 21 = .ok (.istore_n 2, 1) := by decide +kernel
theorem dX9_takes_22 : decode cX9_takes 22 = .ok (.iload_n 2, 1) := by decide +kernel
theorem dX9_takes_23 : decode cX9_takes 23 = .ok (.aload_n 0, 1) := by decide +kernel
theorem dX9_takes_24 : decode cX9_takes 24 = .ok (.getfield 76, 3) := by decide +kernel
theorem dX9_takes_27 : decode cX9_takes 27 = .ok (.if_icmp .gt 38, 3) := by decide +kernel
theorem dX9_takes_30 : decode cX9_takes 30 = .ok (.iconst 0, 1) := by decide +kernel
theorem dX9_takes_31 : decode cX9_takes 31 = .ok (.istore_n 3, 1) := by decide +kernel
theorem dX9_takes_32 : decode cX9_takes 32 = .ok (.iload_n 3, 1) := by decide +kernel
theorem dX9_takes_33 : decode cX9_takes 33 = .ok (.aload_n 0, 1) := by decide +kernel
theorem dX9_takes_34 : decode cX9_takes 34 = .ok (.getfield 76, 3) := by decide +kernel
theorem dX9_takes_37 : decode cX9_takes 37 = .ok (.if_icmp .ge 22, 3) := by decide +kernel
theorem dX9_takes_40 : decode cX9_takes 40 = .ok (.aload_n 0, 1) := by decide +kernel
theorem dX9_takes_41 : decode cX9_takes 41 = .ok (.getfield 36, 3) := by decide +kernel
theorem dX9_takes_44 : decode cX9_takes 44 = .ok (.iconst 0, 1) := by decide +kernel
theorem dX9_takes_45 : decode cX9_takes 45 = .ok (.iload_n 3, 1) := by decide +kernel
theorem dX9_takes_46 : decode cX9_takes 46 = .ok (.iastore, 1) := by decide +kernel
theorem dX9_takes_47 : decode cX9_takes 47 = .ok (.aload_n 0, 1) := by decide +kernel
theorem dX9_takes_48 : decode cX9_takes 48 = .ok (.iconst 1, 1) := by decide +kernel
theorem dX9_takes_49 : decode cX9_takes 49 = .ok (.iload_n 2, 1) := by decide +kernel
theorem dX9_takes_50 : decode cX9_takes 50 = .ok (.invokevirtual 162, 3) := by decide +kernel
theorem dX9_takes_53 : decode cX9_takes 53 = .ok (.iinc 3 1, 3) := by decide +kernel
theorem dX9_takes_56 : decode cX9_takes 56 = .ok (.goto (-24), 3) := by decide +kernel
theorem dX9_takes_59 : decode cX9_takes 59 = .ok (.iinc 2 1, 3) := by decide +kernel
theorem dX9_takes_62 : decode cX9_takes 62 = .ok (.goto (-40), 3) := by decide +kernel
theorem dX9_takes_65 : decode cX9_takes 65 = .ok (.aload_n 0, 1) := by decide +kernel
theorem dX9_takes_66 : decode cX9_takes 66 = .ok (.getfield 149, 3) := by decide +kernel
theorem dX9_takes_69 : decode cX9_takes 69 = .ok (.ifCond .le 7, 3) := by decide +kernel
theorem dX9_takes_72 : decode cX9_takes 72 = .ok (.iconst 1, 1) := by decide +kernel
theorem dX9_takes_73 : decode cX9_takes 73 = .ok (.goto 4, 3) := by decide +kernel
theorem dX9_takes_76 : decode cX9_takes 76 = .ok (.iconst 0, 1) := by decide +kernel
theorem dX9_takes_77 : decode cX9_takes 77 = .ok (.ireturn, 1) := by decide +kernel
def fX9_takes_L32 (k59 : Int32 → Int32 → Int32 → Int64 → (Nat → Int32) → (Nat → Int32) → Option (Int32 × Int32 × Int32 × Int32 × Int32 × Int64 × (Nat → Int32) × (Nat → Int32))) (u_people : Int32) (u_debts : Int32) (u_cuts : Int32) (u_seen : Int32) (u_events : Int32) (u_inBook : Int32) (u_texted : Int32) (u_rule : Int32) (u_groups : Int32) (u_paid : Int32) (u_imaged : Int32) (u_owes : (Nat → Int32)) (u_denies : (Nat → Int32)) (x2 : Int32) : Nat → Int32 → Int32 → Int32 → Int32 → Int64 → (Nat → Int32) → (Nat → Int32) → Option (Int32 × Int32 × Int32 × Int32 × Int32 × Int64 × (Nat → Int32) × (Nat → Int32))
  | 0, _, _, _, _, _, _, _ => none
  | n + 1, x3, u_rings, u_size, u_least, u_worth, u_path, u_ring => if u_people ≤ x3 then (k59 u_rings u_size u_least u_worth u_path u_ring) else (gA 0 6 ((fX9_goes 8 u_people u_debts u_cuts u_seen u_events u_inBook u_texted u_rule u_rings u_size u_least u_worth u_groups u_paid u_imaged u_owes u_denies (upd u_path (0 : Int32).toNatClampNeg x3) u_ring 1 x2).bind (fun z4 => fX9_takes_L32 k59 u_people u_debts u_cuts u_seen u_events u_inBook u_texted u_rule u_groups u_paid u_imaged u_owes u_denies x2 n (x3 + 1) z4.1 z4.2.1 z4.2.2.1 z4.2.2.2.1 z4.2.2.2.2.1 z4.2.2.2.2.2)))
def fX9_takes_L22 (k65 : Int32 → Int32 → Int32 → Int64 → (Nat → Int32) → (Nat → Int32) → Option (Int32 × Int32 × Int32 × Int32 × Int32 × Int64 × (Nat → Int32) × (Nat → Int32))) (u_people : Int32) (u_debts : Int32) (u_cuts : Int32) (u_seen : Int32) (u_events : Int32) (u_inBook : Int32) (u_texted : Int32) (u_rule : Int32) (u_groups : Int32) (u_paid : Int32) (u_imaged : Int32) (u_owes : (Nat → Int32)) (u_denies : (Nat → Int32)) : Nat → Int32 → Int32 → Int32 → Int32 → Int64 → (Nat → Int32) → (Nat → Int32) → Option (Int32 × Int32 × Int32 × Int32 × Int32 × Int64 × (Nat → Int32) × (Nat → Int32))
  | 0, _, _, _, _, _, _, _ => none
  | n + 1, x2, u_rings, u_size, u_least, u_worth, u_path, u_ring => if u_people < x2 then (k65 u_rings u_size u_least u_worth u_path u_ring) else (fX9_takes_L32 (fun (u_rings_5 : Int32) (u_size_5 : Int32) (u_least_5 : Int32) (u_worth_5 : Int64) (u_path_5 : (Nat → Int32)) (u_ring_5 : (Nat → Int32)) => fX9_takes_L22 k65 u_people u_debts u_cuts u_seen u_events u_inBook u_texted u_rule u_groups u_paid u_imaged u_owes u_denies n (x2 + 1) u_rings_5 u_size_5 u_least_5 u_worth_5 u_path_5 u_ring_5) u_people u_debts u_cuts u_seen u_events u_inBook u_texted u_rule u_groups u_paid u_imaged u_owes u_denies x2 400 0 u_rings u_size u_least u_worth u_path u_ring)
def fX9_takes (u_people : Int32) (u_debts : Int32) (u_cuts : Int32) (u_seen : Int32) (u_events : Int32) (u_inBook : Int32) (u_texted : Int32) (u_least : Int32) (u_groups : Int32) (u_paid : Int32) (u_imaged : Int32) (u_owes : (Nat → Int32)) (u_denies : (Nat → Int32)) (u_path : (Nat → Int32)) (u_ring : (Nat → Int32)) (x1 : Int32) : Option (Int32 × Int32 × Int32 × Int32 × Int32 × Int64 × (Nat → Int32) × (Nat → Int32)) := fX9_takes_L22 (fun (u_rings_6 : Int32) (u_size_6 : Int32) (u_least_6 : Int32) (u_worth_6 : Int64) (u_path_6 : (Nat → Int32)) (u_ring_6 : (Nat → Int32)) => if u_size_6 ≤ 0 then (some (0, x1, u_rings_6, u_size_6, u_least_6, u_worth_6, u_path_6, u_ring_6)) else (some (1, x1, u_rings_6, u_size_6, u_least_6, u_worth_6, u_path_6, u_ring_6))) u_people u_debts u_cuts u_seen u_events u_inBook u_texted x1 u_groups u_paid u_imaged u_owes u_denies 400 2 0 0 u_least 0 u_path u_ring
set_option maxRecDepth 20000 in
theorem LX9_takes_32 {p : Program} {l : Launch} {e : Env} {R : Room} {s : State} {m : MethodId} {args : Array Value} {below : List Frame} {meth : Method} {c : Code} {Q : State → Prop} {D : va_G} {C : Nat → ClassId} {A : Nat → Prop} (cx : CX p m c s args RX9 cX9_takes 4 D C A R 12) {q_ q_owes q_denies q_debt q_cut q_sight q_event q_book q_text q_path q_ring q_balance q_left q_sum q_parts q_group q_payment q_then q_image q_tapeSort q_tapeSize q_items : Nat} {u_people : Int32} {u_debts : Int32} {u_cuts : Int32} {u_seen : Int32} {u_events : Int32} {u_inBook : Int32} {u_texted : Int32} {u_rule : Int32} {u_groups : Int32} {u_paid : Int32} {u_imaged : Int32} {u_owes : (Nat → Int32)} {u_denies : (Nat → Int32)} {x2 : Int32} {z : (Int32 × Int32 × Int32 × Int32 × Int32 × Int64 × (Nat → Int32) × (Nat → Int32))} (hret : RT p l e R s m args below meth c Q D A cX9_takes (some .boolean) [(q_, .inr (9, [.int u_people, .ref q_owes, .ref q_denies, .int u_debts, .ref q_debt, .int u_cuts, .ref q_cut, .int u_seen, .ref q_sight, .int u_events, .ref q_event, .int u_inBook, .ref q_book, .int u_texted, .ref q_text, .ref q_path, .int z.2.1, .int z.2.2.1, .int z.2.2.2.1, .int z.2.2.2.2.1, .long z.2.2.2.2.2.1, .ref q_ring, .ref q_balance, .ref q_left, .ref q_sum, .ref q_parts, .int u_groups, .ref q_group, .int u_paid, .ref q_payment, .ref q_then, .int u_imaged, .ref q_image, .ref q_tapeSort, .ref q_tapeSize, .ref q_items])), (q_owes, .inl (C 0, 36, .inl u_owes)), (q_denies, .inl (C 0, 36, .inl u_denies)), (q_path, .inl (C 0, 6, .inl z.2.2.2.2.2.2.1)), (q_ring, .inl (C 0, 6, .inl z.2.2.2.2.2.2.2))] (some (.int z.1))) {k59 : Int32 → Int32 → Int32 → Int64 → (Nat → Int32) → (Nat → Int32) → Option (Int32 × Int32 × Int32 × Int32 × Int32 × Int64 × (Nat → Int32) × (Nat → Int32))} (hk59 : ∀ (u_rings : Int32) (u_size : Int32) (u_least : Int32) (u_worth : Int64) (u_path : (Nat → Int32)) (u_ring : (Nat → Int32)) (H : Heap) (locs : List Loc) (ls : Array Slot), k59 u_rings u_size u_least u_worth u_path u_ring = some z → HW D A s.heap H locs [(q_, .inr (9, [.int u_people, .ref q_owes, .ref q_denies, .int u_debts, .ref q_debt, .int u_cuts, .ref q_cut, .int u_seen, .ref q_sight, .int u_events, .ref q_event, .int u_inBook, .ref q_book, .int u_texted, .ref q_text, .ref q_path, .int u_rule, .int u_rings, .int u_size, .int u_least, .long u_worth, .ref q_ring, .ref q_balance, .ref q_left, .ref q_sum, .ref q_parts, .int u_groups, .ref q_group, .int u_paid, .ref q_payment, .ref q_then, .int u_imaged, .ref q_image, .ref q_tapeSort, .ref q_tapeSize, .ref q_items])), (q_owes, .inl (C 0, 36, .inl u_owes)), (q_denies, .inl (C 0, 36, .inl u_denies)), (q_path, .inl (C 0, 6, .inl u_path)), (q_ring, .inl (C 0, 6, .inl u_ring))] → lv_has ls 4 [(0, .ref q_), (2, .int x2)] → W p l e R s m args below meth c H locs 0 0 Q (F0 m 59 ls [])) :
    ∀ (n : Nat) (x3 : Int32) (u_rings : Int32) (u_size : Int32) (u_least : Int32) (u_worth : Int64) (u_path : (Nat → Int32)) (u_ring : (Nat → Int32)) (H : Heap) (locs : List Loc) (ls : Array Slot), fX9_takes_L32 k59 u_people u_debts u_cuts u_seen u_events u_inBook u_texted u_rule u_groups u_paid u_imaged u_owes u_denies x2 n x3 u_rings u_size u_least u_worth u_path u_ring = some z → HW D A s.heap H locs [(q_, .inr (9, [.int u_people, .ref q_owes, .ref q_denies, .int u_debts, .ref q_debt, .int u_cuts, .ref q_cut, .int u_seen, .ref q_sight, .int u_events, .ref q_event, .int u_inBook, .ref q_book, .int u_texted, .ref q_text, .ref q_path, .int u_rule, .int u_rings, .int u_size, .int u_least, .long u_worth, .ref q_ring, .ref q_balance, .ref q_left, .ref q_sum, .ref q_parts, .int u_groups, .ref q_group, .int u_paid, .ref q_payment, .ref q_then, .int u_imaged, .ref q_image, .ref q_tapeSort, .ref q_tapeSize, .ref q_items])), (q_owes, .inl (C 0, 36, .inl u_owes)), (q_denies, .inl (C 0, 36, .inl u_denies)), (q_path, .inl (C 0, 6, .inl u_path)), (q_ring, .inl (C 0, 6, .inl u_ring))] → lv_has ls 4 [(0, .ref q_), (2, .int x2), (3, .int x3)] → W p l e R s m args below meth c H locs 0 0 Q (F0 m 32 ls []) := by
  have hx := cx.1
  have hb := cx.2.1
  intro n
  induction n with
  | zero => intro x3 u_rings u_size u_least u_worth u_path u_ring H locs ls hF; cases hF
  | succ n ih =>
    intro x3 u_rings u_size u_least u_worth u_path u_ring H locs ls hF hw hl
    rw [fX9_takes_L32.eq_2] at hF
    refine lv_iload_n hx hb dX9_takes_32 rfl (lv_at hl 2 rfl) ?_
    refine lv_aload_n hx hb dX9_takes_33 rfl (lv_at hl 0 rfl) ?_
    refine r_get (ci := 9) (v := .int u_people) cx hw iX9 0 0 rfl rfl (by decide) wf_X9_76 rfl dX9_takes_34 ?_
    refine lv_icmp_ge (tgt := 59) hx hb dX9_takes_37 (by decide) (fun c2 => ?_) (fun c2 => ?_)
    · replace hF := oi_t c2 hF
      exact hk59 u_rings u_size u_least u_worth u_path u_ring H locs ls hF hw (lv_sub hl [0, 1] rfl)
    · replace hF := oi_f c2 hF
      refine lv_aload_n hx hb dX9_takes_40 rfl (lv_at hl 0 rfl) ?_
      refine r_get (ci := 9) (v := .ref q_path) cx hw iX9 0 15 rfl rfl (by decide) wf_X9_36 rfl dX9_takes_41 ?_
      refine lv_iconst (v := 0) hx hb dX9_takes_44 (by decide) ?_
      refine lv_iload_n hx hb dX9_takes_45 rfl (lv_at hl 2 rfl) ?_
      obtain ⟨g3, hF⟩ := gA_s hF
      refine r_iast (w2 := [(q_, .inr (9, [.int u_people, .ref q_owes, .ref q_denies, .int u_debts, .ref q_debt, .int u_cuts, .ref q_cut, .int u_seen, .ref q_sight, .int u_events, .ref q_event, .int u_inBook, .ref q_book, .int u_texted, .ref q_text, .ref q_path, .int u_rule, .int u_rings, .int u_size, .int u_least, .long u_worth, .ref q_ring, .ref q_balance, .ref q_left, .ref q_sum, .ref q_parts, .int u_groups, .ref q_group, .int u_paid, .ref q_payment, .ref q_then, .int u_imaged, .ref q_image, .ref q_tapeSort, .ref q_tapeSize, .ref q_items])), (q_owes, .inl (C 0, 36, .inl u_owes)), (q_denies, .inl (C 0, 36, .inl u_denies)), (q_path, .inl (C 0, 6, .inl (upd u_path (0 : Int32).toNatClampNeg x3))), (q_ring, .inl (C 0, 6, .inl u_ring))]) cx hw 3 rfl g3 dX9_takes_46 rfl (fun H locs hw => ?_)
      refine lv_aload_n hx hb dX9_takes_47 rfl (lv_at hl 0 rfl) ?_
      refine lv_iconst (v := 1) hx hb dX9_takes_48 (by decide) ?_
      refine lv_iload_n hx hb dX9_takes_49 rfl (lv_at hl 1 rfl) ?_
      obtain ⟨z4, hz4, hF⟩ := ob hF
      refine cV (wr := []) (w2 := [(q_, .inr (9, [.int u_people, .ref q_owes, .ref q_denies, .int u_debts, .ref q_debt, .int u_cuts, .ref q_cut, .int u_seen, .ref q_sight, .int u_events, .ref q_event, .int u_inBook, .ref q_book, .int u_texted, .ref q_text, .ref q_path, .int u_rule, .int z4.1, .int z4.2.1, .int z4.2.2.1, .long z4.2.2.2.1, .ref q_ring, .ref q_balance, .ref q_left, .ref q_sum, .ref q_parts, .int u_groups, .ref q_group, .int u_paid, .ref q_payment, .ref q_then, .int u_imaged, .ref q_image, .ref q_tapeSort, .ref q_tapeSize, .ref q_items])), (q_owes, .inl (C 0, 36, .inl u_owes)), (q_denies, .inl (C 0, 36, .inl u_denies)), (q_path, .inl (C 0, 6, .inl z4.2.2.2.2.1)), (q_ring, .inl (C 0, 6, .inl z4.2.2.2.2.2))]) (st2 := []) cx (CX9_goes 8 l D C q_ q_owes q_denies q_debt q_cut q_sight q_event q_book q_text q_path q_ring q_balance q_left q_sum q_parts q_group q_payment q_then q_image q_tapeSort q_tapeSize q_items u_people u_debts u_cuts u_seen u_events u_inBook u_texted u_rule u_rings u_size u_least u_worth u_groups u_paid u_imaged u_owes u_denies (upd u_path (0 : Int32).toNatClampNeg x3) u_ring 1 x2 z4 hz4) lk_X9_162 my_X9_goes ml_X9_goes ⟨by decide, by decide⟩ hw [0, 1, 2, 3, 4] [] [0, 1, 2, 3, 4] rfl rfl (by decide) rfl rfl rfl rfl (Nat.le_of_ble_eq_true rfl) dX9_takes_50 rfl (fun H locs hw => ?_) hl.1
      refine lv_iinc (v := x3 + 1) (lv' := [(3, .int (x3 + 1)), (0, .ref q_), (2, .int x2)]) hx hb dX9_takes_53 hl (k := 2) rfl rfl (by decide) rfl (fun ls hl => ?_)
      refine lv_goto (tgt := 32) hx hb dX9_takes_56 (by decide) ?_
      exact ih (x3 + 1) z4.1 z4.2.1 z4.2.2.1 z4.2.2.2.1 z4.2.2.2.2.1 z4.2.2.2.2.2 H locs ls hF hw (lv_sub hl [1, 2, 0] rfl)
set_option maxRecDepth 20000 in
theorem LX9_takes_22 {p : Program} {l : Launch} {e : Env} {R : Room} {s : State} {m : MethodId} {args : Array Value} {below : List Frame} {meth : Method} {c : Code} {Q : State → Prop} {D : va_G} {C : Nat → ClassId} {A : Nat → Prop} (cx : CX p m c s args RX9 cX9_takes 4 D C A R 12) {q_ q_owes q_denies q_debt q_cut q_sight q_event q_book q_text q_path q_ring q_balance q_left q_sum q_parts q_group q_payment q_then q_image q_tapeSort q_tapeSize q_items : Nat} {u_people : Int32} {u_debts : Int32} {u_cuts : Int32} {u_seen : Int32} {u_events : Int32} {u_inBook : Int32} {u_texted : Int32} {u_rule : Int32} {u_groups : Int32} {u_paid : Int32} {u_imaged : Int32} {u_owes : (Nat → Int32)} {u_denies : (Nat → Int32)} {z : (Int32 × Int32 × Int32 × Int32 × Int32 × Int64 × (Nat → Int32) × (Nat → Int32))} (hret : RT p l e R s m args below meth c Q D A cX9_takes (some .boolean) [(q_, .inr (9, [.int u_people, .ref q_owes, .ref q_denies, .int u_debts, .ref q_debt, .int u_cuts, .ref q_cut, .int u_seen, .ref q_sight, .int u_events, .ref q_event, .int u_inBook, .ref q_book, .int u_texted, .ref q_text, .ref q_path, .int z.2.1, .int z.2.2.1, .int z.2.2.2.1, .int z.2.2.2.2.1, .long z.2.2.2.2.2.1, .ref q_ring, .ref q_balance, .ref q_left, .ref q_sum, .ref q_parts, .int u_groups, .ref q_group, .int u_paid, .ref q_payment, .ref q_then, .int u_imaged, .ref q_image, .ref q_tapeSort, .ref q_tapeSize, .ref q_items])), (q_owes, .inl (C 0, 36, .inl u_owes)), (q_denies, .inl (C 0, 36, .inl u_denies)), (q_path, .inl (C 0, 6, .inl z.2.2.2.2.2.2.1)), (q_ring, .inl (C 0, 6, .inl z.2.2.2.2.2.2.2))] (some (.int z.1))) {k65 : Int32 → Int32 → Int32 → Int64 → (Nat → Int32) → (Nat → Int32) → Option (Int32 × Int32 × Int32 × Int32 × Int32 × Int64 × (Nat → Int32) × (Nat → Int32))} (hk65 : ∀ (u_rings : Int32) (u_size : Int32) (u_least : Int32) (u_worth : Int64) (u_path : (Nat → Int32)) (u_ring : (Nat → Int32)) (H : Heap) (locs : List Loc) (ls : Array Slot), k65 u_rings u_size u_least u_worth u_path u_ring = some z → HW D A s.heap H locs [(q_, .inr (9, [.int u_people, .ref q_owes, .ref q_denies, .int u_debts, .ref q_debt, .int u_cuts, .ref q_cut, .int u_seen, .ref q_sight, .int u_events, .ref q_event, .int u_inBook, .ref q_book, .int u_texted, .ref q_text, .ref q_path, .int u_rule, .int u_rings, .int u_size, .int u_least, .long u_worth, .ref q_ring, .ref q_balance, .ref q_left, .ref q_sum, .ref q_parts, .int u_groups, .ref q_group, .int u_paid, .ref q_payment, .ref q_then, .int u_imaged, .ref q_image, .ref q_tapeSort, .ref q_tapeSize, .ref q_items])), (q_owes, .inl (C 0, 36, .inl u_owes)), (q_denies, .inl (C 0, 36, .inl u_denies)), (q_path, .inl (C 0, 6, .inl u_path)), (q_ring, .inl (C 0, 6, .inl u_ring))] → lv_has ls 4 [(0, .ref q_)] → W p l e R s m args below meth c H locs 0 0 Q (F0 m 65 ls [])) :
    ∀ (n : Nat) (x2 : Int32) (u_rings : Int32) (u_size : Int32) (u_least : Int32) (u_worth : Int64) (u_path : (Nat → Int32)) (u_ring : (Nat → Int32)) (H : Heap) (locs : List Loc) (ls : Array Slot), fX9_takes_L22 k65 u_people u_debts u_cuts u_seen u_events u_inBook u_texted u_rule u_groups u_paid u_imaged u_owes u_denies n x2 u_rings u_size u_least u_worth u_path u_ring = some z → HW D A s.heap H locs [(q_, .inr (9, [.int u_people, .ref q_owes, .ref q_denies, .int u_debts, .ref q_debt, .int u_cuts, .ref q_cut, .int u_seen, .ref q_sight, .int u_events, .ref q_event, .int u_inBook, .ref q_book, .int u_texted, .ref q_text, .ref q_path, .int u_rule, .int u_rings, .int u_size, .int u_least, .long u_worth, .ref q_ring, .ref q_balance, .ref q_left, .ref q_sum, .ref q_parts, .int u_groups, .ref q_group, .int u_paid, .ref q_payment, .ref q_then, .int u_imaged, .ref q_image, .ref q_tapeSort, .ref q_tapeSize, .ref q_items])), (q_owes, .inl (C 0, 36, .inl u_owes)), (q_denies, .inl (C 0, 36, .inl u_denies)), (q_path, .inl (C 0, 6, .inl u_path)), (q_ring, .inl (C 0, 6, .inl u_ring))] → lv_has ls 4 [(0, .ref q_), (2, .int x2)] → W p l e R s m args below meth c H locs 0 0 Q (F0 m 22 ls []) := by
  have hx := cx.1
  have hb := cx.2.1
  intro n
  induction n with
  | zero => intro x2 u_rings u_size u_least u_worth u_path u_ring H locs ls hF; cases hF
  | succ n ih =>
    intro x2 u_rings u_size u_least u_worth u_path u_ring H locs ls hF hw hl
    rw [fX9_takes_L22.eq_2] at hF
    refine lv_iload_n hx hb dX9_takes_22 rfl (lv_at hl 1 rfl) ?_
    refine lv_aload_n hx hb dX9_takes_23 rfl (lv_at hl 0 rfl) ?_
    refine r_get (ci := 9) (v := .int u_people) cx hw iX9 0 0 rfl rfl (by decide) wf_X9_76 rfl dX9_takes_24 ?_
    refine lv_icmp_gt (tgt := 65) hx hb dX9_takes_27 (by decide) (fun c1 => ?_) (fun c1 => ?_)
    · replace hF := oi_t c1 hF
      exact hk65 u_rings u_size u_least u_worth u_path u_ring H locs ls hF hw (lv_sub hl [0] rfl)
    · replace hF := oi_f c1 hF
      refine lv_iconst (v := 0) hx hb dX9_takes_30 (by decide) ?_
      refine lv_istore_n (lv' := [(3, .int 0), (0, .ref q_), (2, .int x2)]) hx hb dX9_takes_31 rfl hl (by decide) rfl (fun ls hl => ?_)
      refine LX9_takes_32 cx hret (fun u_rings_5 u_size_5 u_least_5 u_worth_5 u_path_5 u_ring_5 H locs ls hF hw hl => ?_) 400 0 u_rings u_size u_least u_worth u_path u_ring H locs ls hF hw (lv_sub hl [1, 2, 0] rfl)
      · refine lv_iinc (v := x2 + 1) (lv' := [(2, .int (x2 + 1)), (0, .ref q_)]) hx hb dX9_takes_59 hl (k := 1) rfl rfl (by decide) rfl (fun ls hl => ?_)
        refine lv_goto (tgt := 22) hx hb dX9_takes_62 (by decide) ?_
        exact ih (x2 + 1) u_rings_5 u_size_5 u_least_5 u_worth_5 u_path_5 u_ring_5 H locs ls hF hw (lv_sub hl [1, 0] rfl)
set_option maxRecDepth 20000 in
theorem CX9_takes (l : Launch) (D : va_G) (C : Nat → ClassId) (q_ q_owes q_denies q_debt q_cut q_sight q_event q_book q_text q_path q_ring q_balance q_left q_sum q_parts q_group q_payment q_then q_image q_tapeSort q_tapeSize q_items : Nat) (u_people : Int32) (u_debts : Int32) (u_cuts : Int32) (u_seen : Int32) (u_events : Int32) (u_inBook : Int32) (u_texted : Int32) (u_rule : Int32) (u_rings : Int32) (u_size : Int32) (u_least : Int32) (u_worth : Int64) (u_groups : Int32) (u_paid : Int32) (u_imaged : Int32) (u_owes : (Nat → Int32)) (u_denies : (Nat → Int32)) (u_path : (Nat → Int32)) (u_ring : (Nat → Int32)) (x1 : Int32) (z : (Int32 × Int32 × Int32 × Int32 × Int32 × Int64 × (Nat → Int32) × (Nat → Int32))) (hF : fX9_takes u_people u_debts u_cuts u_seen u_events u_inBook u_texted u_least u_groups u_paid u_imaged u_owes u_denies u_path u_ring x1 = some z) : Ct l yX9_takes cX9_takes 4 (some .boolean) 12 D C [.ref q_, .int x1] [(q_, .inr (9, [.int u_people, .ref q_owes, .ref q_denies, .int u_debts, .ref q_debt, .int u_cuts, .ref q_cut, .int u_seen, .ref q_sight, .int u_events, .ref q_event, .int u_inBook, .ref q_book, .int u_texted, .ref q_text, .ref q_path, .int u_rule, .int u_rings, .int u_size, .int u_least, .long u_worth, .ref q_ring, .ref q_balance, .ref q_left, .ref q_sum, .ref q_parts, .int u_groups, .ref q_group, .int u_paid, .ref q_payment, .ref q_then, .int u_imaged, .ref q_image, .ref q_tapeSort, .ref q_tapeSize, .ref q_items])), (q_owes, .inl (C 0, 36, .inl u_owes)), (q_denies, .inl (C 0, 36, .inl u_denies)), (q_path, .inl (C 0, 6, .inl u_path)), (q_ring, .inl (C 0, 6, .inl u_ring))] [(q_, .inr (9, [.int u_people, .ref q_owes, .ref q_denies, .int u_debts, .ref q_debt, .int u_cuts, .ref q_cut, .int u_seen, .ref q_sight, .int u_events, .ref q_event, .int u_inBook, .ref q_book, .int u_texted, .ref q_text, .ref q_path, .int z.2.1, .int z.2.2.1, .int z.2.2.2.1, .int z.2.2.2.2.1, .long z.2.2.2.2.2.1, .ref q_ring, .ref q_balance, .ref q_left, .ref q_sum, .ref q_parts, .int u_groups, .ref q_group, .int u_paid, .ref q_payment, .ref q_then, .int u_imaged, .ref q_image, .ref q_tapeSort, .ref q_tapeSize, .ref q_items])), (q_owes, .inl (C 0, 36, .inl u_owes)), (q_denies, .inl (C 0, 36, .inl u_denies)), (q_path, .inl (C 0, 6, .inl z.2.2.2.2.2.2.1)), (q_ring, .inl (C 0, 6, .inl z.2.2.2.2.2.2.2))] (some (.int z.1)) := by
  refine Ct_of (by decide) (Nat.le_of_ble_eq_true rfl) ?_
  intro p e R s m args below meth c A Q H locs ls cx hw hl hret
  have cx : CX p m c s args RX9 cX9_takes 4 D C A R 12 := cx
  have hx := cx.1
  have hb := cx.2.1
  have hl : lv_has ls 4 [(0, .ref q_), (1, .int x1)] := hl
  rw [fX9_takes.eq_1] at hF
  refine lv_aload_n hx hb dX9_takes_0 rfl (lv_at hl 0 rfl) ?_
  refine lv_iload_n hx hb dX9_takes_1 rfl (lv_at hl 1 rfl) ?_
  refine r_put (ci := 9) (w2 := [(q_, .inr (9, [.int u_people, .ref q_owes, .ref q_denies, .int u_debts, .ref q_debt, .int u_cuts, .ref q_cut, .int u_seen, .ref q_sight, .int u_events, .ref q_event, .int u_inBook, .ref q_book, .int u_texted, .ref q_text, .ref q_path, .int x1, .int u_rings, .int u_size, .int u_least, .long u_worth, .ref q_ring, .ref q_balance, .ref q_left, .ref q_sum, .ref q_parts, .int u_groups, .ref q_group, .int u_paid, .ref q_payment, .ref q_then, .int u_imaged, .ref q_image, .ref q_tapeSort, .ref q_tapeSize, .ref q_items])), (q_owes, .inl (C 0, 36, .inl u_owes)), (q_denies, .inl (C 0, 36, .inl u_denies)), (q_path, .inl (C 0, 6, .inl u_path)), (q_ring, .inl (C 0, 6, .inl u_ring))]) cx hw iX9 tyX9_ok nmX9 0 16 rfl rfl (by decide) wf_X9_139 rfl rfl rfl rfl (Nat.le_of_ble_eq_true rfl) dX9_takes_2 rfl (fun H locs hw => ?_)
  refine lv_aload_n hx hb dX9_takes_5 rfl (lv_at hl 0 rfl) ?_
  refine lv_iconst (v := 0) hx hb dX9_takes_6 (by decide) ?_
  refine r_put (ci := 9) (w2 := [(q_, .inr (9, [.int u_people, .ref q_owes, .ref q_denies, .int u_debts, .ref q_debt, .int u_cuts, .ref q_cut, .int u_seen, .ref q_sight, .int u_events, .ref q_event, .int u_inBook, .ref q_book, .int u_texted, .ref q_text, .ref q_path, .int x1, .int 0, .int u_size, .int u_least, .long u_worth, .ref q_ring, .ref q_balance, .ref q_left, .ref q_sum, .ref q_parts, .int u_groups, .ref q_group, .int u_paid, .ref q_payment, .ref q_then, .int u_imaged, .ref q_image, .ref q_tapeSort, .ref q_tapeSize, .ref q_items])), (q_owes, .inl (C 0, 36, .inl u_owes)), (q_denies, .inl (C 0, 36, .inl u_denies)), (q_path, .inl (C 0, 6, .inl u_path)), (q_ring, .inl (C 0, 6, .inl u_ring))]) cx hw iX9 tyX9_ok nmX9 0 17 rfl rfl (by decide) wf_X9_136 rfl rfl rfl rfl (Nat.le_of_ble_eq_true rfl) dX9_takes_7 rfl (fun H locs hw => ?_)
  refine lv_aload_n hx hb dX9_takes_10 rfl (lv_at hl 0 rfl) ?_
  refine lv_iconst (v := 0) hx hb dX9_takes_11 (by decide) ?_
  refine r_put (ci := 9) (w2 := [(q_, .inr (9, [.int u_people, .ref q_owes, .ref q_denies, .int u_debts, .ref q_debt, .int u_cuts, .ref q_cut, .int u_seen, .ref q_sight, .int u_events, .ref q_event, .int u_inBook, .ref q_book, .int u_texted, .ref q_text, .ref q_path, .int x1, .int 0, .int 0, .int u_least, .long u_worth, .ref q_ring, .ref q_balance, .ref q_left, .ref q_sum, .ref q_parts, .int u_groups, .ref q_group, .int u_paid, .ref q_payment, .ref q_then, .int u_imaged, .ref q_image, .ref q_tapeSort, .ref q_tapeSize, .ref q_items])), (q_owes, .inl (C 0, 36, .inl u_owes)), (q_denies, .inl (C 0, 36, .inl u_denies)), (q_path, .inl (C 0, 6, .inl u_path)), (q_ring, .inl (C 0, 6, .inl u_ring))]) cx hw iX9 tyX9_ok nmX9 0 18 rfl rfl (by decide) wf_X9_149 rfl rfl rfl rfl (Nat.le_of_ble_eq_true rfl) dX9_takes_12 rfl (fun H locs hw => ?_)
  refine lv_aload_n hx hb dX9_takes_15 rfl (lv_at hl 0 rfl) ?_
  refine lv_lconst (v := 0) hx hb dX9_takes_16 (by decide) ?_
  refine r_put (ci := 9) (w2 := [(q_, .inr (9, [.int u_people, .ref q_owes, .ref q_denies, .int u_debts, .ref q_debt, .int u_cuts, .ref q_cut, .int u_seen, .ref q_sight, .int u_events, .ref q_event, .int u_inBook, .ref q_book, .int u_texted, .ref q_text, .ref q_path, .int x1, .int 0, .int 0, .int u_least, .long 0, .ref q_ring, .ref q_balance, .ref q_left, .ref q_sum, .ref q_parts, .int u_groups, .ref q_group, .int u_paid, .ref q_payment, .ref q_then, .int u_imaged, .ref q_image, .ref q_tapeSort, .ref q_tapeSize, .ref q_items])), (q_owes, .inl (C 0, 36, .inl u_owes)), (q_denies, .inl (C 0, 36, .inl u_denies)), (q_path, .inl (C 0, 6, .inl u_path)), (q_ring, .inl (C 0, 6, .inl u_ring))]) cx hw iX9 tyX9_ok nmX9 0 20 rfl rfl (by decide) wf_X9_142 rfl rfl rfl rfl (Nat.le_of_ble_eq_true rfl) dX9_takes_17 rfl (fun H locs hw => ?_)
  refine lv_iconst (v := 2) hx hb dX9_takes_20 (by decide) ?_
  refine lv_istore_n (lv' := [(2, .int 2), (0, .ref q_), (1, .int x1)]) hx hb dX9_takes_21 rfl hl (by decide) rfl (fun ls hl => ?_)
  refine LX9_takes_22 cx hret (fun u_rings_6 u_size_6 u_least_6 u_worth_6 u_path_6 u_ring_6 H locs ls hF hw hl => ?_) 400 2 0 0 u_least 0 u_path u_ring H locs ls hF hw (lv_sub hl [1, 0] rfl)
  · refine lv_aload_n hx hb dX9_takes_65 rfl (lv_at hl 0 rfl) ?_
    refine r_get (ci := 9) (v := .int u_size_6) cx hw iX9 0 18 rfl rfl (by decide) wf_X9_149 rfl dX9_takes_66 ?_
    refine lv_if_le (tgt := 76) hx hb dX9_takes_69 (by decide) (fun c7 => ?_) (fun c7 => ?_)
    · replace hF := oi_t c7 hF
      refine lv_iconst (v := 0) hx hb dX9_takes_76 (by decide) ?_
      obtain rfl := Option.some.inj hF
      exact rt_z hret hw rfl rfl dX9_takes_77
    · replace hF := oi_f c7 hF
      refine lv_iconst (v := 1) hx hb dX9_takes_72 (by decide) ?_
      refine lv_goto (tgt := 77) hx hb dX9_takes_73 (by decide) ?_
      obtain rfl := Option.some.inj hF
      exact rt_z hret hw rfl rfl dX9_takes_77
theorem lk_X9_165 : Cond.methodLink RX9 165 yX9_takes ∈ gdt := gdt_of 1030 (by decide +kernel) (by decide +kernel)
theorem my_X9_takes : (yX9_takes.cls ≠ "java/lang/invoke/MethodHandle" ∧ yX9_takes.cls ≠ "java/lang/invoke/VarHandle") ∧ Cond.instanceMethod yX9_takes ∈ gdt ∧ Cond.selects yX9_takes.cls yX9_takes yX9_takes ∈ gdt ∧ Cond.initialized yX9_takes.cls ∈ gdt ∧ Cond.code yX9_takes cX9_takes 4 (some .boolean) ∈ gdt := ⟨⟨by decide +kernel, by decide +kernel⟩, gdt_of 1032 (by decide +kernel) (by decide +kernel), gdt_of 41 (by decide +kernel) (by decide +kernel), gdt_of 77 (by decide +kernel) (by decide +kernel), gdt_of 1033 (by decide +kernel) (by decide +kernel)⟩
theorem ml_X9_takes : (parseMethodDescriptor yX9_takes.desc).map (fun d => d.parameters.length) = some 1 := by decide +kernel
theorem dX9_cuts_0 : decode cX9_cuts 0 = .ok (.aload_n 0, 1) := by decide +kernel
theorem dX9_cuts_1 : decode cX9_cuts 1 = .ok (.iload_n 1, 1) := by decide +kernel
theorem dX9_cuts_2 : decode cX9_cuts 2 = .ok (.invokevirtual 165, 3) := by decide +kernel
theorem dX9_cuts_5 : decode cX9_cuts 5 = .ok (.ifCond .ne 5, 3) := by decide +kernel
theorem dX9_cuts_8 : decode cX9_cuts 8 = .ok (.iconst 0, 1) := by decide +kernel
theorem dX9_cuts_9 : decode cX9_cuts 9 = .ok (.ireturn, 1) := by decide +kernel
theorem dX9_cuts_10 : decode cX9_cuts 10 = .ok (.iconst 0, 1) := by decide +kernel
theorem dX9_cuts_11 : decode cX9_cuts 11 = .ok (.istore_n 2, 1) := by decide +kernel
theorem dX9_cuts_12 : decode cX9_cuts 12 = .ok (.iload_n 2, 1) := by decide +kernel
theorem dX9_cuts_13 : decode cX9_cuts 13 = .ok (.aload_n 0, 1) := by decide +kernel
theorem dX9_cuts_14 : decode cX9_cuts 14 = .ok (.getfield 149, 3) := by decide +kernel
theorem dX9_cuts_17 : decode cX9_cuts 17 = .ok (.if_icmp .ge 49, 3) := by decide +kernel
theorem dX9_cuts_20 : decode cX9_cuts 20 = .ok (.bipush 6, 2) := by decide +kernel
theorem dX9_cuts_22 : decode cX9_cuts 22 = .ok (.aload_n 0, 1) := by decide +kernel
theorem dX9_cuts_23 : decode cX9_cuts 23 = .ok (.getfield 39, 3) := by decide +kernel
theorem dX9_cuts_26 : decode cX9_cuts 26 = .ok (.iload_n 2, 1) := by decide +kernel
theorem dX9_cuts_27 : decode cX9_cuts 27 = .ok (.iaload, 1) := by decide +kernel
theorem dX9_cuts_28 : decode cX9_cuts 28 = .ok (.imul, 1) := by decide +kernel
theorem dX9_cuts_29 : decode cX9_cuts 29 = .ok (.aload_n 0, 1) := by decide +kernel
theorem dX9_cuts_30 : decode cX9_cuts 30 = .ok (.getfield 39, 3) := by decide +kernel
theorem dX9_cuts_33 : decode cX9_cuts 33 = .ok (.iload_n 2, 1) := by decide +kernel
theorem dX9_cuts_34 : decode cX9_cuts 34 = .ok (.iconst 1, 1) := by decide +kernel
theorem dX9_cuts_35 : decode cX9_cuts 35 = .ok (.iadd, 1) := by decide +kernel
theorem dX9_cuts_36 : decode cX9_cuts 36 = .ok (.aload_n 0, 1) := by decide +kernel
theorem dX9_cuts_37 : decode cX9_cuts 37 = .ok (.getfield 149, 3) := by decide +kernel
theorem dX9_cuts_40 : decode cX9_cuts 40 = .ok (.irem, 1) := by decide +kernel
theorem dX9_cuts_41 : decode cX9_cuts 41 = .ok (.iaload, 1) := by decide +kernel
theorem dX9_cuts_42 : decode cX9_cuts 42 = .ok (.iadd, 1) := by decide +kernel
theorem dX9_cuts_43 : decode cX9_cuts 43 = .ok (.istore_n 3, 1) := by decide +kernel
theorem dX9_cuts_44 : decode cX9_cuts 44 = .ok (.aload_n 0, 1) := by decide +kernel
theorem dX9_cuts_45 : decode cX9_cuts 45 = .ok (.iload_n 3, 1) := by decide +kernel
theorem dX9_cuts_46 : decode cX9_cuts 46 = .ok (.aload_n 0, 1) := by decide +kernel
theorem dX9_cuts_47 : decode cX9_cuts 47 = .ok (.getfield 9, 3) := by decide +kernel
theorem dX9_cuts_50 : decode cX9_cuts 50 = .ok (.iload_n 3, 1) := by decide +kernel
theorem dX9_cuts_51 : decode cX9_cuts 51 = .ok (.iaload, 1) := by decide +kernel
theorem dX9_cuts_52 : decode cX9_cuts 52 = .ok (.aload_n 0, 1) := by decide +kernel
theorem dX9_cuts_53 : decode cX9_cuts 53 = .ok (.getfield 152, 3) := by decide +kernel
theorem dX9_cuts_56 : decode cX9_cuts 56 = .ok (.isub, 1) := by decide +kernel
theorem dX9_cuts_57 : decode cX9_cuts 57 = .ok (.invokevirtual 99, 3) := by decide +kernel
theorem dX9_cuts_60 : decode cX9_cuts 60 = .ok (.iinc 2 1, 3) := by decide +kernel
theorem dX9_cuts_63 : decode cX9_cuts 63 = .ok (.goto (-51), 3) := by decide +kernel
theorem dX9_cuts_66 : decode cX9_cuts 66 = .ok (.iconst 1, 1) := by decide +kernel
theorem dX9_cuts_67 : decode cX9_cuts 67 = .ok (.ireturn, 1) := by decide +kernel
def fX9_cuts_L12 (u_rule : Int32) (u_rings : Int32) (u_size : Int32) (u_least : Int32) (u_worth : Int64) (u_path : (Nat → Int32)) (u_ring : (Nat → Int32)) : Nat → Int32 → Int32 → (Nat → Int32) → (Nat → Int32) → Option (Int32 × Int32 × Int32 × Int32 × Int32 × Int32 × Int64 × (Nat → Int32) × (Nat → Int32) × (Nat → Int32) × (Nat → Int32))
  | 0, _, _, _, _ => none
  | n + 1, x2, u_debts, u_owes, u_debt => if u_size ≤ x2 then (some (1, u_debts, u_rule, u_rings, u_size, u_least, u_worth, u_owes, u_debt, u_path, u_ring)) else (gA x2 6 (gZ u_size (gA ((x2 + 1) - (x2 + 1) / u_size * u_size) 6 (gA ((6 * (u_ring (x2).toNatClampNeg)) + (u_ring ((x2 + 1) - (x2 + 1) / u_size * u_size).toNatClampNeg)) 36 ((fX9_becomes u_debts u_owes u_debt ((6 * (u_ring (x2).toNatClampNeg)) + (u_ring ((x2 + 1) - (x2 + 1) / u_size * u_size).toNatClampNeg)) ((u_owes ((6 * (u_ring (x2).toNatClampNeg)) + (u_ring ((x2 + 1) - (x2 + 1) / u_size * u_size).toNatClampNeg)).toNatClampNeg) - u_least)).bind (fun z8 => fX9_cuts_L12 u_rule u_rings u_size u_least u_worth u_path u_ring n (x2 + 1) z8.1 z8.2.1 z8.2.2))))))
def fX9_cuts (u_people : Int32) (u_debts : Int32) (u_cuts : Int32) (u_seen : Int32) (u_events : Int32) (u_inBook : Int32) (u_texted : Int32) (u_least : Int32) (u_groups : Int32) (u_paid : Int32) (u_imaged : Int32) (u_owes : (Nat → Int32)) (u_denies : (Nat → Int32)) (u_debt : (Nat → Int32)) (u_path : (Nat → Int32)) (u_ring : (Nat → Int32)) (x1 : Int32) : Option (Int32 × Int32 × Int32 × Int32 × Int32 × Int32 × Int64 × (Nat → Int32) × (Nat → Int32) × (Nat → Int32) × (Nat → Int32)) := (fX9_takes u_people u_debts u_cuts u_seen u_events u_inBook u_texted u_least u_groups u_paid u_imaged u_owes u_denies u_path u_ring x1).bind (fun z1 => if z1.1 = 0 then (some (0, u_debts, z1.2.1, z1.2.2.1, z1.2.2.2.1, z1.2.2.2.2.1, z1.2.2.2.2.2.1, u_owes, u_debt, z1.2.2.2.2.2.2.1, z1.2.2.2.2.2.2.2)) else (fX9_cuts_L12 z1.2.1 z1.2.2.1 z1.2.2.2.1 z1.2.2.2.2.1 z1.2.2.2.2.2.1 z1.2.2.2.2.2.2.1 z1.2.2.2.2.2.2.2 400 0 u_debts u_owes u_debt))
set_option maxRecDepth 20000 in
theorem LX9_cuts_12 {p : Program} {l : Launch} {e : Env} {R : Room} {s : State} {m : MethodId} {args : Array Value} {below : List Frame} {meth : Method} {c : Code} {Q : State → Prop} {D : va_G} {C : Nat → ClassId} {A : Nat → Prop} (cx : CX p m c s args RX9 cX9_cuts 4 D C A R 13) {q_ q_owes q_denies q_debt q_cut q_sight q_event q_book q_text q_path q_ring q_balance q_left q_sum q_parts q_group q_payment q_then q_image q_tapeSort q_tapeSize q_items : Nat} {u_people : Int32} {u_cuts : Int32} {u_seen : Int32} {u_events : Int32} {u_inBook : Int32} {u_texted : Int32} {u_rule : Int32} {u_rings : Int32} {u_size : Int32} {u_least : Int32} {u_worth : Int64} {u_groups : Int32} {u_paid : Int32} {u_imaged : Int32} {u_denies : (Nat → Int32)} {u_path : (Nat → Int32)} {u_ring : (Nat → Int32)} {z : (Int32 × Int32 × Int32 × Int32 × Int32 × Int32 × Int64 × (Nat → Int32) × (Nat → Int32) × (Nat → Int32) × (Nat → Int32))} (hret : RT p l e R s m args below meth c Q D A cX9_cuts (some .boolean) [(q_, .inr (9, [.int u_people, .ref q_owes, .ref q_denies, .int z.2.1, .ref q_debt, .int u_cuts, .ref q_cut, .int u_seen, .ref q_sight, .int u_events, .ref q_event, .int u_inBook, .ref q_book, .int u_texted, .ref q_text, .ref q_path, .int z.2.2.1, .int z.2.2.2.1, .int z.2.2.2.2.1, .int z.2.2.2.2.2.1, .long z.2.2.2.2.2.2.1, .ref q_ring, .ref q_balance, .ref q_left, .ref q_sum, .ref q_parts, .int u_groups, .ref q_group, .int u_paid, .ref q_payment, .ref q_then, .int u_imaged, .ref q_image, .ref q_tapeSort, .ref q_tapeSize, .ref q_items])), (q_owes, .inl (C 0, 36, .inl z.2.2.2.2.2.2.2.1)), (q_denies, .inl (C 0, 36, .inl u_denies)), (q_debt, .inl (C 0, 30, .inl z.2.2.2.2.2.2.2.2.1)), (q_path, .inl (C 0, 6, .inl z.2.2.2.2.2.2.2.2.2.1)), (q_ring, .inl (C 0, 6, .inl z.2.2.2.2.2.2.2.2.2.2))] (some (.int z.1))) :
    ∀ (n : Nat) (x2 : Int32) (u_debts : Int32) (u_owes : (Nat → Int32)) (u_debt : (Nat → Int32)) (H : Heap) (locs : List Loc) (ls : Array Slot), fX9_cuts_L12 u_rule u_rings u_size u_least u_worth u_path u_ring n x2 u_debts u_owes u_debt = some z → HW D A s.heap H locs [(q_, .inr (9, [.int u_people, .ref q_owes, .ref q_denies, .int u_debts, .ref q_debt, .int u_cuts, .ref q_cut, .int u_seen, .ref q_sight, .int u_events, .ref q_event, .int u_inBook, .ref q_book, .int u_texted, .ref q_text, .ref q_path, .int u_rule, .int u_rings, .int u_size, .int u_least, .long u_worth, .ref q_ring, .ref q_balance, .ref q_left, .ref q_sum, .ref q_parts, .int u_groups, .ref q_group, .int u_paid, .ref q_payment, .ref q_then, .int u_imaged, .ref q_image, .ref q_tapeSort, .ref q_tapeSize, .ref q_items])), (q_owes, .inl (C 0, 36, .inl u_owes)), (q_denies, .inl (C 0, 36, .inl u_denies)), (q_debt, .inl (C 0, 30, .inl u_debt)), (q_path, .inl (C 0, 6, .inl u_path)), (q_ring, .inl (C 0, 6, .inl u_ring))] → lv_has ls 4 [(0, .ref q_), (2, .int x2)] → W p l e R s m args below meth c H locs 0 0 Q (F0 m 12 ls []) := by
  have hx := cx.1
  have hb := cx.2.1
  intro n
  induction n with
  | zero => intro x2 u_debts u_owes u_debt H locs ls hF; cases hF
  | succ n ih =>
    intro x2 u_debts u_owes u_debt H locs ls hF hw hl
    rw [fX9_cuts_L12.eq_2] at hF
    refine lv_iload_n hx hb dX9_cuts_12 rfl (lv_at hl 1 rfl) ?_
    refine lv_aload_n hx hb dX9_cuts_13 rfl (lv_at hl 0 rfl) ?_
    refine r_get (ci := 9) (v := .int u_size) cx hw iX9 0 18 rfl rfl (by decide) wf_X9_149 rfl dX9_cuts_14 ?_
    refine lv_icmp_ge (tgt := 66) hx hb dX9_cuts_17 (by decide) (fun c3 => ?_) (fun c3 => ?_)
    · replace hF := oi_t c3 hF
      refine lv_iconst (v := 1) hx hb dX9_cuts_66 (by decide) ?_
      obtain rfl := Option.some.inj hF
      exact rt_z hret hw rfl rfl dX9_cuts_67
    · replace hF := oi_f c3 hF
      refine lv_bipush (v := 6) hx hb dX9_cuts_20 (by decide) ?_
      refine lv_aload_n hx hb dX9_cuts_22 rfl (lv_at hl 0 rfl) ?_
      refine r_get (ci := 9) (v := .ref q_ring) cx hw iX9 0 21 rfl rfl (by decide) wf_X9_39 rfl dX9_cuts_23 ?_
      refine lv_iload_n hx hb dX9_cuts_26 rfl (lv_at hl 1 rfl) ?_
      obtain ⟨g4, hF⟩ := gA_s hF
      refine r_iald cx hw 5 rfl g4 dX9_cuts_27 ?_
      refine lv_imul hx hb dX9_cuts_28 ?_
      refine lv_aload_n hx hb dX9_cuts_29 rfl (lv_at hl 0 rfl) ?_
      refine r_get (ci := 9) (v := .ref q_ring) cx hw iX9 0 21 rfl rfl (by decide) wf_X9_39 rfl dX9_cuts_30 ?_
      refine lv_iload_n hx hb dX9_cuts_33 rfl (lv_at hl 1 rfl) ?_
      refine lv_iconst (v := 1) hx hb dX9_cuts_34 (by decide) ?_
      refine lv_iadd hx hb dX9_cuts_35 ?_
      refine lv_aload_n hx hb dX9_cuts_36 rfl (lv_at hl 0 rfl) ?_
      refine r_get (ci := 9) (v := .int u_size) cx hw iX9 0 18 rfl rfl (by decide) wf_X9_149 rfl dX9_cuts_37 ?_
      obtain ⟨g5, hF⟩ := gZ_s hF
      refine lv_irem hx hb dX9_cuts_40 g5 ?_
      obtain ⟨g6, hF⟩ := gA_s hF
      refine r_iald cx hw 5 rfl g6 dX9_cuts_41 ?_
      refine lv_iadd hx hb dX9_cuts_42 ?_
      refine lv_istore_n (lv' := [(3, .int ((6 * (u_ring (x2).toNatClampNeg)) + (u_ring ((x2 + 1) - (x2 + 1) / u_size * u_size).toNatClampNeg))), (0, .ref q_), (2, .int x2)]) hx hb dX9_cuts_43 rfl hl (by decide) rfl (fun ls hl => ?_)
      refine lv_aload_n hx hb dX9_cuts_44 rfl (lv_at hl 1 rfl) ?_
      refine lv_iload_n hx hb dX9_cuts_45 rfl (lv_at hl 0 rfl) ?_
      refine lv_aload_n hx hb dX9_cuts_46 rfl (lv_at hl 1 rfl) ?_
      refine r_get (ci := 9) (v := .ref q_owes) cx hw iX9 0 1 rfl rfl (by decide) wf_X9_9 rfl dX9_cuts_47 ?_
      refine lv_iload_n hx hb dX9_cuts_50 rfl (lv_at hl 0 rfl) ?_
      obtain ⟨g7, hF⟩ := gA_s hF
      refine r_iald cx hw 1 rfl g7 dX9_cuts_51 ?_
      refine lv_aload_n hx hb dX9_cuts_52 rfl (lv_at hl 1 rfl) ?_
      refine r_get (ci := 9) (v := .int u_least) cx hw iX9 0 19 rfl rfl (by decide) wf_X9_152 rfl dX9_cuts_53 ?_
      refine lv_isub hx hb dX9_cuts_56 ?_
      obtain ⟨z8, hz8, hF⟩ := ob hF
      refine cV (wr := [(q_denies, .inl (C 0, 36, .inl u_denies)), (q_path, .inl (C 0, 6, .inl u_path)), (q_ring, .inl (C 0, 6, .inl u_ring))]) (w2 := [(q_, .inr (9, [.int u_people, .ref q_owes, .ref q_denies, .int z8.1, .ref q_debt, .int u_cuts, .ref q_cut, .int u_seen, .ref q_sight, .int u_events, .ref q_event, .int u_inBook, .ref q_book, .int u_texted, .ref q_text, .ref q_path, .int u_rule, .int u_rings, .int u_size, .int u_least, .long u_worth, .ref q_ring, .ref q_balance, .ref q_left, .ref q_sum, .ref q_parts, .int u_groups, .ref q_group, .int u_paid, .ref q_payment, .ref q_then, .int u_imaged, .ref q_image, .ref q_tapeSort, .ref q_tapeSize, .ref q_items])), (q_owes, .inl (C 0, 36, .inl z8.2.1)), (q_denies, .inl (C 0, 36, .inl u_denies)), (q_debt, .inl (C 0, 30, .inl z8.2.2)), (q_path, .inl (C 0, 6, .inl u_path)), (q_ring, .inl (C 0, 6, .inl u_ring))]) (st2 := []) cx (CX9_becomes l D C q_ q_owes q_denies q_debt q_cut q_sight q_event q_book q_text q_path q_ring q_balance q_left q_sum q_parts q_group q_payment q_then q_image q_tapeSort q_tapeSize q_items u_people u_debts u_cuts u_seen u_events u_inBook u_texted u_rule u_rings u_size u_least u_worth u_groups u_paid u_imaged u_owes u_debt ((6 * (u_ring (x2).toNatClampNeg)) + (u_ring ((x2 + 1) - (x2 + 1) / u_size * u_size).toNatClampNeg)) ((u_owes ((6 * (u_ring (x2).toNatClampNeg)) + (u_ring ((x2 + 1) - (x2 + 1) / u_size * u_size).toNatClampNeg)).toNatClampNeg) - u_least) z8 hz8) lk_X9_99 my_X9_becomes ml_X9_becomes ⟨by decide, by decide⟩ hw [0, 1, 3] [2, 4, 5] [3, 4, 0, 5, 1, 2] rfl rfl (by decide) rfl rfl rfl rfl (Nat.le_of_ble_eq_true rfl) dX9_cuts_57 rfl (fun H locs hw => ?_) hl.1
      refine lv_iinc (v := x2 + 1) (lv' := [(2, .int (x2 + 1)), (3, .int ((6 * (u_ring (x2).toNatClampNeg)) + (u_ring ((x2 + 1) - (x2 + 1) / u_size * u_size).toNatClampNeg))), (0, .ref q_)]) hx hb dX9_cuts_60 hl (k := 2) rfl rfl (by decide) rfl (fun ls hl => ?_)
      refine lv_goto (tgt := 12) hx hb dX9_cuts_63 (by decide) ?_
      exact ih (x2 + 1) z8.1 z8.2.1 z8.2.2 H locs ls hF hw (lv_sub hl [2, 0] rfl)
set_option maxRecDepth 20000 in
theorem CX9_cuts (l : Launch) (D : va_G) (C : Nat → ClassId) (q_ q_owes q_denies q_debt q_cut q_sight q_event q_book q_text q_path q_ring q_balance q_left q_sum q_parts q_group q_payment q_then q_image q_tapeSort q_tapeSize q_items : Nat) (u_people : Int32) (u_debts : Int32) (u_cuts : Int32) (u_seen : Int32) (u_events : Int32) (u_inBook : Int32) (u_texted : Int32) (u_rule : Int32) (u_rings : Int32) (u_size : Int32) (u_least : Int32) (u_worth : Int64) (u_groups : Int32) (u_paid : Int32) (u_imaged : Int32) (u_owes : (Nat → Int32)) (u_denies : (Nat → Int32)) (u_debt : (Nat → Int32)) (u_path : (Nat → Int32)) (u_ring : (Nat → Int32)) (x1 : Int32) (z : (Int32 × Int32 × Int32 × Int32 × Int32 × Int32 × Int64 × (Nat → Int32) × (Nat → Int32) × (Nat → Int32) × (Nat → Int32))) (hF : fX9_cuts u_people u_debts u_cuts u_seen u_events u_inBook u_texted u_least u_groups u_paid u_imaged u_owes u_denies u_debt u_path u_ring x1 = some z) : Ct l yX9_cuts cX9_cuts 4 (some .boolean) 13 D C [.ref q_, .int x1] [(q_, .inr (9, [.int u_people, .ref q_owes, .ref q_denies, .int u_debts, .ref q_debt, .int u_cuts, .ref q_cut, .int u_seen, .ref q_sight, .int u_events, .ref q_event, .int u_inBook, .ref q_book, .int u_texted, .ref q_text, .ref q_path, .int u_rule, .int u_rings, .int u_size, .int u_least, .long u_worth, .ref q_ring, .ref q_balance, .ref q_left, .ref q_sum, .ref q_parts, .int u_groups, .ref q_group, .int u_paid, .ref q_payment, .ref q_then, .int u_imaged, .ref q_image, .ref q_tapeSort, .ref q_tapeSize, .ref q_items])), (q_owes, .inl (C 0, 36, .inl u_owes)), (q_denies, .inl (C 0, 36, .inl u_denies)), (q_debt, .inl (C 0, 30, .inl u_debt)), (q_path, .inl (C 0, 6, .inl u_path)), (q_ring, .inl (C 0, 6, .inl u_ring))] [(q_, .inr (9, [.int u_people, .ref q_owes, .ref q_denies, .int z.2.1, .ref q_debt, .int u_cuts, .ref q_cut, .int u_seen, .ref q_sight, .int u_events, .ref q_event, .int u_inBook, .ref q_book, .int u_texted, .ref q_text, .ref q_path, .int z.2.2.1, .int z.2.2.2.1, .int z.2.2.2.2.1, .int z.2.2.2.2.2.1, .long z.2.2.2.2.2.2.1, .ref q_ring, .ref q_balance, .ref q_left, .ref q_sum, .ref q_parts, .int u_groups, .ref q_group, .int u_paid, .ref q_payment, .ref q_then, .int u_imaged, .ref q_image, .ref q_tapeSort, .ref q_tapeSize, .ref q_items])), (q_owes, .inl (C 0, 36, .inl z.2.2.2.2.2.2.2.1)), (q_denies, .inl (C 0, 36, .inl u_denies)), (q_debt, .inl (C 0, 30, .inl z.2.2.2.2.2.2.2.2.1)), (q_path, .inl (C 0, 6, .inl z.2.2.2.2.2.2.2.2.2.1)), (q_ring, .inl (C 0, 6, .inl z.2.2.2.2.2.2.2.2.2.2))] (some (.int z.1)) := by
  refine Ct_of (by decide) (Nat.le_of_ble_eq_true rfl) ?_
  intro p e R s m args below meth c A Q H locs ls cx hw hl hret
  have cx : CX p m c s args RX9 cX9_cuts 4 D C A R 13 := cx
  have hx := cx.1
  have hb := cx.2.1
  have hl : lv_has ls 4 [(0, .ref q_), (1, .int x1)] := hl
  rw [fX9_cuts.eq_1] at hF
  refine lv_aload_n hx hb dX9_cuts_0 rfl (lv_at hl 0 rfl) ?_
  refine lv_iload_n hx hb dX9_cuts_1 rfl (lv_at hl 1 rfl) ?_
  obtain ⟨z1, hz1, hF⟩ := ob hF
  refine cV (wr := [(q_debt, .inl (C 0, 30, .inl u_debt))]) (w2 := [(q_, .inr (9, [.int u_people, .ref q_owes, .ref q_denies, .int u_debts, .ref q_debt, .int u_cuts, .ref q_cut, .int u_seen, .ref q_sight, .int u_events, .ref q_event, .int u_inBook, .ref q_book, .int u_texted, .ref q_text, .ref q_path, .int z1.2.1, .int z1.2.2.1, .int z1.2.2.2.1, .int z1.2.2.2.2.1, .long z1.2.2.2.2.2.1, .ref q_ring, .ref q_balance, .ref q_left, .ref q_sum, .ref q_parts, .int u_groups, .ref q_group, .int u_paid, .ref q_payment, .ref q_then, .int u_imaged, .ref q_image, .ref q_tapeSort, .ref q_tapeSize, .ref q_items])), (q_owes, .inl (C 0, 36, .inl u_owes)), (q_denies, .inl (C 0, 36, .inl u_denies)), (q_debt, .inl (C 0, 30, .inl u_debt)), (q_path, .inl (C 0, 6, .inl z1.2.2.2.2.2.2.1)), (q_ring, .inl (C 0, 6, .inl z1.2.2.2.2.2.2.2))]) (st2 := [.int z1.1]) cx (CX9_takes l D C q_ q_owes q_denies q_debt q_cut q_sight q_event q_book q_text q_path q_ring q_balance q_left q_sum q_parts q_group q_payment q_then q_image q_tapeSort q_tapeSize q_items u_people u_debts u_cuts u_seen u_events u_inBook u_texted u_rule u_rings u_size u_least u_worth u_groups u_paid u_imaged u_owes u_denies u_path u_ring x1 z1 hz1) lk_X9_165 my_X9_takes ml_X9_takes ⟨by decide, by decide⟩ hw [0, 1, 2, 4, 5] [3] [1, 2, 3, 0, 4, 5] rfl rfl (by decide) rfl rfl rfl rfl (Nat.le_of_ble_eq_true rfl) dX9_cuts_2 rfl (fun H locs hw => ?_) hl.1
  refine lv_if_ne (tgt := 10) hx hb dX9_cuts_5 (by decide) (fun c2 => ?_) (fun c2 => ?_)
  · replace hF := oi_f c2 hF
    refine lv_iconst (v := 0) hx hb dX9_cuts_10 (by decide) ?_
    refine lv_istore_n (lv' := [(2, .int 0), (0, .ref q_), (1, .int x1)]) hx hb dX9_cuts_11 rfl hl (by decide) rfl (fun ls hl => ?_)
    refine LX9_cuts_12 cx hret 400 0 u_debts u_owes u_debt H locs ls hF hw (lv_sub hl [1, 0] rfl)
  · replace hF := oi_t c2 hF
    refine lv_iconst (v := 0) hx hb dX9_cuts_8 (by decide) ?_
    obtain rfl := Option.some.inj hF
    exact rt_z hret hw rfl rfl dX9_cuts_9
theorem wf_X9_168 : Cond.fieldLink RX9 168 (TX9 5).1 (TX9 5).2.1 (TX9 5).2.2.1 ∈ gdt := gdt_of 845 (by decide +kernel) (by decide +kernel)
theorem lk_X9_171 : Cond.methodLink RX9 171 yX9_cuts ∈ gdt := gdt_of 1026 (by decide +kernel) (by decide +kernel)
theorem wf_X9_21 : Cond.fieldLink RX9 21 (TX9 6).1 (TX9 6).2.1 (TX9 6).2.2.1 ∈ gdt := gdt_of 846 (by decide +kernel) (by decide +kernel)
theorem my_X9_cuts : (yX9_cuts.cls ≠ "java/lang/invoke/MethodHandle" ∧ yX9_cuts.cls ≠ "java/lang/invoke/VarHandle") ∧ Cond.instanceMethod yX9_cuts ∈ gdt ∧ Cond.selects yX9_cuts.cls yX9_cuts yX9_cuts ∈ gdt ∧ Cond.initialized yX9_cuts.cls ∈ gdt ∧ Cond.code yX9_cuts cX9_cuts 4 (some .boolean) ∈ gdt := ⟨⟨by decide +kernel, by decide +kernel⟩, gdt_of 1028 (by decide +kernel) (by decide +kernel), gdt_of 40 (by decide +kernel) (by decide +kernel), gdt_of 77 (by decide +kernel) (by decide +kernel), gdt_of 1029 (by decide +kernel) (by decide +kernel)⟩
theorem ml_X9_cuts : (parseMethodDescriptor yX9_cuts.desc).map (fun d => d.parameters.length) = some 1 := by decide +kernel
theorem dX9_cut_0 : decode cX9_cut 0 = .ok (.iload_n 1, 1) := by decide +kernel
theorem dX9_cut_1 : decode cX9_cut 1 = .ok (.iconst 0, 1) := by decide +kernel
theorem dX9_cut_2 : decode cX9_cut 2 = .ok (.iconst 3, 1) := by decide +kernel
theorem dX9_cut_3 : decode cX9_cut 3 = .ok (.invokestatic 80, 3) := by decide +kernel
theorem dX9_cut_6 : decode cX9_cut 6 = .ok (.ifCond .eq 13, 3) := by decide +kernel
theorem dX9_cut_9 : decode cX9_cut 9 = .ok (.iload_n 2, 1) := by decide +kernel
theorem dX9_cut_10 : decode cX9_cut 10 = .ok (.iconst 0, 1) := by decide +kernel
theorem dX9_cut_11 : decode cX9_cut 11 = .ok (.bipush 40, 2) := by decide +kernel
theorem dX9_cut_13 : decode cX9_cut 13 = .ok (.invokestatic 80, 3) := by decide +kernel
theorem dX9_cut_16 : decode cX9_cut 16 = .ok (.ifCond .ne 6, 3) := by decide +kernel
theorem dX9_cut_19 : decode cX9_cut 19 = .ok (.bipush (-2), 2) := by decide +kernel
theorem dX9_cut_21 : decode cX9_cut 21 = .ok (.ireturn, 1) := by decide +kernel
theorem dX9_cut_22 : decode cX9_cut 22 = .ok (.iconst 0, 1) := by decide +kernel
theorem dX9_cut_23 : decode cX9_cut 23 = .ok (.istore_n 3, 1) := by decide +kernel
theorem dX9_cut_24 : decode cX9_cut 24 = .ok (.iload_n 3, 1) := by decide +kernel
theorem dX9_cut_25 : decode cX9_cut 25 = .ok (.iload_n 2, 1) := by decide +kernel
theorem dX9_cut_26 : decode cX9_cut 26 = .ok (.if_icmp .ge 82, 3) := by decide +kernel
theorem dX9_cut_29 : decode cX9_cut 29 = .ok (.aload_n 0, 1) := by decide +kernel
theorem dX9_cut_30 : decode cX9_cut 30 = .ok (.getfield 168, 3) := by decide +kernel
theorem dX9_cut_33 : decode cX9_cut 33 = .ok (.bipush 40, 2) := by decide +kernel
theorem dX9_cut_35 : decode cX9_cut 35 = .ok (.if_icmp .ge 73, 3) := by decide +kernel
theorem dX9_cut_38 : decode cX9_cut 38 = .ok (.aload_n 0, 1) := by decide +kernel
theorem dX9_cut_39 : decode cX9_cut 39 = .ok (.iload_n 1, 1) := by decide +kernel
theorem dX9_cut_40 : decode cX9_cut 40 = .ok (.invokevirtual 171, 3) := by decide +kernel
theorem dX9_cut_43 : decode cX9_cut 43 = .ok (.ifCond .eq 65, 3) := by decide +kernel
theorem dX9_cut_46 : decode cX9_cut 46 = .ok (.aload_n 0, 1) := by decide +kernel
theorem dX9_cut_47 : decode cX9_cut 47 = .ok (.getfield 21, 3) := by decide +kernel
theorem dX9_cut_50 : decode cX9_cut 50 = .ok (.iconst 3, 1) := by decide +kernel
theorem dX9_cut_51 : decode cX9_cut 51 = .ok (.aload_n 0, 1) := by decide +kernel
theorem dX9_cut_52 : decode cX9_cut 52 = .ok (.getfield 168, 3) := by decide +kernel
theorem dX9_cut_55 : decode cX9_cut 55 = .ok (.imul, 1) := by decide +kernel
theorem dX9_cut_56 : decode cX9_cut 56 = .ok (.iload_n 1, 1) := by decide +kernel
theorem dX9_cut_57 : decode cX9_cut 57 = .ok (.iastore, 1) := by decide +kernel
theorem dX9_cut_58 : decode cX9_cut 58 = .ok (.aload_n 0, 1) := by decide +kernel
theorem dX9_cut_59 : decode cX9_cut 59 = .ok (.getfield 21, 3) := by decide +kernel
theorem dX9_cut_62 : decode cX9_cut 62 = .ok (.iconst 3, 1) := by decide +kernel
theorem dX9_cut_63 : decode cX9_cut 63 = .ok (.aload_n 0, 1) := by decide +kernel
theorem dX9_cut_64 : decode cX9_cut 64 = .ok (.getfield 168, 3) := by decide +kernel
theorem dX9_cut_67 : decode cX9_cut 67 = .ok (.imul, 1) := by decide +kernel
theorem dX9_cut_68 : decode cX9_cut 68 = .ok (.iconst 1, 1) := by decide +kernel
theorem dX9_cut_69 : decode cX9_cut 69 = .ok (.iadd, 1) := by decide +kernel
theorem dX9_cut_70 : decode cX9_cut 70 = .ok (.aload_n 0, 1) := by decide +kernel
theorem dX9_cut_71 : decode cX9_cut 71 = .ok (.getfield 149, 3) := by decide +kernel
theorem dX9_cut_74 : decode cX9_cut 74 = .ok (.iastore, 1) := by decide +kernel
theorem dX9_cut_75 : decode cX9_cut 75 = .ok (.aload_n 0, 1) := by decide +kernel
theorem dX9_cut_76 : decode cX9_cut 76 = .ok (.getfield 21, 3) := by decide +kernel
theorem dX9_cut_79 : decode cX9_cut 79 = .ok (.iconst 3, 1) := by decide +kernel
theorem dX9_cut_80 : decode cX9_cut 80 = .ok (.aload_n 0, 1) := by decide +kernel
theorem dX9_cut_81 : decode cX9_cut 81 = .ok (.getfield 168, 3) := by decide +kernel
theorem dX9_cut_84 : decode cX9_cut 84 = .ok (.imul, 1) := by decide +kernel
theorem dX9_cut_85 : decode cX9_cut 85 = .ok (.iconst 2, 1) := by decide +kernel
theorem dX9_cut_86 : decode cX9_cut 86 = .ok (.iadd, 1) := by decide +kernel
theorem dX9_cut_87 : decode cX9_cut 87 = .ok (.aload_n 0, 1) := by decide +kernel
theorem dX9_cut_88 : decode cX9_cut 88 = .ok (.getfield 152, 3) := by decide +kernel
theorem dX9_cut_91 : decode cX9_cut 91 = .ok (.iastore, 1) := by decide +kernel
theorem dX9_cut_92 : decode cX9_cut 92 = .ok (.aload_n 0, 1) := by decide +kernel
theorem dX9_cut_93 : decode cX9_cut 93 = .ok (.dup, 1) := by decide +kernel
theorem dX9_cut_94 : decode cX9_cut 94 = .ok (.getfield 168, 3) := by decide +kernel
theorem dX9_cut_97 : decode cX9_cut 97 = .ok (.iconst 1, 1) := by decide +kernel
theorem dX9_cut_98 : decode cX9_cut 98 = .ok (.iadd, 1) := by decide +kernel
theorem dX9_cut_99 : decode cX9_cut 99 = .ok (.putfield 168, 3) := by decide +kernel
theorem dX9_cut_102 : decode cX9_cut 102 = .ok (.iinc 3 1, 3) := by decide +kernel
theorem dX9_cut_105 : decode cX9_cut 105 = .ok (.goto (-81), 3) := by decide +kernel
theorem dX9_cut_108 : decode cX9_cut 108 = .ok (.iload_n 3, 1) := by decide +kernel
theorem dX9_cut_109 : decode cX9_cut 109 = .ok (.ireturn, 1) := by decide +kernel
def fX9_cut_L24 (u_people : Int32) (u_seen : Int32) (u_events : Int32) (u_inBook : Int32) (u_texted : Int32) (u_groups : Int32) (u_paid : Int32) (u_imaged : Int32) (u_denies : (Nat → Int32)) (x1 : Int32) (x2 : Int32) : Nat → Int32 → Int32 → Int32 → Int32 → Int32 → Int32 → Int32 → Int64 → (Nat → Int32) → (Nat → Int32) → (Nat → Int32) → (Nat → Int32) → (Nat → Int32) → Option (Int32 × Int32 × Int32 × Int32 × Int32 × Int32 × Int32 × Int64 × (Nat → Int32) × (Nat → Int32) × (Nat → Int32) × (Nat → Int32) × (Nat → Int32))
  | 0, _, _, _, _, _, _, _, _, _, _, _, _, _ => none
  | n + 1, x3, u_debts, u_cuts, u_rule, u_rings, u_size, u_least, u_worth, u_owes, u_debt, u_cut, u_path, u_ring => if x2 ≤ x3 then (some (x3, u_debts, u_cuts, u_rule, u_rings, u_size, u_least, u_worth, u_owes, u_debt, u_cut, u_path, u_ring)) else (if 40 ≤ u_cuts then (some (x3, u_debts, u_cuts, u_rule, u_rings, u_size, u_least, u_worth, u_owes, u_debt, u_cut, u_path, u_ring)) else ((fX9_cuts u_people u_debts u_cuts u_seen u_events u_inBook u_texted u_least u_groups u_paid u_imaged u_owes u_denies u_debt u_path u_ring x1).bind (fun z7 => if z7.1 = 0 then (some (x3, z7.2.1, u_cuts, z7.2.2.1, z7.2.2.2.1, z7.2.2.2.2.1, z7.2.2.2.2.2.1, z7.2.2.2.2.2.2.1, z7.2.2.2.2.2.2.2.1, z7.2.2.2.2.2.2.2.2.1, u_cut, z7.2.2.2.2.2.2.2.2.2.1, z7.2.2.2.2.2.2.2.2.2.2)) else (gA (3 * u_cuts) 120 (gA ((3 * u_cuts) + 1) 120 (gA ((3 * u_cuts) + 2) 120 (fX9_cut_L24 u_people u_seen u_events u_inBook u_texted u_groups u_paid u_imaged u_denies x1 x2 n (x3 + 1) z7.2.1 (u_cuts + 1) z7.2.2.1 z7.2.2.2.1 z7.2.2.2.2.1 z7.2.2.2.2.2.1 z7.2.2.2.2.2.2.1 z7.2.2.2.2.2.2.2.1 z7.2.2.2.2.2.2.2.2.1 (upd (upd (upd u_cut (3 * u_cuts : Int32).toNatClampNeg x1) ((3 * u_cuts) + 1 : Int32).toNatClampNeg z7.2.2.2.2.1) ((3 * u_cuts) + 2 : Int32).toNatClampNeg z7.2.2.2.2.2.1) z7.2.2.2.2.2.2.2.2.2.1 z7.2.2.2.2.2.2.2.2.2.2)))))))
def fX9_cut (u_people : Int32) (u_debts : Int32) (u_cuts : Int32) (u_seen : Int32) (u_events : Int32) (u_inBook : Int32) (u_texted : Int32) (u_rule : Int32) (u_rings : Int32) (u_size : Int32) (u_least : Int32) (u_worth : Int64) (u_groups : Int32) (u_paid : Int32) (u_imaged : Int32) (u_owes : (Nat → Int32)) (u_denies : (Nat → Int32)) (u_debt : (Nat → Int32)) (u_cut : (Nat → Int32)) (u_path : (Nat → Int32)) (u_ring : (Nat → Int32)) (x1 : Int32) (x2 : Int32) : Option (Int32 × Int32 × Int32 × Int32 × Int32 × Int32 × Int32 × Int64 × (Nat → Int32) × (Nat → Int32) × (Nat → Int32) × (Nat → Int32) × (Nat → Int32)) := (fX9_within x1 0 3).bind (fun z1 => if z1 = 0 then (some ((-2), u_debts, u_cuts, u_rule, u_rings, u_size, u_least, u_worth, u_owes, u_debt, u_cut, u_path, u_ring)) else ((fX9_within x2 0 40).bind (fun z3 => if z3 = 0 then (some ((-2), u_debts, u_cuts, u_rule, u_rings, u_size, u_least, u_worth, u_owes, u_debt, u_cut, u_path, u_ring)) else (fX9_cut_L24 u_people u_seen u_events u_inBook u_texted u_groups u_paid u_imaged u_denies x1 x2 400 0 u_debts u_cuts u_rule u_rings u_size u_least u_worth u_owes u_debt u_cut u_path u_ring))))
set_option maxRecDepth 20000 in
theorem LX9_cut_24 {p : Program} {l : Launch} {e : Env} {R : Room} {s : State} {m : MethodId} {args : Array Value} {below : List Frame} {meth : Method} {c : Code} {Q : State → Prop} {D : va_G} {C : Nat → ClassId} {A : Nat → Prop} (cx : CX p m c s args RX9 cX9_cut 4 D C A R 14) {q_ q_owes q_denies q_debt q_cut q_sight q_event q_book q_text q_path q_ring q_balance q_left q_sum q_parts q_group q_payment q_then q_image q_tapeSort q_tapeSize q_items : Nat} {u_people : Int32} {u_seen : Int32} {u_events : Int32} {u_inBook : Int32} {u_texted : Int32} {u_groups : Int32} {u_paid : Int32} {u_imaged : Int32} {u_denies : (Nat → Int32)} {x1 : Int32} {x2 : Int32} {z : (Int32 × Int32 × Int32 × Int32 × Int32 × Int32 × Int32 × Int64 × (Nat → Int32) × (Nat → Int32) × (Nat → Int32) × (Nat → Int32) × (Nat → Int32))} (hret : RT p l e R s m args below meth c Q D A cX9_cut (some .int) [(q_, .inr (9, [.int u_people, .ref q_owes, .ref q_denies, .int z.2.1, .ref q_debt, .int z.2.2.1, .ref q_cut, .int u_seen, .ref q_sight, .int u_events, .ref q_event, .int u_inBook, .ref q_book, .int u_texted, .ref q_text, .ref q_path, .int z.2.2.2.1, .int z.2.2.2.2.1, .int z.2.2.2.2.2.1, .int z.2.2.2.2.2.2.1, .long z.2.2.2.2.2.2.2.1, .ref q_ring, .ref q_balance, .ref q_left, .ref q_sum, .ref q_parts, .int u_groups, .ref q_group, .int u_paid, .ref q_payment, .ref q_then, .int u_imaged, .ref q_image, .ref q_tapeSort, .ref q_tapeSize, .ref q_items])), (q_owes, .inl (C 0, 36, .inl z.2.2.2.2.2.2.2.2.1)), (q_denies, .inl (C 0, 36, .inl u_denies)), (q_debt, .inl (C 0, 30, .inl z.2.2.2.2.2.2.2.2.2.1)), (q_cut, .inl (C 0, 120, .inl z.2.2.2.2.2.2.2.2.2.2.1)), (q_path, .inl (C 0, 6, .inl z.2.2.2.2.2.2.2.2.2.2.2.1)), (q_ring, .inl (C 0, 6, .inl z.2.2.2.2.2.2.2.2.2.2.2.2))] (some (.int z.1))) :
    ∀ (n : Nat) (x3 : Int32) (u_debts : Int32) (u_cuts : Int32) (u_rule : Int32) (u_rings : Int32) (u_size : Int32) (u_least : Int32) (u_worth : Int64) (u_owes : (Nat → Int32)) (u_debt : (Nat → Int32)) (u_cut : (Nat → Int32)) (u_path : (Nat → Int32)) (u_ring : (Nat → Int32)) (H : Heap) (locs : List Loc) (ls : Array Slot), fX9_cut_L24 u_people u_seen u_events u_inBook u_texted u_groups u_paid u_imaged u_denies x1 x2 n x3 u_debts u_cuts u_rule u_rings u_size u_least u_worth u_owes u_debt u_cut u_path u_ring = some z → HW D A s.heap H locs [(q_, .inr (9, [.int u_people, .ref q_owes, .ref q_denies, .int u_debts, .ref q_debt, .int u_cuts, .ref q_cut, .int u_seen, .ref q_sight, .int u_events, .ref q_event, .int u_inBook, .ref q_book, .int u_texted, .ref q_text, .ref q_path, .int u_rule, .int u_rings, .int u_size, .int u_least, .long u_worth, .ref q_ring, .ref q_balance, .ref q_left, .ref q_sum, .ref q_parts, .int u_groups, .ref q_group, .int u_paid, .ref q_payment, .ref q_then, .int u_imaged, .ref q_image, .ref q_tapeSort, .ref q_tapeSize, .ref q_items])), (q_owes, .inl (C 0, 36, .inl u_owes)), (q_denies, .inl (C 0, 36, .inl u_denies)), (q_debt, .inl (C 0, 30, .inl u_debt)), (q_cut, .inl (C 0, 120, .inl u_cut)), (q_path, .inl (C 0, 6, .inl u_path)), (q_ring, .inl (C 0, 6, .inl u_ring))] → lv_has ls 4 [(0, .ref q_), (1, .int x1), (2, .int x2), (3, .int x3)] → W p l e R s m args below meth c H locs 0 0 Q (F0 m 24 ls []) := by
  have hx := cx.1
  have hb := cx.2.1
  intro n
  induction n with
  | zero => intro x3 u_debts u_cuts u_rule u_rings u_size u_least u_worth u_owes u_debt u_cut u_path u_ring H locs ls hF; cases hF
  | succ n ih =>
    intro x3 u_debts u_cuts u_rule u_rings u_size u_least u_worth u_owes u_debt u_cut u_path u_ring H locs ls hF hw hl
    rw [fX9_cut_L24.eq_2] at hF
    refine lv_iload_n hx hb dX9_cut_24 rfl (lv_at hl 3 rfl) ?_
    refine lv_iload_n hx hb dX9_cut_25 rfl (lv_at hl 2 rfl) ?_
    refine lv_icmp_ge (tgt := 108) hx hb dX9_cut_26 (by decide) (fun c5 => ?_) (fun c5 => ?_)
    · replace hF := oi_t c5 hF
      refine lv_iload_n hx hb dX9_cut_108 rfl (lv_at hl 3 rfl) ?_
      obtain rfl := Option.some.inj hF
      exact rt_i hret hw rfl dX9_cut_109
    · replace hF := oi_f c5 hF
      refine lv_aload_n hx hb dX9_cut_29 rfl (lv_at hl 0 rfl) ?_
      refine r_get (ci := 9) (v := .int u_cuts) cx hw iX9 0 5 rfl rfl (by decide) wf_X9_168 rfl dX9_cut_30 ?_
      refine lv_bipush (v := 40) hx hb dX9_cut_33 (by decide) ?_
      refine lv_icmp_ge (tgt := 108) hx hb dX9_cut_35 (by decide) (fun c6 => ?_) (fun c6 => ?_)
      · replace hF := oi_t c6 hF
        refine lv_iload_n hx hb dX9_cut_108 rfl (lv_at hl 3 rfl) ?_
        obtain rfl := Option.some.inj hF
        exact rt_i hret hw rfl dX9_cut_109
      · replace hF := oi_f c6 hF
        refine lv_aload_n hx hb dX9_cut_38 rfl (lv_at hl 0 rfl) ?_
        refine lv_iload_n hx hb dX9_cut_39 rfl (lv_at hl 1 rfl) ?_
        obtain ⟨z7, hz7, hF⟩ := ob hF
        refine cV (wr := [(q_cut, .inl (C 0, 120, .inl u_cut))]) (w2 := [(q_, .inr (9, [.int u_people, .ref q_owes, .ref q_denies, .int z7.2.1, .ref q_debt, .int u_cuts, .ref q_cut, .int u_seen, .ref q_sight, .int u_events, .ref q_event, .int u_inBook, .ref q_book, .int u_texted, .ref q_text, .ref q_path, .int z7.2.2.1, .int z7.2.2.2.1, .int z7.2.2.2.2.1, .int z7.2.2.2.2.2.1, .long z7.2.2.2.2.2.2.1, .ref q_ring, .ref q_balance, .ref q_left, .ref q_sum, .ref q_parts, .int u_groups, .ref q_group, .int u_paid, .ref q_payment, .ref q_then, .int u_imaged, .ref q_image, .ref q_tapeSort, .ref q_tapeSize, .ref q_items])), (q_owes, .inl (C 0, 36, .inl z7.2.2.2.2.2.2.2.1)), (q_denies, .inl (C 0, 36, .inl u_denies)), (q_debt, .inl (C 0, 30, .inl z7.2.2.2.2.2.2.2.2.1)), (q_cut, .inl (C 0, 120, .inl u_cut)), (q_path, .inl (C 0, 6, .inl z7.2.2.2.2.2.2.2.2.2.1)), (q_ring, .inl (C 0, 6, .inl z7.2.2.2.2.2.2.2.2.2.2))]) (st2 := [.int z7.1]) cx (CX9_cuts l D C q_ q_owes q_denies q_debt q_cut q_sight q_event q_book q_text q_path q_ring q_balance q_left q_sum q_parts q_group q_payment q_then q_image q_tapeSort q_tapeSize q_items u_people u_debts u_cuts u_seen u_events u_inBook u_texted u_rule u_rings u_size u_least u_worth u_groups u_paid u_imaged u_owes u_denies u_debt u_path u_ring x1 z7 hz7) lk_X9_171 my_X9_cuts ml_X9_cuts ⟨by decide, by decide⟩ hw [0, 1, 2, 3, 5, 6] [4] [1, 2, 3, 4, 0, 5, 6] rfl rfl (by decide) rfl rfl rfl rfl (Nat.le_of_ble_eq_true rfl) dX9_cut_40 rfl (fun H locs hw => ?_) hl.1
        refine lv_if_eq (tgt := 108) hx hb dX9_cut_43 (by decide) (fun c8 => ?_) (fun c8 => ?_)
        · replace hF := oi_t c8 hF
          refine lv_iload_n hx hb dX9_cut_108 rfl (lv_at hl 3 rfl) ?_
          obtain rfl := Option.some.inj hF
          exact rt_i hret hw rfl dX9_cut_109
        · replace hF := oi_f c8 hF
          refine lv_aload_n hx hb dX9_cut_46 rfl (lv_at hl 0 rfl) ?_
          refine r_get (ci := 9) (v := .ref q_cut) cx hw iX9 0 6 rfl rfl (by decide) wf_X9_21 rfl dX9_cut_47 ?_
          refine lv_iconst (v := 3) hx hb dX9_cut_50 (by decide) ?_
          refine lv_aload_n hx hb dX9_cut_51 rfl (lv_at hl 0 rfl) ?_
          refine r_get (ci := 9) (v := .int u_cuts) cx hw iX9 0 5 rfl rfl (by decide) wf_X9_168 rfl dX9_cut_52 ?_
          refine lv_imul hx hb dX9_cut_55 ?_
          refine lv_iload_n hx hb dX9_cut_56 rfl (lv_at hl 1 rfl) ?_
          obtain ⟨g9, hF⟩ := gA_s hF
          refine r_iast (w2 := [(q_, .inr (9, [.int u_people, .ref q_owes, .ref q_denies, .int z7.2.1, .ref q_debt, .int u_cuts, .ref q_cut, .int u_seen, .ref q_sight, .int u_events, .ref q_event, .int u_inBook, .ref q_book, .int u_texted, .ref q_text, .ref q_path, .int z7.2.2.1, .int z7.2.2.2.1, .int z7.2.2.2.2.1, .int z7.2.2.2.2.2.1, .long z7.2.2.2.2.2.2.1, .ref q_ring, .ref q_balance, .ref q_left, .ref q_sum, .ref q_parts, .int u_groups, .ref q_group, .int u_paid, .ref q_payment, .ref q_then, .int u_imaged, .ref q_image, .ref q_tapeSort, .ref q_tapeSize, .ref q_items])), (q_owes, .inl (C 0, 36, .inl z7.2.2.2.2.2.2.2.1)), (q_denies, .inl (C 0, 36, .inl u_denies)), (q_debt, .inl (C 0, 30, .inl z7.2.2.2.2.2.2.2.2.1)), (q_cut, .inl (C 0, 120, .inl (upd u_cut (3 * u_cuts : Int32).toNatClampNeg x1))), (q_path, .inl (C 0, 6, .inl z7.2.2.2.2.2.2.2.2.2.1)), (q_ring, .inl (C 0, 6, .inl z7.2.2.2.2.2.2.2.2.2.2))]) cx hw 4 rfl g9 dX9_cut_57 rfl (fun H locs hw => ?_)
          refine lv_aload_n hx hb dX9_cut_58 rfl (lv_at hl 0 rfl) ?_
          refine r_get (ci := 9) (v := .ref q_cut) cx hw iX9 0 6 rfl rfl (by decide) wf_X9_21 rfl dX9_cut_59 ?_
          refine lv_iconst (v := 3) hx hb dX9_cut_62 (by decide) ?_
          refine lv_aload_n hx hb dX9_cut_63 rfl (lv_at hl 0 rfl) ?_
          refine r_get (ci := 9) (v := .int u_cuts) cx hw iX9 0 5 rfl rfl (by decide) wf_X9_168 rfl dX9_cut_64 ?_
          refine lv_imul hx hb dX9_cut_67 ?_
          refine lv_iconst (v := 1) hx hb dX9_cut_68 (by decide) ?_
          refine lv_iadd hx hb dX9_cut_69 ?_
          refine lv_aload_n hx hb dX9_cut_70 rfl (lv_at hl 0 rfl) ?_
          refine r_get (ci := 9) (v := .int z7.2.2.2.2.1) cx hw iX9 0 18 rfl rfl (by decide) wf_X9_149 rfl dX9_cut_71 ?_
          obtain ⟨g10, hF⟩ := gA_s hF
          refine r_iast (w2 := [(q_, .inr (9, [.int u_people, .ref q_owes, .ref q_denies, .int z7.2.1, .ref q_debt, .int u_cuts, .ref q_cut, .int u_seen, .ref q_sight, .int u_events, .ref q_event, .int u_inBook, .ref q_book, .int u_texted, .ref q_text, .ref q_path, .int z7.2.2.1, .int z7.2.2.2.1, .int z7.2.2.2.2.1, .int z7.2.2.2.2.2.1, .long z7.2.2.2.2.2.2.1, .ref q_ring, .ref q_balance, .ref q_left, .ref q_sum, .ref q_parts, .int u_groups, .ref q_group, .int u_paid, .ref q_payment, .ref q_then, .int u_imaged, .ref q_image, .ref q_tapeSort, .ref q_tapeSize, .ref q_items])), (q_owes, .inl (C 0, 36, .inl z7.2.2.2.2.2.2.2.1)), (q_denies, .inl (C 0, 36, .inl u_denies)), (q_debt, .inl (C 0, 30, .inl z7.2.2.2.2.2.2.2.2.1)), (q_cut, .inl (C 0, 120, .inl (upd (upd u_cut (3 * u_cuts : Int32).toNatClampNeg x1) ((3 * u_cuts) + 1 : Int32).toNatClampNeg z7.2.2.2.2.1))), (q_path, .inl (C 0, 6, .inl z7.2.2.2.2.2.2.2.2.2.1)), (q_ring, .inl (C 0, 6, .inl z7.2.2.2.2.2.2.2.2.2.2))]) cx hw 4 rfl g10 dX9_cut_74 rfl (fun H locs hw => ?_)
          refine lv_aload_n hx hb dX9_cut_75 rfl (lv_at hl 0 rfl) ?_
          refine r_get (ci := 9) (v := .ref q_cut) cx hw iX9 0 6 rfl rfl (by decide) wf_X9_21 rfl dX9_cut_76 ?_
          refine lv_iconst (v := 3) hx hb dX9_cut_79 (by decide) ?_
          refine lv_aload_n hx hb dX9_cut_80 rfl (lv_at hl 0 rfl) ?_
          refine r_get (ci := 9) (v := .int u_cuts) cx hw iX9 0 5 rfl rfl (by decide) wf_X9_168 rfl dX9_cut_81 ?_
          refine lv_imul hx hb dX9_cut_84 ?_
          refine lv_iconst (v := 2) hx hb dX9_cut_85 (by decide) ?_
          refine lv_iadd hx hb dX9_cut_86 ?_
          refine lv_aload_n hx hb dX9_cut_87 rfl (lv_at hl 0 rfl) ?_
          refine r_get (ci := 9) (v := .int z7.2.2.2.2.2.1) cx hw iX9 0 19 rfl rfl (by decide) wf_X9_152 rfl dX9_cut_88 ?_
          obtain ⟨g11, hF⟩ := gA_s hF
          refine r_iast (w2 := [(q_, .inr (9, [.int u_people, .ref q_owes, .ref q_denies, .int z7.2.1, .ref q_debt, .int u_cuts, .ref q_cut, .int u_seen, .ref q_sight, .int u_events, .ref q_event, .int u_inBook, .ref q_book, .int u_texted, .ref q_text, .ref q_path, .int z7.2.2.1, .int z7.2.2.2.1, .int z7.2.2.2.2.1, .int z7.2.2.2.2.2.1, .long z7.2.2.2.2.2.2.1, .ref q_ring, .ref q_balance, .ref q_left, .ref q_sum, .ref q_parts, .int u_groups, .ref q_group, .int u_paid, .ref q_payment, .ref q_then, .int u_imaged, .ref q_image, .ref q_tapeSort, .ref q_tapeSize, .ref q_items])), (q_owes, .inl (C 0, 36, .inl z7.2.2.2.2.2.2.2.1)), (q_denies, .inl (C 0, 36, .inl u_denies)), (q_debt, .inl (C 0, 30, .inl z7.2.2.2.2.2.2.2.2.1)), (q_cut, .inl (C 0, 120, .inl (upd (upd (upd u_cut (3 * u_cuts : Int32).toNatClampNeg x1) ((3 * u_cuts) + 1 : Int32).toNatClampNeg z7.2.2.2.2.1) ((3 * u_cuts) + 2 : Int32).toNatClampNeg z7.2.2.2.2.2.1))), (q_path, .inl (C 0, 6, .inl z7.2.2.2.2.2.2.2.2.2.1)), (q_ring, .inl (C 0, 6, .inl z7.2.2.2.2.2.2.2.2.2.2))]) cx hw 4 rfl g11 dX9_cut_91 rfl (fun H locs hw => ?_)
          refine lv_aload_n hx hb dX9_cut_92 rfl (lv_at hl 0 rfl) ?_
          refine lv_dup hx hb dX9_cut_93 rfl ?_
          refine r_get (ci := 9) (v := .int u_cuts) cx hw iX9 0 5 rfl rfl (by decide) wf_X9_168 rfl dX9_cut_94 ?_
          refine lv_iconst (v := 1) hx hb dX9_cut_97 (by decide) ?_
          refine lv_iadd hx hb dX9_cut_98 ?_
          refine r_put (ci := 9) (w2 := [(q_, .inr (9, [.int u_people, .ref q_owes, .ref q_denies, .int z7.2.1, .ref q_debt, .int (u_cuts + 1), .ref q_cut, .int u_seen, .ref q_sight, .int u_events, .ref q_event, .int u_inBook, .ref q_book, .int u_texted, .ref q_text, .ref q_path, .int z7.2.2.1, .int z7.2.2.2.1, .int z7.2.2.2.2.1, .int z7.2.2.2.2.2.1, .long z7.2.2.2.2.2.2.1, .ref q_ring, .ref q_balance, .ref q_left, .ref q_sum, .ref q_parts, .int u_groups, .ref q_group, .int u_paid, .ref q_payment, .ref q_then, .int u_imaged, .ref q_image, .ref q_tapeSort, .ref q_tapeSize, .ref q_items])), (q_owes, .inl (C 0, 36, .inl z7.2.2.2.2.2.2.2.1)), (q_denies, .inl (C 0, 36, .inl u_denies)), (q_debt, .inl (C 0, 30, .inl z7.2.2.2.2.2.2.2.2.1)), (q_cut, .inl (C 0, 120, .inl (upd (upd (upd u_cut (3 * u_cuts : Int32).toNatClampNeg x1) ((3 * u_cuts) + 1 : Int32).toNatClampNeg z7.2.2.2.2.1) ((3 * u_cuts) + 2 : Int32).toNatClampNeg z7.2.2.2.2.2.1))), (q_path, .inl (C 0, 6, .inl z7.2.2.2.2.2.2.2.2.2.1)), (q_ring, .inl (C 0, 6, .inl z7.2.2.2.2.2.2.2.2.2.2))]) cx hw iX9 tyX9_ok nmX9 0 5 rfl rfl (by decide) wf_X9_168 rfl rfl rfl rfl (Nat.le_of_ble_eq_true rfl) dX9_cut_99 rfl (fun H locs hw => ?_)
          refine lv_iinc (v := x3 + 1) (lv' := [(3, .int (x3 + 1)), (0, .ref q_), (1, .int x1), (2, .int x2)]) hx hb dX9_cut_102 hl (k := 3) rfl rfl (by decide) rfl (fun ls hl => ?_)
          refine lv_goto (tgt := 24) hx hb dX9_cut_105 (by decide) ?_
          exact ih (x3 + 1) z7.2.1 (u_cuts + 1) z7.2.2.1 z7.2.2.2.1 z7.2.2.2.2.1 z7.2.2.2.2.2.1 z7.2.2.2.2.2.2.1 z7.2.2.2.2.2.2.2.1 z7.2.2.2.2.2.2.2.2.1 (upd (upd (upd u_cut (3 * u_cuts : Int32).toNatClampNeg x1) ((3 * u_cuts) + 1 : Int32).toNatClampNeg z7.2.2.2.2.1) ((3 * u_cuts) + 2 : Int32).toNatClampNeg z7.2.2.2.2.2.1) z7.2.2.2.2.2.2.2.2.2.1 z7.2.2.2.2.2.2.2.2.2.2 H locs ls hF hw (lv_sub hl [1, 2, 3, 0] rfl)
set_option maxRecDepth 20000 in
theorem CX9_cut (l : Launch) (D : va_G) (C : Nat → ClassId) (q_ q_owes q_denies q_debt q_cut q_sight q_event q_book q_text q_path q_ring q_balance q_left q_sum q_parts q_group q_payment q_then q_image q_tapeSort q_tapeSize q_items : Nat) (u_people : Int32) (u_debts : Int32) (u_cuts : Int32) (u_seen : Int32) (u_events : Int32) (u_inBook : Int32) (u_texted : Int32) (u_rule : Int32) (u_rings : Int32) (u_size : Int32) (u_least : Int32) (u_worth : Int64) (u_groups : Int32) (u_paid : Int32) (u_imaged : Int32) (u_owes : (Nat → Int32)) (u_denies : (Nat → Int32)) (u_debt : (Nat → Int32)) (u_cut : (Nat → Int32)) (u_path : (Nat → Int32)) (u_ring : (Nat → Int32)) (x1 : Int32) (x2 : Int32) (z : (Int32 × Int32 × Int32 × Int32 × Int32 × Int32 × Int32 × Int64 × (Nat → Int32) × (Nat → Int32) × (Nat → Int32) × (Nat → Int32) × (Nat → Int32))) (hF : fX9_cut u_people u_debts u_cuts u_seen u_events u_inBook u_texted u_rule u_rings u_size u_least u_worth u_groups u_paid u_imaged u_owes u_denies u_debt u_cut u_path u_ring x1 x2 = some z) : Ct l yX9_cut cX9_cut 4 (some .int) 14 D C [.ref q_, .int x1, .int x2] [(q_, .inr (9, [.int u_people, .ref q_owes, .ref q_denies, .int u_debts, .ref q_debt, .int u_cuts, .ref q_cut, .int u_seen, .ref q_sight, .int u_events, .ref q_event, .int u_inBook, .ref q_book, .int u_texted, .ref q_text, .ref q_path, .int u_rule, .int u_rings, .int u_size, .int u_least, .long u_worth, .ref q_ring, .ref q_balance, .ref q_left, .ref q_sum, .ref q_parts, .int u_groups, .ref q_group, .int u_paid, .ref q_payment, .ref q_then, .int u_imaged, .ref q_image, .ref q_tapeSort, .ref q_tapeSize, .ref q_items])), (q_owes, .inl (C 0, 36, .inl u_owes)), (q_denies, .inl (C 0, 36, .inl u_denies)), (q_debt, .inl (C 0, 30, .inl u_debt)), (q_cut, .inl (C 0, 120, .inl u_cut)), (q_path, .inl (C 0, 6, .inl u_path)), (q_ring, .inl (C 0, 6, .inl u_ring))] [(q_, .inr (9, [.int u_people, .ref q_owes, .ref q_denies, .int z.2.1, .ref q_debt, .int z.2.2.1, .ref q_cut, .int u_seen, .ref q_sight, .int u_events, .ref q_event, .int u_inBook, .ref q_book, .int u_texted, .ref q_text, .ref q_path, .int z.2.2.2.1, .int z.2.2.2.2.1, .int z.2.2.2.2.2.1, .int z.2.2.2.2.2.2.1, .long z.2.2.2.2.2.2.2.1, .ref q_ring, .ref q_balance, .ref q_left, .ref q_sum, .ref q_parts, .int u_groups, .ref q_group, .int u_paid, .ref q_payment, .ref q_then, .int u_imaged, .ref q_image, .ref q_tapeSort, .ref q_tapeSize, .ref q_items])), (q_owes, .inl (C 0, 36, .inl z.2.2.2.2.2.2.2.2.1)), (q_denies, .inl (C 0, 36, .inl u_denies)), (q_debt, .inl (C 0, 30, .inl z.2.2.2.2.2.2.2.2.2.1)), (q_cut, .inl (C 0, 120, .inl z.2.2.2.2.2.2.2.2.2.2.1)), (q_path, .inl (C 0, 6, .inl z.2.2.2.2.2.2.2.2.2.2.2.1)), (q_ring, .inl (C 0, 6, .inl z.2.2.2.2.2.2.2.2.2.2.2.2))] (some (.int z.1)) := by
  refine Ct_of (by decide) (Nat.le_of_ble_eq_true rfl) ?_
  intro p e R s m args below meth c A Q H locs ls cx hw hl hret
  have cx : CX p m c s args RX9 cX9_cut 4 D C A R 14 := cx
  have hx := cx.1
  have hb := cx.2.1
  have hl : lv_has ls 4 [(0, .ref q_), (1, .int x1), (2, .int x2)] := hl
  rw [fX9_cut.eq_1] at hF
  refine lv_iload_n hx hb dX9_cut_0 rfl (lv_at hl 1 rfl) ?_
  refine lv_iconst (v := 0) hx hb dX9_cut_1 (by decide) ?_
  refine lv_iconst (v := 3) hx hb dX9_cut_2 (by decide) ?_
  obtain ⟨z1, hz1, hF⟩ := ob hF
  refine cS (wr := [(q_, .inr (9, [.int u_people, .ref q_owes, .ref q_denies, .int u_debts, .ref q_debt, .int u_cuts, .ref q_cut, .int u_seen, .ref q_sight, .int u_events, .ref q_event, .int u_inBook, .ref q_book, .int u_texted, .ref q_text, .ref q_path, .int u_rule, .int u_rings, .int u_size, .int u_least, .long u_worth, .ref q_ring, .ref q_balance, .ref q_left, .ref q_sum, .ref q_parts, .int u_groups, .ref q_group, .int u_paid, .ref q_payment, .ref q_then, .int u_imaged, .ref q_image, .ref q_tapeSort, .ref q_tapeSize, .ref q_items])), (q_owes, .inl (C 0, 36, .inl u_owes)), (q_denies, .inl (C 0, 36, .inl u_denies)), (q_debt, .inl (C 0, 30, .inl u_debt)), (q_cut, .inl (C 0, 120, .inl u_cut)), (q_path, .inl (C 0, 6, .inl u_path)), (q_ring, .inl (C 0, 6, .inl u_ring))]) (w2 := [(q_, .inr (9, [.int u_people, .ref q_owes, .ref q_denies, .int u_debts, .ref q_debt, .int u_cuts, .ref q_cut, .int u_seen, .ref q_sight, .int u_events, .ref q_event, .int u_inBook, .ref q_book, .int u_texted, .ref q_text, .ref q_path, .int u_rule, .int u_rings, .int u_size, .int u_least, .long u_worth, .ref q_ring, .ref q_balance, .ref q_left, .ref q_sum, .ref q_parts, .int u_groups, .ref q_group, .int u_paid, .ref q_payment, .ref q_then, .int u_imaged, .ref q_image, .ref q_tapeSort, .ref q_tapeSize, .ref q_items])), (q_owes, .inl (C 0, 36, .inl u_owes)), (q_denies, .inl (C 0, 36, .inl u_denies)), (q_debt, .inl (C 0, 30, .inl u_debt)), (q_cut, .inl (C 0, 120, .inl u_cut)), (q_path, .inl (C 0, 6, .inl u_path)), (q_ring, .inl (C 0, 6, .inl u_ring))]) (st2 := [.int z1]) cx (CX9_within l D C x1 0 3 z1 hz1) lk_X9_80 my_X9_within ml_X9_within ⟨by decide, by decide⟩ hw [] [0, 1, 2, 3, 4, 5, 6] [0, 1, 2, 3, 4, 5, 6] rfl rfl (by decide) rfl rfl (Nat.le_of_ble_eq_true rfl) dX9_cut_3 rfl (fun H locs hw => ?_) hl.1
  refine lv_if_eq (tgt := 19) hx hb dX9_cut_6 (by decide) (fun c2 => ?_) (fun c2 => ?_)
  · replace hF := oi_t c2 hF
    refine lv_bipush (v := (-2)) hx hb dX9_cut_19 (by decide) ?_
    obtain rfl := Option.some.inj hF
    exact rt_i hret hw rfl dX9_cut_21
  · replace hF := oi_f c2 hF
    refine lv_iload_n hx hb dX9_cut_9 rfl (lv_at hl 2 rfl) ?_
    refine lv_iconst (v := 0) hx hb dX9_cut_10 (by decide) ?_
    refine lv_bipush (v := 40) hx hb dX9_cut_11 (by decide) ?_
    obtain ⟨z3, hz3, hF⟩ := ob hF
    refine cS (wr := [(q_, .inr (9, [.int u_people, .ref q_owes, .ref q_denies, .int u_debts, .ref q_debt, .int u_cuts, .ref q_cut, .int u_seen, .ref q_sight, .int u_events, .ref q_event, .int u_inBook, .ref q_book, .int u_texted, .ref q_text, .ref q_path, .int u_rule, .int u_rings, .int u_size, .int u_least, .long u_worth, .ref q_ring, .ref q_balance, .ref q_left, .ref q_sum, .ref q_parts, .int u_groups, .ref q_group, .int u_paid, .ref q_payment, .ref q_then, .int u_imaged, .ref q_image, .ref q_tapeSort, .ref q_tapeSize, .ref q_items])), (q_owes, .inl (C 0, 36, .inl u_owes)), (q_denies, .inl (C 0, 36, .inl u_denies)), (q_debt, .inl (C 0, 30, .inl u_debt)), (q_cut, .inl (C 0, 120, .inl u_cut)), (q_path, .inl (C 0, 6, .inl u_path)), (q_ring, .inl (C 0, 6, .inl u_ring))]) (w2 := [(q_, .inr (9, [.int u_people, .ref q_owes, .ref q_denies, .int u_debts, .ref q_debt, .int u_cuts, .ref q_cut, .int u_seen, .ref q_sight, .int u_events, .ref q_event, .int u_inBook, .ref q_book, .int u_texted, .ref q_text, .ref q_path, .int u_rule, .int u_rings, .int u_size, .int u_least, .long u_worth, .ref q_ring, .ref q_balance, .ref q_left, .ref q_sum, .ref q_parts, .int u_groups, .ref q_group, .int u_paid, .ref q_payment, .ref q_then, .int u_imaged, .ref q_image, .ref q_tapeSort, .ref q_tapeSize, .ref q_items])), (q_owes, .inl (C 0, 36, .inl u_owes)), (q_denies, .inl (C 0, 36, .inl u_denies)), (q_debt, .inl (C 0, 30, .inl u_debt)), (q_cut, .inl (C 0, 120, .inl u_cut)), (q_path, .inl (C 0, 6, .inl u_path)), (q_ring, .inl (C 0, 6, .inl u_ring))]) (st2 := [.int z3]) cx (CX9_within l D C x2 0 40 z3 hz3) lk_X9_80 my_X9_within ml_X9_within ⟨by decide, by decide⟩ hw [] [0, 1, 2, 3, 4, 5, 6] [0, 1, 2, 3, 4, 5, 6] rfl rfl (by decide) rfl rfl (Nat.le_of_ble_eq_true rfl) dX9_cut_13 rfl (fun H locs hw => ?_) hl.1
    refine lv_if_ne (tgt := 22) hx hb dX9_cut_16 (by decide) (fun c4 => ?_) (fun c4 => ?_)
    · replace hF := oi_f c4 hF
      refine lv_iconst (v := 0) hx hb dX9_cut_22 (by decide) ?_
      refine lv_istore_n (lv' := [(3, .int 0), (0, .ref q_), (1, .int x1), (2, .int x2)]) hx hb dX9_cut_23 rfl hl (by decide) rfl (fun ls hl => ?_)
      refine LX9_cut_24 cx hret 400 0 u_debts u_cuts u_rule u_rings u_size u_least u_worth u_owes u_debt u_cut u_path u_ring H locs ls hF hw (lv_sub hl [1, 2, 3, 0] rfl)
    · replace hF := oi_t c4 hF
      refine lv_bipush (v := (-2)) hx hb dX9_cut_19 (by decide) ?_
      obtain rfl := Option.some.inj hF
      exact rt_i hret hw rfl dX9_cut_21
theorem lk_X9_123 : Cond.methodLink RX9 123 yX9_consent ∈ gdt := gdt_of 1021 (by decide +kernel) (by decide +kernel)
theorem lk_X9_119 : Cond.methodLink RX9 119 yX9_owe ∈ gdt := gdt_of 1020 (by decide +kernel) (by decide +kernel)
theorem lk_X9_115 : Cond.methodLink RX9 115 yX9_person ∈ gdt := gdt_of 1019 (by decide +kernel) (by decide +kernel)
theorem lk_X9_127 : Cond.methodLink RX9 127 yX9_cut ∈ gdt := gdt_of 1022 (by decide +kernel) (by decide +kernel)
theorem my_X9_consent : (yX9_consent.cls ≠ "java/lang/invoke/MethodHandle" ∧ yX9_consent.cls ≠ "java/lang/invoke/VarHandle") ∧ Cond.instanceMethod yX9_consent ∈ gdt ∧ Cond.selects yX9_consent.cls yX9_consent yX9_consent ∈ gdt ∧ Cond.initialized yX9_consent.cls ∈ gdt ∧ Cond.code yX9_consent cX9_consent 5 (some .int) ∈ gdt := ⟨⟨by decide +kernel, by decide +kernel⟩, gdt_of 981 (by decide +kernel) (by decide +kernel), gdt_of 982 (by decide +kernel) (by decide +kernel), gdt_of 77 (by decide +kernel) (by decide +kernel), gdt_of 983 (by decide +kernel) (by decide +kernel)⟩
theorem ml_X9_consent : (parseMethodDescriptor yX9_consent.desc).map (fun d => d.parameters.length) = some 3 := by decide +kernel
theorem my_X9_owe : (yX9_owe.cls ≠ "java/lang/invoke/MethodHandle" ∧ yX9_owe.cls ≠ "java/lang/invoke/VarHandle") ∧ Cond.instanceMethod yX9_owe ∈ gdt ∧ Cond.selects yX9_owe.cls yX9_owe yX9_owe ∈ gdt ∧ Cond.initialized yX9_owe.cls ∈ gdt ∧ Cond.code yX9_owe cX9_owe 5 (some .int) ∈ gdt := ⟨⟨by decide +kernel, by decide +kernel⟩, gdt_of 954 (by decide +kernel) (by decide +kernel), gdt_of 955 (by decide +kernel) (by decide +kernel), gdt_of 77 (by decide +kernel) (by decide +kernel), gdt_of 956 (by decide +kernel) (by decide +kernel)⟩
theorem ml_X9_owe : (parseMethodDescriptor yX9_owe.desc).map (fun d => d.parameters.length) = some 3 := by decide +kernel
theorem my_X9_person : (yX9_person.cls ≠ "java/lang/invoke/MethodHandle" ∧ yX9_person.cls ≠ "java/lang/invoke/VarHandle") ∧ Cond.instanceMethod yX9_person ∈ gdt ∧ Cond.selects yX9_person.cls yX9_person yX9_person ∈ gdt ∧ Cond.initialized yX9_person.cls ∈ gdt ∧ Cond.code yX9_person cX9_person 3 (some .int) ∈ gdt := ⟨⟨by decide +kernel, by decide +kernel⟩, gdt_of 950 (by decide +kernel) (by decide +kernel), gdt_of 951 (by decide +kernel) (by decide +kernel), gdt_of 77 (by decide +kernel) (by decide +kernel), gdt_of 952 (by decide +kernel) (by decide +kernel)⟩
theorem ml_X9_person : (parseMethodDescriptor yX9_person.desc).map (fun d => d.parameters.length) = some 0 := by decide +kernel
theorem my_X9_cut : (yX9_cut.cls ≠ "java/lang/invoke/MethodHandle" ∧ yX9_cut.cls ≠ "java/lang/invoke/VarHandle") ∧ Cond.instanceMethod yX9_cut ∈ gdt ∧ Cond.selects yX9_cut.cls yX9_cut yX9_cut ∈ gdt ∧ Cond.initialized yX9_cut.cls ∈ gdt ∧ Cond.code yX9_cut cX9_cut 4 (some .int) ∈ gdt := ⟨⟨by decide +kernel, by decide +kernel⟩, gdt_of 1023 (by decide +kernel) (by decide +kernel), gdt_of 1024 (by decide +kernel) (by decide +kernel), gdt_of 77 (by decide +kernel) (by decide +kernel), gdt_of 1025 (by decide +kernel) (by decide +kernel)⟩
theorem ml_X9_cut : (parseMethodDescriptor yX9_cut.desc).map (fun d => d.parameters.length) = some 2 := by decide +kernel
theorem dX9_does_0 : decode cX9_does 0 = .ok (.iload_n 2, 1) := by decide +kernel
theorem dX9_does_1 : decode cX9_does 1 = .ok (.iload_n 1, 1) := by decide +kernel
theorem dX9_does_2 : decode cX9_does 2 = .ok (.iconst 1, 1) := by decide +kernel
theorem dX9_does_3 : decode cX9_does 3 = .ok (.iadd, 1) := by decide +kernel
theorem dX9_does_4 : decode cX9_does 4 = .ok (.if_icmp .le 17, 3) := by decide +kernel
theorem dX9_does_7 : decode cX9_does 7 = .ok (.aload_n 0, 1) := by decide +kernel
theorem dX9_does_8 : decode cX9_does 8 = .ok (.getfield 33, 3) := by decide +kernel
theorem dX9_does_11 : decode cX9_does 11 = .ok (.iload_n 1, 1) := by decide +kernel
theorem dX9_does_12 : decode cX9_does 12 = .ok (.iconst 1, 1) := by decide +kernel
theorem dX9_does_13 : decode cX9_does 13 = .ok (.iadd, 1) := by decide +kernel
theorem dX9_does_14 : decode cX9_does 14 = .ok (.iaload, 1) := by decide +kernel
theorem dX9_does_15 : decode cX9_does 15 = .ok (.bipush 48, 2) := by decide +kernel
theorem dX9_does_17 : decode cX9_does 17 = .ok (.isub, 1) := by decide +kernel
theorem dX9_does_18 : decode cX9_does 18 = .ok (.goto 4, 3) := by decide +kernel
theorem dX9_does_21 : decode cX9_does 21 = .ok (.iconst 0, 1) := by decide +kernel
theorem dX9_does_22 : decode cX9_does 22 = .ok (.istore_n 3, 1) := by decide +kernel
theorem dX9_does_23 : decode cX9_does 23 = .ok (.iload_n 2, 1) := by decide +kernel
theorem dX9_does_24 : decode cX9_does 24 = .ok (.iload_n 1, 1) := by decide +kernel
theorem dX9_does_25 : decode cX9_does 25 = .ok (.iconst 2, 1) := by decide +kernel
theorem dX9_does_26 : decode cX9_does 26 = .ok (.iadd, 1) := by decide +kernel
theorem dX9_does_27 : decode cX9_does 27 = .ok (.if_icmp .le 17, 3) := by decide +kernel
theorem dX9_does_30 : decode cX9_does 30 = .ok (.aload_n 0, 1) := by decide +kernel
theorem dX9_does_31 : decode cX9_does 31 = .ok (.getfield 33, 3) := by decide +kernel
theorem dX9_does_34 : decode cX9_does 34 = .ok (.iload_n 1, 1) := by decide +kernel
theorem dX9_does_35 : decode cX9_does 35 = .ok (.iconst 2, 1) := by decide +kernel
theorem dX9_does_36 : decode cX9_does 36 = .ok (.iadd, 1) := by decide +kernel
theorem dX9_does_37 : decode cX9_does 37 = .ok (.iaload, 1) := by decide +kernel
theorem dX9_does_38 : decode cX9_does 38 = .ok (.bipush 48, 2) := by decide +kernel
theorem dX9_does_40 : decode cX9_does 40 = .ok (.isub, 1) := by decide +kernel
theorem dX9_does_41 : decode cX9_does 41 = .ok (.goto 4, 3) := by decide +kernel
theorem dX9_does_44 : decode cX9_does 44 = .ok (.iconst 0, 1) := by decide +kernel
theorem dX9_does_45 : decode cX9_does 45 = .ok (.istore 4, 2) := by decide +kernel
theorem dX9_does_47 : decode cX9_does 47 = .ok (.iconst 0, 1) := by decide +kernel
theorem dX9_does_48 : decode cX9_does 48 = .ok (.istore 5, 2) := by decide +kernel
theorem dX9_does_50 : decode cX9_does 50 = .ok (.iload_n 1, 1) := by decide +kernel
theorem dX9_does_51 : decode cX9_does 51 = .ok (.iconst 3, 1) := by decide +kernel
theorem dX9_does_52 : decode cX9_does 52 = .ok (.iadd, 1) := by decide +kernel
theorem dX9_does_53 : decode cX9_does 53 = .ok (.istore 6, 2) := by decide +kernel
theorem dX9_does_55 : decode cX9_does 55 = .ok (.iload 6, 2) := by decide +kernel
theorem dX9_does_57 : decode cX9_does 57 = .ok (.iload_n 2, 1) := by decide +kernel
theorem dX9_does_58 : decode cX9_does 58 = .ok (.if_icmp .ge 27, 3) := by decide +kernel
theorem dX9_does_61 : decode cX9_does 61 = .ok (.bipush 10, 2) := by decide +kernel
theorem dX9_does_63 : decode cX9_does 63 = .ok (.iload 5, 2) := by decide +kernel
theorem dX9_does_65 : decode cX9_does 65 = .ok (.imul, 1) := by decide +kernel
theorem dX9_does_66 : decode cX9_does 66 = .ok (.aload_n 0, 1) := by decide +kernel
theorem dX9_does_67 : decode cX9_does 67 = .ok (.getfield 33, 3) := by decide +kernel
theorem dX9_does_70 : decode cX9_does 70 = .ok (.iload 6, 2) := by decide +kernel
theorem dX9_does_72 : decode cX9_does 72 = .ok (.iaload, 1) := by decide +kernel
theorem dX9_does_73 : decode cX9_does 73 = .ok (.iadd, 1) := by decide +kernel
theorem dX9_does_74 : decode cX9_does 74 = .ok (.bipush 48, 2) := by decide +kernel
theorem dX9_does_76 : decode cX9_does 76 = .ok (.isub, 1) := by decide +kernel
theorem dX9_does_77 : decode cX9_does 77 = .ok (.istore 5, 2) := by decide +kernel
theorem dX9_does_79 : decode cX9_does 79 = .ok (.iinc 6 1, 3) := by decide +kernel
theorem dX9_does_82 : decode cX9_does 82 = .ok (.goto (-27), 3) := by decide +kernel
theorem dX9_does_85 : decode cX9_does 85 = .ok (.aload_n 0, 1) := by decide +kernel
theorem dX9_does_86 : decode cX9_does 86 = .ok (.getfield 33, 3) := by decide +kernel
theorem dX9_does_89 : decode cX9_does 89 = .ok (.iload_n 1, 1) := by decide +kernel
theorem dX9_does_90 : decode cX9_does 90 = .ok (.iaload, 1) := by decide +kernel
theorem dX9_does_91 : decode cX9_does 91 = .ok (.lookupswitch 106 #[(110, 72), (111, 54), (112, 41), (121, 89)], 41) := by decide +kernel
theorem dX9_does_132 : decode cX9_does 132 = .ok (.aload_n 0, 1) := by decide +kernel
theorem dX9_does_133 : decode cX9_does 133 = .ok (.invokevirtual 115, 3) := by decide +kernel
theorem dX9_does_136 : decode cX9_does 136 = .ok (.ifCond .lt 7, 3) := by decide +kernel
theorem dX9_does_139 : decode cX9_does 139 = .ok (.iconst 1, 1) := by decide +kernel
theorem dX9_does_140 : decode cX9_does 140 = .ok (.goto 4, 3) := by decide +kernel
theorem dX9_does_143 : decode cX9_does 143 = .ok (.iconst 0, 1) := by decide +kernel
theorem dX9_does_144 : decode cX9_does 144 = .ok (.ireturn, 1) := by decide +kernel
theorem dX9_does_145 : decode cX9_does 145 = .ok (.aload_n 0, 1) := by decide +kernel
theorem dX9_does_146 : decode cX9_does 146 = .ok (.iload_n 3, 1) := by decide +kernel
theorem dX9_does_147 : decode cX9_does 147 = .ok (.iload 4, 2) := by decide +kernel
theorem dX9_does_149 : decode cX9_does 149 = .ok (.iload 5, 2) := by decide +kernel
theorem dX9_does_151 : decode cX9_does 151 = .ok (.invokevirtual 119, 3) := by decide +kernel
theorem dX9_does_154 : decode cX9_does 154 = .ok (.ifCond .lt 7, 3) := by decide +kernel
theorem dX9_does_157 : decode cX9_does 157 = .ok (.iconst 1, 1) := by decide +kernel
theorem dX9_does_158 : decode cX9_does 158 = .ok (.goto 4, 3) := by decide +kernel
theorem dX9_does_161 : decode cX9_does 161 = .ok (.iconst 0, 1) := by decide +kernel
theorem dX9_does_162 : decode cX9_does 162 = .ok (.ireturn, 1) := by decide +kernel
theorem dX9_does_163 : decode cX9_does 163 = .ok (.aload_n 0, 1) := by decide +kernel
theorem dX9_does_164 : decode cX9_does 164 = .ok (.iload_n 3, 1) := by decide +kernel
theorem dX9_does_165 : decode cX9_does 165 = .ok (.iload 4, 2) := by decide +kernel
theorem dX9_does_167 : decode cX9_does 167 = .ok (.iconst 0, 1) := by decide +kernel
theorem dX9_does_168 : decode cX9_does 168 = .ok (.invokevirtual 123, 3) := by decide +kernel
theorem dX9_does_171 : decode cX9_does 171 = .ok (.ifCond .lt 7, 3) := by decide +kernel
theorem dX9_does_174 : decode cX9_does 174 = .ok (.iconst 1, 1) := by decide +kernel
theorem dX9_does_175 : decode cX9_does 175 = .ok (.goto 4, 3) := by decide +kernel
theorem dX9_does_178 : decode cX9_does 178 = .ok (.iconst 0, 1) := by decide +kernel
theorem dX9_does_179 : decode cX9_does 179 = .ok (.ireturn, 1) := by decide +kernel
theorem dX9_does_180 : decode cX9_does 180 = .ok (.aload_n 0, 1) := by decide +kernel
theorem dX9_does_181 : decode cX9_does 181 = .ok (.iload_n 3, 1) := by decide +kernel
theorem dX9_does_182 : decode cX9_does 182 = .ok (.iload 4, 2) := by decide +kernel
theorem dX9_does_184 : decode cX9_does 184 = .ok (.iconst 1, 1) := by decide +kernel
theorem dX9_does_185 : decode cX9_does 185 = .ok (.invokevirtual 123, 3) := by decide +kernel
theorem dX9_does_188 : decode cX9_does 188 = .ok (.ifCond .lt 7, 3) := by decide +kernel
theorem dX9_does_191 : decode cX9_does 191 = .ok (.iconst 1, 1) := by decide +kernel
theorem dX9_does_192 : decode cX9_does 192 = .ok (.goto 4, 3) := by decide +kernel
theorem dX9_does_195 : decode cX9_does 195 = .ok (.iconst 0, 1) := by decide +kernel
theorem dX9_does_196 : decode cX9_does 196 = .ok (.ireturn, 1) := by decide +kernel
theorem dX9_does_197 : decode cX9_does 197 = .ok (.aload_n 0, 1) := by decide +kernel
theorem dX9_does_198 : decode cX9_does 198 = .ok (.iload_n 3, 1) := by decide +kernel
theorem dX9_does_199 : decode cX9_does 199 = .ok (.iconst 1, 1) := by decide +kernel
theorem dX9_does_200 : decode cX9_does 200 = .ok (.invokevirtual 127, 3) := by decide +kernel
theorem dX9_does_203 : decode cX9_does 203 = .ok (.ifCond .le 7, 3) := by decide +kernel
theorem dX9_does_206 : decode cX9_does 206 = .ok (.iconst 1, 1) := by decide +kernel
theorem dX9_does_207 : decode cX9_does 207 = .ok (.goto 4, 3) := by decide +kernel
theorem dX9_does_210 : decode cX9_does 210 = .ok (.iconst 0, 1) := by decide +kernel
theorem dX9_does_211 : decode cX9_does 211 = .ok (.ireturn, 1) := by decide +kernel
def fX9_does_L55 (k85 : Int32 → Option (Int32 × Int32 × Int32 × Int32 × Int32 × Int32 × Int32 × Int32 × Int64 × (Nat → Int32) × (Nat → Int32) × (Nat → Int32) × (Nat → Int32) × (Nat → Int32) × (Nat → Int32))) (u_text : (Nat → Int32)) (x2 : Int32) : Nat → Int32 → Int32 → Option (Int32 × Int32 × Int32 × Int32 × Int32 × Int32 × Int32 × Int32 × Int64 × (Nat → Int32) × (Nat → Int32) × (Nat → Int32) × (Nat → Int32) × (Nat → Int32) × (Nat → Int32))
  | 0, _, _ => none
  | n + 1, x5, x6 => if x2 ≤ x6 then (k85 x5) else (gA x6 100 (fX9_does_L55 k85 u_text x2 n (((10 * x5) + (u_text (x6).toNatClampNeg)) - 48) (x6 + 1)))
def fX9_does (u_people : Int32) (u_debts : Int32) (u_cuts : Int32) (u_seen : Int32) (u_events : Int32) (u_inBook : Int32) (u_texted : Int32) (u_rule : Int32) (u_rings : Int32) (u_size : Int32) (u_least : Int32) (u_worth : Int64) (u_groups : Int32) (u_paid : Int32) (u_imaged : Int32) (u_owes : (Nat → Int32)) (u_denies : (Nat → Int32)) (u_debt : (Nat → Int32)) (u_cut : (Nat → Int32)) (u_text : (Nat → Int32)) (u_path : (Nat → Int32)) (u_ring : (Nat → Int32)) (x1 : Int32) (x2 : Int32) : Option (Int32 × Int32 × Int32 × Int32 × Int32 × Int32 × Int32 × Int32 × Int64 × (Nat → Int32) × (Nat → Int32) × (Nat → Int32) × (Nat → Int32) × (Nat → Int32) × (Nat → Int32)) := jn (fun (y22_0 : Int32) => if x2 ≤ (x1 + 2) then (fX9_does_L55 (fun (x5_4 : Int32) => gA x1 100 (if (u_text (x1).toNatClampNeg) = 110 then ((fX9_consent u_people u_denies y22_0 0 0).bind (fun z7 => if z7.1 < 0 then (some (0, u_people, u_debts, u_cuts, u_rule, u_rings, u_size, u_least, u_worth, u_owes, z7.2, u_debt, u_cut, u_path, u_ring)) else (some (1, u_people, u_debts, u_cuts, u_rule, u_rings, u_size, u_least, u_worth, u_owes, z7.2, u_debt, u_cut, u_path, u_ring)))) else (if (u_text (x1).toNatClampNeg) = 111 then ((fX9_owe u_people u_debts u_owes u_debt y22_0 0 x5_4).bind (fun z10 => if z10.1 < 0 then (some (0, u_people, z10.2.1, u_cuts, u_rule, u_rings, u_size, u_least, u_worth, z10.2.2.1, u_denies, z10.2.2.2, u_cut, u_path, u_ring)) else (some (1, u_people, z10.2.1, u_cuts, u_rule, u_rings, u_size, u_least, u_worth, z10.2.2.1, u_denies, z10.2.2.2, u_cut, u_path, u_ring)))) else (if (u_text (x1).toNatClampNeg) = 112 then ((fX9_person u_people u_owes u_denies).bind (fun z13 => if z13.1 < 0 then (some (0, z13.2.1, u_debts, u_cuts, u_rule, u_rings, u_size, u_least, u_worth, z13.2.2.1, z13.2.2.2, u_debt, u_cut, u_path, u_ring)) else (some (1, z13.2.1, u_debts, u_cuts, u_rule, u_rings, u_size, u_least, u_worth, z13.2.2.1, z13.2.2.2, u_debt, u_cut, u_path, u_ring)))) else (if (u_text (x1).toNatClampNeg) = 121 then ((fX9_consent u_people u_denies y22_0 0 1).bind (fun z16 => if z16.1 < 0 then (some (0, u_people, u_debts, u_cuts, u_rule, u_rings, u_size, u_least, u_worth, u_owes, z16.2, u_debt, u_cut, u_path, u_ring)) else (some (1, u_people, u_debts, u_cuts, u_rule, u_rings, u_size, u_least, u_worth, u_owes, z16.2, u_debt, u_cut, u_path, u_ring)))) else ((fX9_cut u_people u_debts u_cuts u_seen u_events u_inBook u_texted u_rule u_rings u_size u_least u_worth u_groups u_paid u_imaged u_owes u_denies u_debt u_cut u_path u_ring y22_0 1).bind (fun z18 => if z18.1 ≤ 0 then (some (0, u_people, z18.2.1, z18.2.2.1, z18.2.2.2.1, z18.2.2.2.2.1, z18.2.2.2.2.2.1, z18.2.2.2.2.2.2.1, z18.2.2.2.2.2.2.2.1, z18.2.2.2.2.2.2.2.2.1, u_denies, z18.2.2.2.2.2.2.2.2.2.1, z18.2.2.2.2.2.2.2.2.2.2.1, z18.2.2.2.2.2.2.2.2.2.2.2.1, z18.2.2.2.2.2.2.2.2.2.2.2.2)) else (some (1, u_people, z18.2.1, z18.2.2.1, z18.2.2.2.1, z18.2.2.2.2.1, z18.2.2.2.2.2.1, z18.2.2.2.2.2.2.1, z18.2.2.2.2.2.2.2.1, z18.2.2.2.2.2.2.2.2.1, u_denies, z18.2.2.2.2.2.2.2.2.2.1, z18.2.2.2.2.2.2.2.2.2.2.1, z18.2.2.2.2.2.2.2.2.2.2.2.1, z18.2.2.2.2.2.2.2.2.2.2.2.2))))))))) u_text x2 400 0 (x1 + 3)) else (gA (x1 + 2) 100 (fX9_does_L55 (fun (x5_21 : Int32) => gA x1 100 (if (u_text (x1).toNatClampNeg) = 110 then ((fX9_consent u_people u_denies y22_0 ((u_text (x1 + 2).toNatClampNeg) - 48) 0).bind (fun z24 => if z24.1 < 0 then (some (0, u_people, u_debts, u_cuts, u_rule, u_rings, u_size, u_least, u_worth, u_owes, z24.2, u_debt, u_cut, u_path, u_ring)) else (some (1, u_people, u_debts, u_cuts, u_rule, u_rings, u_size, u_least, u_worth, u_owes, z24.2, u_debt, u_cut, u_path, u_ring)))) else (if (u_text (x1).toNatClampNeg) = 111 then ((fX9_owe u_people u_debts u_owes u_debt y22_0 ((u_text (x1 + 2).toNatClampNeg) - 48) x5_21).bind (fun z27 => if z27.1 < 0 then (some (0, u_people, z27.2.1, u_cuts, u_rule, u_rings, u_size, u_least, u_worth, z27.2.2.1, u_denies, z27.2.2.2, u_cut, u_path, u_ring)) else (some (1, u_people, z27.2.1, u_cuts, u_rule, u_rings, u_size, u_least, u_worth, z27.2.2.1, u_denies, z27.2.2.2, u_cut, u_path, u_ring)))) else (if (u_text (x1).toNatClampNeg) = 112 then ((fX9_person u_people u_owes u_denies).bind (fun z30 => if z30.1 < 0 then (some (0, z30.2.1, u_debts, u_cuts, u_rule, u_rings, u_size, u_least, u_worth, z30.2.2.1, z30.2.2.2, u_debt, u_cut, u_path, u_ring)) else (some (1, z30.2.1, u_debts, u_cuts, u_rule, u_rings, u_size, u_least, u_worth, z30.2.2.1, z30.2.2.2, u_debt, u_cut, u_path, u_ring)))) else (if (u_text (x1).toNatClampNeg) = 121 then ((fX9_consent u_people u_denies y22_0 ((u_text (x1 + 2).toNatClampNeg) - 48) 1).bind (fun z33 => if z33.1 < 0 then (some (0, u_people, u_debts, u_cuts, u_rule, u_rings, u_size, u_least, u_worth, u_owes, z33.2, u_debt, u_cut, u_path, u_ring)) else (some (1, u_people, u_debts, u_cuts, u_rule, u_rings, u_size, u_least, u_worth, u_owes, z33.2, u_debt, u_cut, u_path, u_ring)))) else ((fX9_cut u_people u_debts u_cuts u_seen u_events u_inBook u_texted u_rule u_rings u_size u_least u_worth u_groups u_paid u_imaged u_owes u_denies u_debt u_cut u_path u_ring y22_0 1).bind (fun z35 => if z35.1 ≤ 0 then (some (0, u_people, z35.2.1, z35.2.2.1, z35.2.2.2.1, z35.2.2.2.2.1, z35.2.2.2.2.2.1, z35.2.2.2.2.2.2.1, z35.2.2.2.2.2.2.2.1, z35.2.2.2.2.2.2.2.2.1, u_denies, z35.2.2.2.2.2.2.2.2.2.1, z35.2.2.2.2.2.2.2.2.2.2.1, z35.2.2.2.2.2.2.2.2.2.2.2.1, z35.2.2.2.2.2.2.2.2.2.2.2.2)) else (some (1, u_people, z35.2.1, z35.2.2.1, z35.2.2.2.1, z35.2.2.2.2.1, z35.2.2.2.2.2.1, z35.2.2.2.2.2.2.1, z35.2.2.2.2.2.2.2.1, z35.2.2.2.2.2.2.2.2.1, u_denies, z35.2.2.2.2.2.2.2.2.2.1, z35.2.2.2.2.2.2.2.2.2.2.1, z35.2.2.2.2.2.2.2.2.2.2.2.1, z35.2.2.2.2.2.2.2.2.2.2.2.2))))))))) u_text x2 400 0 (x1 + 3)))) (fun j22 => if x2 ≤ (x1 + 1) then (j22 0) else (gA (x1 + 1) 100 (j22 ((u_text (x1 + 1).toNatClampNeg) - 48))))
set_option maxRecDepth 20000 in
theorem LX9_does_55 {p : Program} {l : Launch} {e : Env} {R : Room} {s : State} {m : MethodId} {args : Array Value} {below : List Frame} {meth : Method} {c : Code} {Q : State → Prop} {D : va_G} {C : Nat → ClassId} {A : Nat → Prop} (cx : CX p m c s args RX9 cX9_does 7 D C A R 15) {q_ q_owes q_denies q_debt q_cut q_sight q_event q_book q_text q_path q_ring q_balance q_left q_sum q_parts q_group q_payment q_then q_image q_tapeSort q_tapeSize q_items : Nat} {u_people : Int32} {u_debts : Int32} {u_cuts : Int32} {u_seen : Int32} {u_events : Int32} {u_inBook : Int32} {u_texted : Int32} {u_rule : Int32} {u_rings : Int32} {u_size : Int32} {u_least : Int32} {u_worth : Int64} {u_groups : Int32} {u_paid : Int32} {u_imaged : Int32} {u_owes : (Nat → Int32)} {u_denies : (Nat → Int32)} {u_debt : (Nat → Int32)} {u_cut : (Nat → Int32)} {u_text : (Nat → Int32)} {u_path : (Nat → Int32)} {u_ring : (Nat → Int32)} {x1 : Int32} {x2 : Int32} {x3 : Int32} {x4 : Int32} {z : (Int32 × Int32 × Int32 × Int32 × Int32 × Int32 × Int32 × Int32 × Int64 × (Nat → Int32) × (Nat → Int32) × (Nat → Int32) × (Nat → Int32) × (Nat → Int32) × (Nat → Int32))} (hret : RT p l e R s m args below meth c Q D A cX9_does (some .boolean) [(q_, .inr (9, [.int z.2.1, .ref q_owes, .ref q_denies, .int z.2.2.1, .ref q_debt, .int z.2.2.2.1, .ref q_cut, .int u_seen, .ref q_sight, .int u_events, .ref q_event, .int u_inBook, .ref q_book, .int u_texted, .ref q_text, .ref q_path, .int z.2.2.2.2.1, .int z.2.2.2.2.2.1, .int z.2.2.2.2.2.2.1, .int z.2.2.2.2.2.2.2.1, .long z.2.2.2.2.2.2.2.2.1, .ref q_ring, .ref q_balance, .ref q_left, .ref q_sum, .ref q_parts, .int u_groups, .ref q_group, .int u_paid, .ref q_payment, .ref q_then, .int u_imaged, .ref q_image, .ref q_tapeSort, .ref q_tapeSize, .ref q_items])), (q_owes, .inl (C 0, 36, .inl z.2.2.2.2.2.2.2.2.2.1)), (q_denies, .inl (C 0, 36, .inl z.2.2.2.2.2.2.2.2.2.2.1)), (q_debt, .inl (C 0, 30, .inl z.2.2.2.2.2.2.2.2.2.2.2.1)), (q_cut, .inl (C 0, 120, .inl z.2.2.2.2.2.2.2.2.2.2.2.2.1)), (q_text, .inl (C 0, 100, .inl u_text)), (q_path, .inl (C 0, 6, .inl z.2.2.2.2.2.2.2.2.2.2.2.2.2.1)), (q_ring, .inl (C 0, 6, .inl z.2.2.2.2.2.2.2.2.2.2.2.2.2.2))] (some (.int z.1))) {k85 : Int32 → Option (Int32 × Int32 × Int32 × Int32 × Int32 × Int32 × Int32 × Int32 × Int64 × (Nat → Int32) × (Nat → Int32) × (Nat → Int32) × (Nat → Int32) × (Nat → Int32) × (Nat → Int32))} (hk85 : ∀ (x5 : Int32) (H : Heap) (locs : List Loc) (ls : Array Slot), k85 x5 = some z → HW D A s.heap H locs [(q_, .inr (9, [.int u_people, .ref q_owes, .ref q_denies, .int u_debts, .ref q_debt, .int u_cuts, .ref q_cut, .int u_seen, .ref q_sight, .int u_events, .ref q_event, .int u_inBook, .ref q_book, .int u_texted, .ref q_text, .ref q_path, .int u_rule, .int u_rings, .int u_size, .int u_least, .long u_worth, .ref q_ring, .ref q_balance, .ref q_left, .ref q_sum, .ref q_parts, .int u_groups, .ref q_group, .int u_paid, .ref q_payment, .ref q_then, .int u_imaged, .ref q_image, .ref q_tapeSort, .ref q_tapeSize, .ref q_items])), (q_owes, .inl (C 0, 36, .inl u_owes)), (q_denies, .inl (C 0, 36, .inl u_denies)), (q_debt, .inl (C 0, 30, .inl u_debt)), (q_cut, .inl (C 0, 120, .inl u_cut)), (q_text, .inl (C 0, 100, .inl u_text)), (q_path, .inl (C 0, 6, .inl u_path)), (q_ring, .inl (C 0, 6, .inl u_ring))] → lv_has ls 7 [(0, .ref q_), (1, .int x1), (3, .int x3), (4, .int x4), (5, .int x5)] → W p l e R s m args below meth c H locs 0 0 Q (F0 m 85 ls [])) :
    ∀ (n : Nat) (x5 : Int32) (x6 : Int32) (H : Heap) (locs : List Loc) (ls : Array Slot), fX9_does_L55 k85 u_text x2 n x5 x6 = some z → HW D A s.heap H locs [(q_, .inr (9, [.int u_people, .ref q_owes, .ref q_denies, .int u_debts, .ref q_debt, .int u_cuts, .ref q_cut, .int u_seen, .ref q_sight, .int u_events, .ref q_event, .int u_inBook, .ref q_book, .int u_texted, .ref q_text, .ref q_path, .int u_rule, .int u_rings, .int u_size, .int u_least, .long u_worth, .ref q_ring, .ref q_balance, .ref q_left, .ref q_sum, .ref q_parts, .int u_groups, .ref q_group, .int u_paid, .ref q_payment, .ref q_then, .int u_imaged, .ref q_image, .ref q_tapeSort, .ref q_tapeSize, .ref q_items])), (q_owes, .inl (C 0, 36, .inl u_owes)), (q_denies, .inl (C 0, 36, .inl u_denies)), (q_debt, .inl (C 0, 30, .inl u_debt)), (q_cut, .inl (C 0, 120, .inl u_cut)), (q_text, .inl (C 0, 100, .inl u_text)), (q_path, .inl (C 0, 6, .inl u_path)), (q_ring, .inl (C 0, 6, .inl u_ring))] → lv_has ls 7 [(0, .ref q_), (1, .int x1), (2, .int x2), (3, .int x3), (4, .int x4), (5, .int x5), (6, .int x6)] → W p l e R s m args below meth c H locs 0 0 Q (F0 m 55 ls []) := by
  have hx := cx.1
  have hb := cx.2.1
  intro n
  induction n with
  | zero => intro x5 x6 H locs ls hF; cases hF
  | succ n ih =>
    intro x5 x6 H locs ls hF hw hl
    rw [fX9_does_L55.eq_2] at hF
    refine lv_iload hx hb dX9_does_55 (lv_at hl 6 rfl) ?_
    refine lv_iload_n hx hb dX9_does_57 rfl (lv_at hl 2 rfl) ?_
    refine lv_icmp_ge (tgt := 85) hx hb dX9_does_58 (by decide) (fun c2 => ?_) (fun c2 => ?_)
    · replace hF := oi_t c2 hF
      exact hk85 x5 H locs ls hF hw (lv_sub hl [0, 1, 3, 4, 5] rfl)
    · replace hF := oi_f c2 hF
      refine lv_bipush (v := 10) hx hb dX9_does_61 (by decide) ?_
      refine lv_iload hx hb dX9_does_63 (lv_at hl 5 rfl) ?_
      refine lv_imul hx hb dX9_does_65 ?_
      refine lv_aload_n hx hb dX9_does_66 rfl (lv_at hl 0 rfl) ?_
      refine r_get (ci := 9) (v := .ref q_text) cx hw iX9 0 14 rfl rfl (by decide) wf_X9_33 rfl dX9_does_67 ?_
      refine lv_iload hx hb dX9_does_70 (lv_at hl 6 rfl) ?_
      obtain ⟨g3, hF⟩ := gA_s hF
      refine r_iald cx hw 5 rfl g3 dX9_does_72 ?_
      refine lv_iadd hx hb dX9_does_73 ?_
      refine lv_bipush (v := 48) hx hb dX9_does_74 (by decide) ?_
      refine lv_isub hx hb dX9_does_76 ?_
      refine lv_istore (lv' := [(5, .int (((10 * x5) + (u_text (x6).toNatClampNeg)) - 48)), (0, .ref q_), (1, .int x1), (2, .int x2), (3, .int x3), (4, .int x4), (6, .int x6)]) hx hb dX9_does_77 hl (by decide) rfl (fun ls hl => ?_)
      refine lv_iinc (v := x6 + 1) (lv' := [(6, .int (x6 + 1)), (5, .int (((10 * x5) + (u_text (x6).toNatClampNeg)) - 48)), (0, .ref q_), (1, .int x1), (2, .int x2), (3, .int x3), (4, .int x4)]) hx hb dX9_does_79 hl (k := 6) rfl rfl (by decide) rfl (fun ls hl => ?_)
      refine lv_goto (tgt := 55) hx hb dX9_does_82 (by decide) ?_
      exact ih (((10 * x5) + (u_text (x6).toNatClampNeg)) - 48) (x6 + 1) H locs ls hF hw (lv_sub hl [2, 3, 4, 5, 6, 1, 0] rfl)
set_option maxRecDepth 20000 in
theorem CX9_does (l : Launch) (D : va_G) (C : Nat → ClassId) (q_ q_owes q_denies q_debt q_cut q_sight q_event q_book q_text q_path q_ring q_balance q_left q_sum q_parts q_group q_payment q_then q_image q_tapeSort q_tapeSize q_items : Nat) (u_people : Int32) (u_debts : Int32) (u_cuts : Int32) (u_seen : Int32) (u_events : Int32) (u_inBook : Int32) (u_texted : Int32) (u_rule : Int32) (u_rings : Int32) (u_size : Int32) (u_least : Int32) (u_worth : Int64) (u_groups : Int32) (u_paid : Int32) (u_imaged : Int32) (u_owes : (Nat → Int32)) (u_denies : (Nat → Int32)) (u_debt : (Nat → Int32)) (u_cut : (Nat → Int32)) (u_text : (Nat → Int32)) (u_path : (Nat → Int32)) (u_ring : (Nat → Int32)) (x1 : Int32) (x2 : Int32) (z : (Int32 × Int32 × Int32 × Int32 × Int32 × Int32 × Int32 × Int32 × Int64 × (Nat → Int32) × (Nat → Int32) × (Nat → Int32) × (Nat → Int32) × (Nat → Int32) × (Nat → Int32))) (hF : fX9_does u_people u_debts u_cuts u_seen u_events u_inBook u_texted u_rule u_rings u_size u_least u_worth u_groups u_paid u_imaged u_owes u_denies u_debt u_cut u_text u_path u_ring x1 x2 = some z) : Ct l yX9_does cX9_does 7 (some .boolean) 15 D C [.ref q_, .int x1, .int x2] [(q_, .inr (9, [.int u_people, .ref q_owes, .ref q_denies, .int u_debts, .ref q_debt, .int u_cuts, .ref q_cut, .int u_seen, .ref q_sight, .int u_events, .ref q_event, .int u_inBook, .ref q_book, .int u_texted, .ref q_text, .ref q_path, .int u_rule, .int u_rings, .int u_size, .int u_least, .long u_worth, .ref q_ring, .ref q_balance, .ref q_left, .ref q_sum, .ref q_parts, .int u_groups, .ref q_group, .int u_paid, .ref q_payment, .ref q_then, .int u_imaged, .ref q_image, .ref q_tapeSort, .ref q_tapeSize, .ref q_items])), (q_owes, .inl (C 0, 36, .inl u_owes)), (q_denies, .inl (C 0, 36, .inl u_denies)), (q_debt, .inl (C 0, 30, .inl u_debt)), (q_cut, .inl (C 0, 120, .inl u_cut)), (q_text, .inl (C 0, 100, .inl u_text)), (q_path, .inl (C 0, 6, .inl u_path)), (q_ring, .inl (C 0, 6, .inl u_ring))] [(q_, .inr (9, [.int z.2.1, .ref q_owes, .ref q_denies, .int z.2.2.1, .ref q_debt, .int z.2.2.2.1, .ref q_cut, .int u_seen, .ref q_sight, .int u_events, .ref q_event, .int u_inBook, .ref q_book, .int u_texted, .ref q_text, .ref q_path, .int z.2.2.2.2.1, .int z.2.2.2.2.2.1, .int z.2.2.2.2.2.2.1, .int z.2.2.2.2.2.2.2.1, .long z.2.2.2.2.2.2.2.2.1, .ref q_ring, .ref q_balance, .ref q_left, .ref q_sum, .ref q_parts, .int u_groups, .ref q_group, .int u_paid, .ref q_payment, .ref q_then, .int u_imaged, .ref q_image, .ref q_tapeSort, .ref q_tapeSize, .ref q_items])), (q_owes, .inl (C 0, 36, .inl z.2.2.2.2.2.2.2.2.2.1)), (q_denies, .inl (C 0, 36, .inl z.2.2.2.2.2.2.2.2.2.2.1)), (q_debt, .inl (C 0, 30, .inl z.2.2.2.2.2.2.2.2.2.2.2.1)), (q_cut, .inl (C 0, 120, .inl z.2.2.2.2.2.2.2.2.2.2.2.2.1)), (q_text, .inl (C 0, 100, .inl u_text)), (q_path, .inl (C 0, 6, .inl z.2.2.2.2.2.2.2.2.2.2.2.2.2.1)), (q_ring, .inl (C 0, 6, .inl z.2.2.2.2.2.2.2.2.2.2.2.2.2.2))] (some (.int z.1)) := by
  refine Ct_of (by decide) (Nat.le_of_ble_eq_true rfl) ?_
  intro p e R s m args below meth c A Q H locs ls cx hw hl hret
  have cx : CX p m c s args RX9 cX9_does 7 D C A R 15 := cx
  have hx := cx.1
  have hb := cx.2.1
  have hl : lv_has ls 7 [(0, .ref q_), (1, .int x1), (2, .int x2)] := hl
  rw [fX9_does.eq_1] at hF
  refine lv_iload_n hx hb dX9_does_0 rfl (lv_at hl 2 rfl) ?_
  refine lv_iload_n hx hb dX9_does_1 rfl (lv_at hl 1 rfl) ?_
  refine lv_iconst (v := 1) hx hb dX9_does_2 (by decide) ?_
  refine lv_iadd hx hb dX9_does_3 ?_
  obtain ⟨j22, ej22, hF⟩ := jn_s hF
  have J22 : ∀ (y22_0 : Int32) (H : Heap) (locs : List Loc) (ls : Array Slot), j22 y22_0 = some z → HW D A s.heap H locs [(q_, .inr (9, [.int u_people, .ref q_owes, .ref q_denies, .int u_debts, .ref q_debt, .int u_cuts, .ref q_cut, .int u_seen, .ref q_sight, .int u_events, .ref q_event, .int u_inBook, .ref q_book, .int u_texted, .ref q_text, .ref q_path, .int u_rule, .int u_rings, .int u_size, .int u_least, .long u_worth, .ref q_ring, .ref q_balance, .ref q_left, .ref q_sum, .ref q_parts, .int u_groups, .ref q_group, .int u_paid, .ref q_payment, .ref q_then, .int u_imaged, .ref q_image, .ref q_tapeSort, .ref q_tapeSize, .ref q_items])), (q_owes, .inl (C 0, 36, .inl u_owes)), (q_denies, .inl (C 0, 36, .inl u_denies)), (q_debt, .inl (C 0, 30, .inl u_debt)), (q_cut, .inl (C 0, 120, .inl u_cut)), (q_text, .inl (C 0, 100, .inl u_text)), (q_path, .inl (C 0, 6, .inl u_path)), (q_ring, .inl (C 0, 6, .inl u_ring))] → lv_has ls 7 [(0, .ref q_), (1, .int x1), (2, .int x2)] → W p l e R s m args below meth c H locs 0 0 Q (F0 m 22 ls [.int y22_0]) := by
    intro y22_0 H locs ls hF hw hl
    rw [ej22] at hF
    refine lv_istore_n (lv' := [(3, .int y22_0), (0, .ref q_), (1, .int x1), (2, .int x2)]) hx hb dX9_does_22 rfl hl (by decide) rfl (fun ls hl => ?_)
    refine lv_iload_n hx hb dX9_does_23 rfl (lv_at hl 3 rfl) ?_
    refine lv_iload_n hx hb dX9_does_24 rfl (lv_at hl 2 rfl) ?_
    refine lv_iconst (v := 2) hx hb dX9_does_25 (by decide) ?_
    refine lv_iadd hx hb dX9_does_26 ?_
    refine lv_icmp_le (tgt := 44) hx hb dX9_does_27 (by decide) (fun c1 => ?_) (fun c1 => ?_)
    · replace hF := oi_t c1 hF
      refine lv_iconst (v := 0) hx hb dX9_does_44 (by decide) ?_
      refine lv_istore (lv' := [(4, .int 0), (3, .int y22_0), (0, .ref q_), (1, .int x1), (2, .int x2)]) hx hb dX9_does_45 hl (by decide) rfl (fun ls hl => ?_)
      refine lv_iconst (v := 0) hx hb dX9_does_47 (by decide) ?_
      refine lv_istore (lv' := [(5, .int 0), (4, .int 0), (3, .int y22_0), (0, .ref q_), (1, .int x1), (2, .int x2)]) hx hb dX9_does_48 hl (by decide) rfl (fun ls hl => ?_)
      refine lv_iload_n hx hb dX9_does_50 rfl (lv_at hl 4 rfl) ?_
      refine lv_iconst (v := 3) hx hb dX9_does_51 (by decide) ?_
      refine lv_iadd hx hb dX9_does_52 ?_
      refine lv_istore (lv' := [(6, .int (x1 + 3)), (5, .int 0), (4, .int 0), (3, .int y22_0), (0, .ref q_), (1, .int x1), (2, .int x2)]) hx hb dX9_does_53 hl (by decide) rfl (fun ls hl => ?_)
      refine LX9_does_55 cx hret (fun x5_4 H locs ls hF hw hl => ?_) 400 0 (x1 + 3) H locs ls hF hw (lv_sub hl [4, 5, 6, 3, 2, 1, 0] rfl)
      · refine lv_aload_n hx hb dX9_does_85 rfl (lv_at hl 0 rfl) ?_
        refine r_get (ci := 9) (v := .ref q_text) cx hw iX9 0 14 rfl rfl (by decide) wf_X9_33 rfl dX9_does_86 ?_
        refine lv_iload_n hx hb dX9_does_89 rfl (lv_at hl 1 rfl) ?_
        obtain ⟨g5, hF⟩ := gA_s hF
        refine r_iald cx hw 5 rfl g5 dX9_does_90 ?_
        by_cases c6 : (u_text (x1).toNatClampNeg) = 110
        · replace hF := oi_t c6 hF
          refine lv_lookup (tgt := 163) (off := 72) hx hb dX9_does_91 (by decide) (by rw [c6]; decide +kernel) (by decide) ?_
          refine lv_aload_n hx hb dX9_does_163 rfl (lv_at hl 0 rfl) ?_
          refine lv_iload_n hx hb dX9_does_164 rfl (lv_at hl 2 rfl) ?_
          refine lv_iload hx hb dX9_does_165 (lv_at hl 3 rfl) ?_
          refine lv_iconst (v := 0) hx hb dX9_does_167 (by decide) ?_
          obtain ⟨z7, hz7, hF⟩ := ob hF
          refine cV (wr := [(q_owes, .inl (C 0, 36, .inl u_owes)), (q_debt, .inl (C 0, 30, .inl u_debt)), (q_cut, .inl (C 0, 120, .inl u_cut)), (q_text, .inl (C 0, 100, .inl u_text)), (q_path, .inl (C 0, 6, .inl u_path)), (q_ring, .inl (C 0, 6, .inl u_ring))]) (w2 := [(q_, .inr (9, [.int u_people, .ref q_owes, .ref q_denies, .int u_debts, .ref q_debt, .int u_cuts, .ref q_cut, .int u_seen, .ref q_sight, .int u_events, .ref q_event, .int u_inBook, .ref q_book, .int u_texted, .ref q_text, .ref q_path, .int u_rule, .int u_rings, .int u_size, .int u_least, .long u_worth, .ref q_ring, .ref q_balance, .ref q_left, .ref q_sum, .ref q_parts, .int u_groups, .ref q_group, .int u_paid, .ref q_payment, .ref q_then, .int u_imaged, .ref q_image, .ref q_tapeSort, .ref q_tapeSize, .ref q_items])), (q_owes, .inl (C 0, 36, .inl u_owes)), (q_denies, .inl (C 0, 36, .inl z7.2)), (q_debt, .inl (C 0, 30, .inl u_debt)), (q_cut, .inl (C 0, 120, .inl u_cut)), (q_text, .inl (C 0, 100, .inl u_text)), (q_path, .inl (C 0, 6, .inl u_path)), (q_ring, .inl (C 0, 6, .inl u_ring))]) (st2 := [.int z7.1]) cx (CX9_consent l D C q_ q_owes q_denies q_debt q_cut q_sight q_event q_book q_text q_path q_ring q_balance q_left q_sum q_parts q_group q_payment q_then q_image q_tapeSort q_tapeSize q_items u_people u_debts u_cuts u_seen u_events u_inBook u_texted u_rule u_rings u_size u_least u_worth u_groups u_paid u_imaged u_denies y22_0 0 0 z7 hz7) lk_X9_123 my_X9_consent ml_X9_consent ⟨by decide, by decide⟩ hw [0, 2] [1, 3, 4, 5, 6, 7] [6, 0, 7, 1, 2, 3, 4, 5] rfl rfl (by decide) rfl rfl rfl rfl (Nat.le_of_ble_eq_true rfl) dX9_does_168 rfl (fun H locs hw => ?_) hl.1
          refine lv_if_lt (tgt := 178) hx hb dX9_does_171 (by decide) (fun c8 => ?_) (fun c8 => ?_)
          · replace hF := oi_t c8 hF
            refine lv_iconst (v := 0) hx hb dX9_does_178 (by decide) ?_
            obtain rfl := Option.some.inj hF
            exact rt_z hret hw rfl rfl dX9_does_179
          · replace hF := oi_f c8 hF
            refine lv_iconst (v := 1) hx hb dX9_does_174 (by decide) ?_
            refine lv_goto (tgt := 179) hx hb dX9_does_175 (by decide) ?_
            obtain rfl := Option.some.inj hF
            exact rt_z hret hw rfl rfl dX9_does_179
        replace hF := oi_f c6 hF
        by_cases c9 : (u_text (x1).toNatClampNeg) = 111
        · replace hF := oi_t c9 hF
          refine lv_lookup (tgt := 145) (off := 54) hx hb dX9_does_91 (by decide) (by rw [c9]; decide +kernel) (by decide) ?_
          refine lv_aload_n hx hb dX9_does_145 rfl (lv_at hl 0 rfl) ?_
          refine lv_iload_n hx hb dX9_does_146 rfl (lv_at hl 2 rfl) ?_
          refine lv_iload hx hb dX9_does_147 (lv_at hl 3 rfl) ?_
          refine lv_iload hx hb dX9_does_149 (lv_at hl 4 rfl) ?_
          obtain ⟨z10, hz10, hF⟩ := ob hF
          refine cV (wr := [(q_denies, .inl (C 0, 36, .inl u_denies)), (q_cut, .inl (C 0, 120, .inl u_cut)), (q_text, .inl (C 0, 100, .inl u_text)), (q_path, .inl (C 0, 6, .inl u_path)), (q_ring, .inl (C 0, 6, .inl u_ring))]) (w2 := [(q_, .inr (9, [.int u_people, .ref q_owes, .ref q_denies, .int z10.2.1, .ref q_debt, .int u_cuts, .ref q_cut, .int u_seen, .ref q_sight, .int u_events, .ref q_event, .int u_inBook, .ref q_book, .int u_texted, .ref q_text, .ref q_path, .int u_rule, .int u_rings, .int u_size, .int u_least, .long u_worth, .ref q_ring, .ref q_balance, .ref q_left, .ref q_sum, .ref q_parts, .int u_groups, .ref q_group, .int u_paid, .ref q_payment, .ref q_then, .int u_imaged, .ref q_image, .ref q_tapeSort, .ref q_tapeSize, .ref q_items])), (q_owes, .inl (C 0, 36, .inl z10.2.2.1)), (q_denies, .inl (C 0, 36, .inl u_denies)), (q_debt, .inl (C 0, 30, .inl z10.2.2.2)), (q_cut, .inl (C 0, 120, .inl u_cut)), (q_text, .inl (C 0, 100, .inl u_text)), (q_path, .inl (C 0, 6, .inl u_path)), (q_ring, .inl (C 0, 6, .inl u_ring))]) (st2 := [.int z10.1]) cx (CX9_owe l D C q_ q_owes q_denies q_debt q_cut q_sight q_event q_book q_text q_path q_ring q_balance q_left q_sum q_parts q_group q_payment q_then q_image q_tapeSort q_tapeSize q_items u_people u_debts u_cuts u_seen u_events u_inBook u_texted u_rule u_rings u_size u_least u_worth u_groups u_paid u_imaged u_owes u_debt y22_0 0 x5_4 z10 hz10) lk_X9_119 my_X9_owe ml_X9_owe ⟨by decide, by decide⟩ hw [0, 1, 3] [2, 4, 5, 6, 7] [5, 6, 0, 7, 1, 2, 3, 4] rfl rfl (by decide) rfl rfl rfl rfl (Nat.le_of_ble_eq_true rfl) dX9_does_151 rfl (fun H locs hw => ?_) hl.1
          refine lv_if_lt (tgt := 161) hx hb dX9_does_154 (by decide) (fun c11 => ?_) (fun c11 => ?_)
          · replace hF := oi_t c11 hF
            refine lv_iconst (v := 0) hx hb dX9_does_161 (by decide) ?_
            obtain rfl := Option.some.inj hF
            exact rt_z hret hw rfl rfl dX9_does_162
          · replace hF := oi_f c11 hF
            refine lv_iconst (v := 1) hx hb dX9_does_157 (by decide) ?_
            refine lv_goto (tgt := 162) hx hb dX9_does_158 (by decide) ?_
            obtain rfl := Option.some.inj hF
            exact rt_z hret hw rfl rfl dX9_does_162
        replace hF := oi_f c9 hF
        by_cases c12 : (u_text (x1).toNatClampNeg) = 112
        · replace hF := oi_t c12 hF
          refine lv_lookup (tgt := 132) (off := 41) hx hb dX9_does_91 (by decide) (by rw [c12]; decide +kernel) (by decide) ?_
          refine lv_aload_n hx hb dX9_does_132 rfl (lv_at hl 0 rfl) ?_
          obtain ⟨z13, hz13, hF⟩ := ob hF
          refine cV (wr := [(q_debt, .inl (C 0, 30, .inl u_debt)), (q_cut, .inl (C 0, 120, .inl u_cut)), (q_text, .inl (C 0, 100, .inl u_text)), (q_path, .inl (C 0, 6, .inl u_path)), (q_ring, .inl (C 0, 6, .inl u_ring))]) (w2 := [(q_, .inr (9, [.int z13.2.1, .ref q_owes, .ref q_denies, .int u_debts, .ref q_debt, .int u_cuts, .ref q_cut, .int u_seen, .ref q_sight, .int u_events, .ref q_event, .int u_inBook, .ref q_book, .int u_texted, .ref q_text, .ref q_path, .int u_rule, .int u_rings, .int u_size, .int u_least, .long u_worth, .ref q_ring, .ref q_balance, .ref q_left, .ref q_sum, .ref q_parts, .int u_groups, .ref q_group, .int u_paid, .ref q_payment, .ref q_then, .int u_imaged, .ref q_image, .ref q_tapeSort, .ref q_tapeSize, .ref q_items])), (q_owes, .inl (C 0, 36, .inl z13.2.2.1)), (q_denies, .inl (C 0, 36, .inl z13.2.2.2)), (q_debt, .inl (C 0, 30, .inl u_debt)), (q_cut, .inl (C 0, 120, .inl u_cut)), (q_text, .inl (C 0, 100, .inl u_text)), (q_path, .inl (C 0, 6, .inl u_path)), (q_ring, .inl (C 0, 6, .inl u_ring))]) (st2 := [.int z13.1]) cx (CX9_person l D C q_ q_owes q_denies q_debt q_cut q_sight q_event q_book q_text q_path q_ring q_balance q_left q_sum q_parts q_group q_payment q_then q_image q_tapeSort q_tapeSize q_items u_people u_debts u_cuts u_seen u_events u_inBook u_texted u_rule u_rings u_size u_least u_worth u_groups u_paid u_imaged u_owes u_denies z13 hz13) lk_X9_115 my_X9_person ml_X9_person ⟨by decide, by decide⟩ hw [0, 1, 2] [3, 4, 5, 6, 7] [5, 6, 7, 0, 1, 2, 3, 4] rfl rfl (by decide) rfl rfl rfl rfl (Nat.le_of_ble_eq_true rfl) dX9_does_133 rfl (fun H locs hw => ?_) hl.1
          refine lv_if_lt (tgt := 143) hx hb dX9_does_136 (by decide) (fun c14 => ?_) (fun c14 => ?_)
          · replace hF := oi_t c14 hF
            refine lv_iconst (v := 0) hx hb dX9_does_143 (by decide) ?_
            obtain rfl := Option.some.inj hF
            exact rt_z hret hw rfl rfl dX9_does_144
          · replace hF := oi_f c14 hF
            refine lv_iconst (v := 1) hx hb dX9_does_139 (by decide) ?_
            refine lv_goto (tgt := 144) hx hb dX9_does_140 (by decide) ?_
            obtain rfl := Option.some.inj hF
            exact rt_z hret hw rfl rfl dX9_does_144
        replace hF := oi_f c12 hF
        by_cases c15 : (u_text (x1).toNatClampNeg) = 121
        · replace hF := oi_t c15 hF
          refine lv_lookup (tgt := 180) (off := 89) hx hb dX9_does_91 (by decide) (by rw [c15]; decide +kernel) (by decide) ?_
          refine lv_aload_n hx hb dX9_does_180 rfl (lv_at hl 0 rfl) ?_
          refine lv_iload_n hx hb dX9_does_181 rfl (lv_at hl 2 rfl) ?_
          refine lv_iload hx hb dX9_does_182 (lv_at hl 3 rfl) ?_
          refine lv_iconst (v := 1) hx hb dX9_does_184 (by decide) ?_
          obtain ⟨z16, hz16, hF⟩ := ob hF
          refine cV (wr := [(q_owes, .inl (C 0, 36, .inl u_owes)), (q_debt, .inl (C 0, 30, .inl u_debt)), (q_cut, .inl (C 0, 120, .inl u_cut)), (q_text, .inl (C 0, 100, .inl u_text)), (q_path, .inl (C 0, 6, .inl u_path)), (q_ring, .inl (C 0, 6, .inl u_ring))]) (w2 := [(q_, .inr (9, [.int u_people, .ref q_owes, .ref q_denies, .int u_debts, .ref q_debt, .int u_cuts, .ref q_cut, .int u_seen, .ref q_sight, .int u_events, .ref q_event, .int u_inBook, .ref q_book, .int u_texted, .ref q_text, .ref q_path, .int u_rule, .int u_rings, .int u_size, .int u_least, .long u_worth, .ref q_ring, .ref q_balance, .ref q_left, .ref q_sum, .ref q_parts, .int u_groups, .ref q_group, .int u_paid, .ref q_payment, .ref q_then, .int u_imaged, .ref q_image, .ref q_tapeSort, .ref q_tapeSize, .ref q_items])), (q_owes, .inl (C 0, 36, .inl u_owes)), (q_denies, .inl (C 0, 36, .inl z16.2)), (q_debt, .inl (C 0, 30, .inl u_debt)), (q_cut, .inl (C 0, 120, .inl u_cut)), (q_text, .inl (C 0, 100, .inl u_text)), (q_path, .inl (C 0, 6, .inl u_path)), (q_ring, .inl (C 0, 6, .inl u_ring))]) (st2 := [.int z16.1]) cx (CX9_consent l D C q_ q_owes q_denies q_debt q_cut q_sight q_event q_book q_text q_path q_ring q_balance q_left q_sum q_parts q_group q_payment q_then q_image q_tapeSort q_tapeSize q_items u_people u_debts u_cuts u_seen u_events u_inBook u_texted u_rule u_rings u_size u_least u_worth u_groups u_paid u_imaged u_denies y22_0 0 1 z16 hz16) lk_X9_123 my_X9_consent ml_X9_consent ⟨by decide, by decide⟩ hw [0, 2] [1, 3, 4, 5, 6, 7] [6, 0, 7, 1, 2, 3, 4, 5] rfl rfl (by decide) rfl rfl rfl rfl (Nat.le_of_ble_eq_true rfl) dX9_does_185 rfl (fun H locs hw => ?_) hl.1
          refine lv_if_lt (tgt := 195) hx hb dX9_does_188 (by decide) (fun c17 => ?_) (fun c17 => ?_)
          · replace hF := oi_t c17 hF
            refine lv_iconst (v := 0) hx hb dX9_does_195 (by decide) ?_
            obtain rfl := Option.some.inj hF
            exact rt_z hret hw rfl rfl dX9_does_196
          · replace hF := oi_f c17 hF
            refine lv_iconst (v := 1) hx hb dX9_does_191 (by decide) ?_
            refine lv_goto (tgt := 196) hx hb dX9_does_192 (by decide) ?_
            obtain rfl := Option.some.inj hF
            exact rt_z hret hw rfl rfl dX9_does_196
        replace hF := oi_f c15 hF
        have t6 := ti_ne (n := 110) (by decide) c6
        have t9 := ti_ne (n := 111) (by decide) c9
        have t12 := ti_ne (n := 112) (by decide) c12
        have t15 := ti_ne (n := 121) (by decide) c15
        refine lv_lookup (tgt := 197) (off := 106) hx hb dX9_does_91 (by decide) (by simp only [Op.lookupswitch.offset]; repeat (first | rfl | rw [if_neg (fun h => by omega)])) (by decide) ?_
        refine lv_aload_n hx hb dX9_does_197 rfl (lv_at hl 0 rfl) ?_
        refine lv_iload_n hx hb dX9_does_198 rfl (lv_at hl 2 rfl) ?_
        refine lv_iconst (v := 1) hx hb dX9_does_199 (by decide) ?_
        obtain ⟨z18, hz18, hF⟩ := ob hF
        refine cV (wr := [(q_text, .inl (C 0, 100, .inl u_text))]) (w2 := [(q_, .inr (9, [.int u_people, .ref q_owes, .ref q_denies, .int z18.2.1, .ref q_debt, .int z18.2.2.1, .ref q_cut, .int u_seen, .ref q_sight, .int u_events, .ref q_event, .int u_inBook, .ref q_book, .int u_texted, .ref q_text, .ref q_path, .int z18.2.2.2.1, .int z18.2.2.2.2.1, .int z18.2.2.2.2.2.1, .int z18.2.2.2.2.2.2.1, .long z18.2.2.2.2.2.2.2.1, .ref q_ring, .ref q_balance, .ref q_left, .ref q_sum, .ref q_parts, .int u_groups, .ref q_group, .int u_paid, .ref q_payment, .ref q_then, .int u_imaged, .ref q_image, .ref q_tapeSort, .ref q_tapeSize, .ref q_items])), (q_owes, .inl (C 0, 36, .inl z18.2.2.2.2.2.2.2.2.1)), (q_denies, .inl (C 0, 36, .inl u_denies)), (q_debt, .inl (C 0, 30, .inl z18.2.2.2.2.2.2.2.2.2.1)), (q_cut, .inl (C 0, 120, .inl z18.2.2.2.2.2.2.2.2.2.2.1)), (q_text, .inl (C 0, 100, .inl u_text)), (q_path, .inl (C 0, 6, .inl z18.2.2.2.2.2.2.2.2.2.2.2.1)), (q_ring, .inl (C 0, 6, .inl z18.2.2.2.2.2.2.2.2.2.2.2.2))]) (st2 := [.int z18.1]) cx (CX9_cut l D C q_ q_owes q_denies q_debt q_cut q_sight q_event q_book q_text q_path q_ring q_balance q_left q_sum q_parts q_group q_payment q_then q_image q_tapeSort q_tapeSize q_items u_people u_debts u_cuts u_seen u_events u_inBook u_texted u_rule u_rings u_size u_least u_worth u_groups u_paid u_imaged u_owes u_denies u_debt u_cut u_path u_ring y22_0 1 z18 hz18) lk_X9_127 my_X9_cut ml_X9_cut ⟨by decide, by decide⟩ hw [0, 1, 2, 3, 4, 6, 7] [5] [1, 2, 3, 4, 5, 0, 6, 7] rfl rfl (by decide) rfl rfl rfl rfl (Nat.le_of_ble_eq_true rfl) dX9_does_200 rfl (fun H locs hw => ?_) hl.1
        refine lv_if_le (tgt := 210) hx hb dX9_does_203 (by decide) (fun c19 => ?_) (fun c19 => ?_)
        · replace hF := oi_t c19 hF
          refine lv_iconst (v := 0) hx hb dX9_does_210 (by decide) ?_
          obtain rfl := Option.some.inj hF
          exact rt_z hret hw rfl rfl dX9_does_211
        · replace hF := oi_f c19 hF
          refine lv_iconst (v := 1) hx hb dX9_does_206 (by decide) ?_
          refine lv_goto (tgt := 211) hx hb dX9_does_207 (by decide) ?_
          obtain rfl := Option.some.inj hF
          exact rt_z hret hw rfl rfl dX9_does_211
    · replace hF := oi_f c1 hF
      refine lv_aload_n hx hb dX9_does_30 rfl (lv_at hl 1 rfl) ?_
      refine r_get (ci := 9) (v := .ref q_text) cx hw iX9 0 14 rfl rfl (by decide) wf_X9_33 rfl dX9_does_31 ?_
      refine lv_iload_n hx hb dX9_does_34 rfl (lv_at hl 2 rfl) ?_
      refine lv_iconst (v := 2) hx hb dX9_does_35 (by decide) ?_
      refine lv_iadd hx hb dX9_does_36 ?_
      obtain ⟨g20, hF⟩ := gA_s hF
      refine r_iald cx hw 5 rfl g20 dX9_does_37 ?_
      refine lv_bipush (v := 48) hx hb dX9_does_38 (by decide) ?_
      refine lv_isub hx hb dX9_does_40 ?_
      refine lv_goto (tgt := 45) hx hb dX9_does_41 (by decide) ?_
      refine lv_istore (lv' := [(4, .int ((u_text (x1 + 2).toNatClampNeg) - 48)), (3, .int y22_0), (0, .ref q_), (1, .int x1), (2, .int x2)]) hx hb dX9_does_45 hl (by decide) rfl (fun ls hl => ?_)
      refine lv_iconst (v := 0) hx hb dX9_does_47 (by decide) ?_
      refine lv_istore (lv' := [(5, .int 0), (4, .int ((u_text (x1 + 2).toNatClampNeg) - 48)), (3, .int y22_0), (0, .ref q_), (1, .int x1), (2, .int x2)]) hx hb dX9_does_48 hl (by decide) rfl (fun ls hl => ?_)
      refine lv_iload_n hx hb dX9_does_50 rfl (lv_at hl 4 rfl) ?_
      refine lv_iconst (v := 3) hx hb dX9_does_51 (by decide) ?_
      refine lv_iadd hx hb dX9_does_52 ?_
      refine lv_istore (lv' := [(6, .int (x1 + 3)), (5, .int 0), (4, .int ((u_text (x1 + 2).toNatClampNeg) - 48)), (3, .int y22_0), (0, .ref q_), (1, .int x1), (2, .int x2)]) hx hb dX9_does_53 hl (by decide) rfl (fun ls hl => ?_)
      refine LX9_does_55 cx hret (fun x5_21 H locs ls hF hw hl => ?_) 400 0 (x1 + 3) H locs ls hF hw (lv_sub hl [4, 5, 6, 3, 2, 1, 0] rfl)
      · refine lv_aload_n hx hb dX9_does_85 rfl (lv_at hl 0 rfl) ?_
        refine r_get (ci := 9) (v := .ref q_text) cx hw iX9 0 14 rfl rfl (by decide) wf_X9_33 rfl dX9_does_86 ?_
        refine lv_iload_n hx hb dX9_does_89 rfl (lv_at hl 1 rfl) ?_
        obtain ⟨g22, hF⟩ := gA_s hF
        refine r_iald cx hw 5 rfl g22 dX9_does_90 ?_
        by_cases c23 : (u_text (x1).toNatClampNeg) = 110
        · replace hF := oi_t c23 hF
          refine lv_lookup (tgt := 163) (off := 72) hx hb dX9_does_91 (by decide) (by rw [c23]; decide +kernel) (by decide) ?_
          refine lv_aload_n hx hb dX9_does_163 rfl (lv_at hl 0 rfl) ?_
          refine lv_iload_n hx hb dX9_does_164 rfl (lv_at hl 2 rfl) ?_
          refine lv_iload hx hb dX9_does_165 (lv_at hl 3 rfl) ?_
          refine lv_iconst (v := 0) hx hb dX9_does_167 (by decide) ?_
          obtain ⟨z24, hz24, hF⟩ := ob hF
          refine cV (wr := [(q_owes, .inl (C 0, 36, .inl u_owes)), (q_debt, .inl (C 0, 30, .inl u_debt)), (q_cut, .inl (C 0, 120, .inl u_cut)), (q_text, .inl (C 0, 100, .inl u_text)), (q_path, .inl (C 0, 6, .inl u_path)), (q_ring, .inl (C 0, 6, .inl u_ring))]) (w2 := [(q_, .inr (9, [.int u_people, .ref q_owes, .ref q_denies, .int u_debts, .ref q_debt, .int u_cuts, .ref q_cut, .int u_seen, .ref q_sight, .int u_events, .ref q_event, .int u_inBook, .ref q_book, .int u_texted, .ref q_text, .ref q_path, .int u_rule, .int u_rings, .int u_size, .int u_least, .long u_worth, .ref q_ring, .ref q_balance, .ref q_left, .ref q_sum, .ref q_parts, .int u_groups, .ref q_group, .int u_paid, .ref q_payment, .ref q_then, .int u_imaged, .ref q_image, .ref q_tapeSort, .ref q_tapeSize, .ref q_items])), (q_owes, .inl (C 0, 36, .inl u_owes)), (q_denies, .inl (C 0, 36, .inl z24.2)), (q_debt, .inl (C 0, 30, .inl u_debt)), (q_cut, .inl (C 0, 120, .inl u_cut)), (q_text, .inl (C 0, 100, .inl u_text)), (q_path, .inl (C 0, 6, .inl u_path)), (q_ring, .inl (C 0, 6, .inl u_ring))]) (st2 := [.int z24.1]) cx (CX9_consent l D C q_ q_owes q_denies q_debt q_cut q_sight q_event q_book q_text q_path q_ring q_balance q_left q_sum q_parts q_group q_payment q_then q_image q_tapeSort q_tapeSize q_items u_people u_debts u_cuts u_seen u_events u_inBook u_texted u_rule u_rings u_size u_least u_worth u_groups u_paid u_imaged u_denies y22_0 ((u_text (x1 + 2).toNatClampNeg) - 48) 0 z24 hz24) lk_X9_123 my_X9_consent ml_X9_consent ⟨by decide, by decide⟩ hw [0, 2] [1, 3, 4, 5, 6, 7] [6, 0, 7, 1, 2, 3, 4, 5] rfl rfl (by decide) rfl rfl rfl rfl (Nat.le_of_ble_eq_true rfl) dX9_does_168 rfl (fun H locs hw => ?_) hl.1
          refine lv_if_lt (tgt := 178) hx hb dX9_does_171 (by decide) (fun c25 => ?_) (fun c25 => ?_)
          · replace hF := oi_t c25 hF
            refine lv_iconst (v := 0) hx hb dX9_does_178 (by decide) ?_
            obtain rfl := Option.some.inj hF
            exact rt_z hret hw rfl rfl dX9_does_179
          · replace hF := oi_f c25 hF
            refine lv_iconst (v := 1) hx hb dX9_does_174 (by decide) ?_
            refine lv_goto (tgt := 179) hx hb dX9_does_175 (by decide) ?_
            obtain rfl := Option.some.inj hF
            exact rt_z hret hw rfl rfl dX9_does_179
        replace hF := oi_f c23 hF
        by_cases c26 : (u_text (x1).toNatClampNeg) = 111
        · replace hF := oi_t c26 hF
          refine lv_lookup (tgt := 145) (off := 54) hx hb dX9_does_91 (by decide) (by rw [c26]; decide +kernel) (by decide) ?_
          refine lv_aload_n hx hb dX9_does_145 rfl (lv_at hl 0 rfl) ?_
          refine lv_iload_n hx hb dX9_does_146 rfl (lv_at hl 2 rfl) ?_
          refine lv_iload hx hb dX9_does_147 (lv_at hl 3 rfl) ?_
          refine lv_iload hx hb dX9_does_149 (lv_at hl 4 rfl) ?_
          obtain ⟨z27, hz27, hF⟩ := ob hF
          refine cV (wr := [(q_denies, .inl (C 0, 36, .inl u_denies)), (q_cut, .inl (C 0, 120, .inl u_cut)), (q_text, .inl (C 0, 100, .inl u_text)), (q_path, .inl (C 0, 6, .inl u_path)), (q_ring, .inl (C 0, 6, .inl u_ring))]) (w2 := [(q_, .inr (9, [.int u_people, .ref q_owes, .ref q_denies, .int z27.2.1, .ref q_debt, .int u_cuts, .ref q_cut, .int u_seen, .ref q_sight, .int u_events, .ref q_event, .int u_inBook, .ref q_book, .int u_texted, .ref q_text, .ref q_path, .int u_rule, .int u_rings, .int u_size, .int u_least, .long u_worth, .ref q_ring, .ref q_balance, .ref q_left, .ref q_sum, .ref q_parts, .int u_groups, .ref q_group, .int u_paid, .ref q_payment, .ref q_then, .int u_imaged, .ref q_image, .ref q_tapeSort, .ref q_tapeSize, .ref q_items])), (q_owes, .inl (C 0, 36, .inl z27.2.2.1)), (q_denies, .inl (C 0, 36, .inl u_denies)), (q_debt, .inl (C 0, 30, .inl z27.2.2.2)), (q_cut, .inl (C 0, 120, .inl u_cut)), (q_text, .inl (C 0, 100, .inl u_text)), (q_path, .inl (C 0, 6, .inl u_path)), (q_ring, .inl (C 0, 6, .inl u_ring))]) (st2 := [.int z27.1]) cx (CX9_owe l D C q_ q_owes q_denies q_debt q_cut q_sight q_event q_book q_text q_path q_ring q_balance q_left q_sum q_parts q_group q_payment q_then q_image q_tapeSort q_tapeSize q_items u_people u_debts u_cuts u_seen u_events u_inBook u_texted u_rule u_rings u_size u_least u_worth u_groups u_paid u_imaged u_owes u_debt y22_0 ((u_text (x1 + 2).toNatClampNeg) - 48) x5_21 z27 hz27) lk_X9_119 my_X9_owe ml_X9_owe ⟨by decide, by decide⟩ hw [0, 1, 3] [2, 4, 5, 6, 7] [5, 6, 0, 7, 1, 2, 3, 4] rfl rfl (by decide) rfl rfl rfl rfl (Nat.le_of_ble_eq_true rfl) dX9_does_151 rfl (fun H locs hw => ?_) hl.1
          refine lv_if_lt (tgt := 161) hx hb dX9_does_154 (by decide) (fun c28 => ?_) (fun c28 => ?_)
          · replace hF := oi_t c28 hF
            refine lv_iconst (v := 0) hx hb dX9_does_161 (by decide) ?_
            obtain rfl := Option.some.inj hF
            exact rt_z hret hw rfl rfl dX9_does_162
          · replace hF := oi_f c28 hF
            refine lv_iconst (v := 1) hx hb dX9_does_157 (by decide) ?_
            refine lv_goto (tgt := 162) hx hb dX9_does_158 (by decide) ?_
            obtain rfl := Option.some.inj hF
            exact rt_z hret hw rfl rfl dX9_does_162
        replace hF := oi_f c26 hF
        by_cases c29 : (u_text (x1).toNatClampNeg) = 112
        · replace hF := oi_t c29 hF
          refine lv_lookup (tgt := 132) (off := 41) hx hb dX9_does_91 (by decide) (by rw [c29]; decide +kernel) (by decide) ?_
          refine lv_aload_n hx hb dX9_does_132 rfl (lv_at hl 0 rfl) ?_
          obtain ⟨z30, hz30, hF⟩ := ob hF
          refine cV (wr := [(q_debt, .inl (C 0, 30, .inl u_debt)), (q_cut, .inl (C 0, 120, .inl u_cut)), (q_text, .inl (C 0, 100, .inl u_text)), (q_path, .inl (C 0, 6, .inl u_path)), (q_ring, .inl (C 0, 6, .inl u_ring))]) (w2 := [(q_, .inr (9, [.int z30.2.1, .ref q_owes, .ref q_denies, .int u_debts, .ref q_debt, .int u_cuts, .ref q_cut, .int u_seen, .ref q_sight, .int u_events, .ref q_event, .int u_inBook, .ref q_book, .int u_texted, .ref q_text, .ref q_path, .int u_rule, .int u_rings, .int u_size, .int u_least, .long u_worth, .ref q_ring, .ref q_balance, .ref q_left, .ref q_sum, .ref q_parts, .int u_groups, .ref q_group, .int u_paid, .ref q_payment, .ref q_then, .int u_imaged, .ref q_image, .ref q_tapeSort, .ref q_tapeSize, .ref q_items])), (q_owes, .inl (C 0, 36, .inl z30.2.2.1)), (q_denies, .inl (C 0, 36, .inl z30.2.2.2)), (q_debt, .inl (C 0, 30, .inl u_debt)), (q_cut, .inl (C 0, 120, .inl u_cut)), (q_text, .inl (C 0, 100, .inl u_text)), (q_path, .inl (C 0, 6, .inl u_path)), (q_ring, .inl (C 0, 6, .inl u_ring))]) (st2 := [.int z30.1]) cx (CX9_person l D C q_ q_owes q_denies q_debt q_cut q_sight q_event q_book q_text q_path q_ring q_balance q_left q_sum q_parts q_group q_payment q_then q_image q_tapeSort q_tapeSize q_items u_people u_debts u_cuts u_seen u_events u_inBook u_texted u_rule u_rings u_size u_least u_worth u_groups u_paid u_imaged u_owes u_denies z30 hz30) lk_X9_115 my_X9_person ml_X9_person ⟨by decide, by decide⟩ hw [0, 1, 2] [3, 4, 5, 6, 7] [5, 6, 7, 0, 1, 2, 3, 4] rfl rfl (by decide) rfl rfl rfl rfl (Nat.le_of_ble_eq_true rfl) dX9_does_133 rfl (fun H locs hw => ?_) hl.1
          refine lv_if_lt (tgt := 143) hx hb dX9_does_136 (by decide) (fun c31 => ?_) (fun c31 => ?_)
          · replace hF := oi_t c31 hF
            refine lv_iconst (v := 0) hx hb dX9_does_143 (by decide) ?_
            obtain rfl := Option.some.inj hF
            exact rt_z hret hw rfl rfl dX9_does_144
          · replace hF := oi_f c31 hF
            refine lv_iconst (v := 1) hx hb dX9_does_139 (by decide) ?_
            refine lv_goto (tgt := 144) hx hb dX9_does_140 (by decide) ?_
            obtain rfl := Option.some.inj hF
            exact rt_z hret hw rfl rfl dX9_does_144
        replace hF := oi_f c29 hF
        by_cases c32 : (u_text (x1).toNatClampNeg) = 121
        · replace hF := oi_t c32 hF
          refine lv_lookup (tgt := 180) (off := 89) hx hb dX9_does_91 (by decide) (by rw [c32]; decide +kernel) (by decide) ?_
          refine lv_aload_n hx hb dX9_does_180 rfl (lv_at hl 0 rfl) ?_
          refine lv_iload_n hx hb dX9_does_181 rfl (lv_at hl 2 rfl) ?_
          refine lv_iload hx hb dX9_does_182 (lv_at hl 3 rfl) ?_
          refine lv_iconst (v := 1) hx hb dX9_does_184 (by decide) ?_
          obtain ⟨z33, hz33, hF⟩ := ob hF
          refine cV (wr := [(q_owes, .inl (C 0, 36, .inl u_owes)), (q_debt, .inl (C 0, 30, .inl u_debt)), (q_cut, .inl (C 0, 120, .inl u_cut)), (q_text, .inl (C 0, 100, .inl u_text)), (q_path, .inl (C 0, 6, .inl u_path)), (q_ring, .inl (C 0, 6, .inl u_ring))]) (w2 := [(q_, .inr (9, [.int u_people, .ref q_owes, .ref q_denies, .int u_debts, .ref q_debt, .int u_cuts, .ref q_cut, .int u_seen, .ref q_sight, .int u_events, .ref q_event, .int u_inBook, .ref q_book, .int u_texted, .ref q_text, .ref q_path, .int u_rule, .int u_rings, .int u_size, .int u_least, .long u_worth, .ref q_ring, .ref q_balance, .ref q_left, .ref q_sum, .ref q_parts, .int u_groups, .ref q_group, .int u_paid, .ref q_payment, .ref q_then, .int u_imaged, .ref q_image, .ref q_tapeSort, .ref q_tapeSize, .ref q_items])), (q_owes, .inl (C 0, 36, .inl u_owes)), (q_denies, .inl (C 0, 36, .inl z33.2)), (q_debt, .inl (C 0, 30, .inl u_debt)), (q_cut, .inl (C 0, 120, .inl u_cut)), (q_text, .inl (C 0, 100, .inl u_text)), (q_path, .inl (C 0, 6, .inl u_path)), (q_ring, .inl (C 0, 6, .inl u_ring))]) (st2 := [.int z33.1]) cx (CX9_consent l D C q_ q_owes q_denies q_debt q_cut q_sight q_event q_book q_text q_path q_ring q_balance q_left q_sum q_parts q_group q_payment q_then q_image q_tapeSort q_tapeSize q_items u_people u_debts u_cuts u_seen u_events u_inBook u_texted u_rule u_rings u_size u_least u_worth u_groups u_paid u_imaged u_denies y22_0 ((u_text (x1 + 2).toNatClampNeg) - 48) 1 z33 hz33) lk_X9_123 my_X9_consent ml_X9_consent ⟨by decide, by decide⟩ hw [0, 2] [1, 3, 4, 5, 6, 7] [6, 0, 7, 1, 2, 3, 4, 5] rfl rfl (by decide) rfl rfl rfl rfl (Nat.le_of_ble_eq_true rfl) dX9_does_185 rfl (fun H locs hw => ?_) hl.1
          refine lv_if_lt (tgt := 195) hx hb dX9_does_188 (by decide) (fun c34 => ?_) (fun c34 => ?_)
          · replace hF := oi_t c34 hF
            refine lv_iconst (v := 0) hx hb dX9_does_195 (by decide) ?_
            obtain rfl := Option.some.inj hF
            exact rt_z hret hw rfl rfl dX9_does_196
          · replace hF := oi_f c34 hF
            refine lv_iconst (v := 1) hx hb dX9_does_191 (by decide) ?_
            refine lv_goto (tgt := 196) hx hb dX9_does_192 (by decide) ?_
            obtain rfl := Option.some.inj hF
            exact rt_z hret hw rfl rfl dX9_does_196
        replace hF := oi_f c32 hF
        have t23 := ti_ne (n := 110) (by decide) c23
        have t26 := ti_ne (n := 111) (by decide) c26
        have t29 := ti_ne (n := 112) (by decide) c29
        have t32 := ti_ne (n := 121) (by decide) c32
        refine lv_lookup (tgt := 197) (off := 106) hx hb dX9_does_91 (by decide) (by simp only [Op.lookupswitch.offset]; repeat (first | rfl | rw [if_neg (fun h => by omega)])) (by decide) ?_
        refine lv_aload_n hx hb dX9_does_197 rfl (lv_at hl 0 rfl) ?_
        refine lv_iload_n hx hb dX9_does_198 rfl (lv_at hl 2 rfl) ?_
        refine lv_iconst (v := 1) hx hb dX9_does_199 (by decide) ?_
        obtain ⟨z35, hz35, hF⟩ := ob hF
        refine cV (wr := [(q_text, .inl (C 0, 100, .inl u_text))]) (w2 := [(q_, .inr (9, [.int u_people, .ref q_owes, .ref q_denies, .int z35.2.1, .ref q_debt, .int z35.2.2.1, .ref q_cut, .int u_seen, .ref q_sight, .int u_events, .ref q_event, .int u_inBook, .ref q_book, .int u_texted, .ref q_text, .ref q_path, .int z35.2.2.2.1, .int z35.2.2.2.2.1, .int z35.2.2.2.2.2.1, .int z35.2.2.2.2.2.2.1, .long z35.2.2.2.2.2.2.2.1, .ref q_ring, .ref q_balance, .ref q_left, .ref q_sum, .ref q_parts, .int u_groups, .ref q_group, .int u_paid, .ref q_payment, .ref q_then, .int u_imaged, .ref q_image, .ref q_tapeSort, .ref q_tapeSize, .ref q_items])), (q_owes, .inl (C 0, 36, .inl z35.2.2.2.2.2.2.2.2.1)), (q_denies, .inl (C 0, 36, .inl u_denies)), (q_debt, .inl (C 0, 30, .inl z35.2.2.2.2.2.2.2.2.2.1)), (q_cut, .inl (C 0, 120, .inl z35.2.2.2.2.2.2.2.2.2.2.1)), (q_text, .inl (C 0, 100, .inl u_text)), (q_path, .inl (C 0, 6, .inl z35.2.2.2.2.2.2.2.2.2.2.2.1)), (q_ring, .inl (C 0, 6, .inl z35.2.2.2.2.2.2.2.2.2.2.2.2))]) (st2 := [.int z35.1]) cx (CX9_cut l D C q_ q_owes q_denies q_debt q_cut q_sight q_event q_book q_text q_path q_ring q_balance q_left q_sum q_parts q_group q_payment q_then q_image q_tapeSort q_tapeSize q_items u_people u_debts u_cuts u_seen u_events u_inBook u_texted u_rule u_rings u_size u_least u_worth u_groups u_paid u_imaged u_owes u_denies u_debt u_cut u_path u_ring y22_0 1 z35 hz35) lk_X9_127 my_X9_cut ml_X9_cut ⟨by decide, by decide⟩ hw [0, 1, 2, 3, 4, 6, 7] [5] [1, 2, 3, 4, 5, 0, 6, 7] rfl rfl (by decide) rfl rfl rfl rfl (Nat.le_of_ble_eq_true rfl) dX9_does_200 rfl (fun H locs hw => ?_) hl.1
        refine lv_if_le (tgt := 210) hx hb dX9_does_203 (by decide) (fun c36 => ?_) (fun c36 => ?_)
        · replace hF := oi_t c36 hF
          refine lv_iconst (v := 0) hx hb dX9_does_210 (by decide) ?_
          obtain rfl := Option.some.inj hF
          exact rt_z hret hw rfl rfl dX9_does_211
        · replace hF := oi_f c36 hF
          refine lv_iconst (v := 1) hx hb dX9_does_206 (by decide) ?_
          refine lv_goto (tgt := 211) hx hb dX9_does_207 (by decide) ?_
          obtain rfl := Option.some.inj hF
          exact rt_z hret hw rfl rfl dX9_does_211
  refine lv_icmp_le (tgt := 21) hx hb dX9_does_4 (by decide) (fun c37 => ?_) (fun c37 => ?_)
  · replace hF := oi_t c37 hF
    refine lv_iconst (v := 0) hx hb dX9_does_21 (by decide) ?_
    exact J22 0 H locs ls hF hw (lv_sub hl [0, 1, 2] rfl)
  · replace hF := oi_f c37 hF
    refine lv_aload_n hx hb dX9_does_7 rfl (lv_at hl 0 rfl) ?_
    refine r_get (ci := 9) (v := .ref q_text) cx hw iX9 0 14 rfl rfl (by decide) wf_X9_33 rfl dX9_does_8 ?_
    refine lv_iload_n hx hb dX9_does_11 rfl (lv_at hl 1 rfl) ?_
    refine lv_iconst (v := 1) hx hb dX9_does_12 (by decide) ?_
    refine lv_iadd hx hb dX9_does_13 ?_
    obtain ⟨g38, hF⟩ := gA_s hF
    refine r_iald cx hw 5 rfl g38 dX9_does_14 ?_
    refine lv_bipush (v := 48) hx hb dX9_does_15 (by decide) ?_
    refine lv_isub hx hb dX9_does_17 ?_
    refine lv_goto (tgt := 22) hx hb dX9_does_18 (by decide) ?_
    exact J22 ((u_text (x1 + 1).toNatClampNeg) - 48) H locs ls hF hw (lv_sub hl [0, 1, 2] rfl)
theorem lk_X9_130 : Cond.methodLink RX9 130 yX9_fault ∈ gdt := gdt_of 1000 (by decide +kernel) (by decide +kernel)
theorem lk_X9_133 : Cond.methodLink RX9 133 yX9_does ∈ gdt := gdt_of 1015 (by decide +kernel) (by decide +kernel)
theorem my_X9_fault : (yX9_fault.cls ≠ "java/lang/invoke/MethodHandle" ∧ yX9_fault.cls ≠ "java/lang/invoke/VarHandle") ∧ Cond.instanceMethod yX9_fault ∈ gdt ∧ Cond.selects yX9_fault.cls yX9_fault yX9_fault ∈ gdt ∧ Cond.initialized yX9_fault.cls ∈ gdt ∧ Cond.code yX9_fault cX9_fault 3 (some .int) ∈ gdt := ⟨⟨by decide +kernel, by decide +kernel⟩, gdt_of 1002 (by decide +kernel) (by decide +kernel), gdt_of 36 (by decide +kernel) (by decide +kernel), gdt_of 77 (by decide +kernel) (by decide +kernel), gdt_of 1003 (by decide +kernel) (by decide +kernel)⟩
theorem ml_X9_fault : (parseMethodDescriptor yX9_fault.desc).map (fun d => d.parameters.length) = some 0 := by decide +kernel
theorem my_X9_does : (yX9_does.cls ≠ "java/lang/invoke/MethodHandle" ∧ yX9_does.cls ≠ "java/lang/invoke/VarHandle") ∧ Cond.instanceMethod yX9_does ∈ gdt ∧ Cond.selects yX9_does.cls yX9_does yX9_does ∈ gdt ∧ Cond.initialized yX9_does.cls ∈ gdt ∧ Cond.code yX9_does cX9_does 7 (some .boolean) ∈ gdt := ⟨⟨by decide +kernel, by decide +kernel⟩, gdt_of 1017 (by decide +kernel) (by decide +kernel), gdt_of 39 (by decide +kernel) (by decide +kernel), gdt_of 77 (by decide +kernel) (by decide +kernel), gdt_of 1018 (by decide +kernel) (by decide +kernel)⟩
theorem ml_X9_does : (parseMethodDescriptor yX9_does.desc).map (fun d => d.parameters.length) = some 2 := by decide +kernel
theorem dX9_read_0 : decode cX9_read 0 = .ok (.aload_n 0, 1) := by decide +kernel
theorem dX9_read_1 : decode cX9_read 1 = .ok (.invokevirtual 130, 3) := by decide +kernel
theorem dX9_read_4 : decode cX9_read 4 = .ok (.istore_n 1, 1) := by decide +kernel
theorem dX9_read_5 : decode cX9_read 5 = .ok (.iconst 0, 1) := by decide +kernel
theorem dX9_read_6 : decode cX9_read 6 = .ok (.istore_n 2, 1) := by decide +kernel
theorem dX9_read_7 : decode cX9_read 7 = .ok (.iconst 0, 1) := by decide +kernel
theorem dX9_read_8 : decode cX9_read 8 = .ok (.istore_n 3, 1) := by decide +kernel
theorem dX9_read_9 : decode cX9_read 9 = .ok (.iload_n 1, 1) := by decide +kernel
theorem dX9_read_10 : decode cX9_read 10 = .ok (.ifCond .ge 39, 3) := by decide +kernel
theorem dX9_read_13 : decode cX9_read 13 = .ok (.iload_n 3, 1) := by decide +kernel
theorem dX9_read_14 : decode cX9_read 14 = .ok (.aload_n 0, 1) := by decide +kernel
theorem dX9_read_15 : decode cX9_read 15 = .ok (.getfield 103, 3) := by decide +kernel
theorem dX9_read_18 : decode cX9_read 18 = .ok (.if_icmp .ge 31, 3) := by decide +kernel
theorem dX9_read_21 : decode cX9_read 21 = .ok (.aload_n 0, 1) := by decide +kernel
theorem dX9_read_22 : decode cX9_read 22 = .ok (.iload_n 3, 1) := by decide +kernel
theorem dX9_read_23 : decode cX9_read 23 = .ok (.invokevirtual 112, 3) := by decide +kernel
theorem dX9_read_26 : decode cX9_read 26 = .ok (.istore 4, 2) := by decide +kernel
theorem dX9_read_28 : decode cX9_read 28 = .ok (.aload_n 0, 1) := by decide +kernel
theorem dX9_read_29 : decode cX9_read 29 = .ok (.iload_n 3, 1) := by decide +kernel
theorem dX9_read_30 : decode cX9_read 30 = .ok (.iload 4, 2) := by decide +kernel
theorem dX9_read_32 : decode cX9_read 32 = .ok (.invokevirtual 133, 3) := by decide +kernel
theorem dX9_read_35 : decode cX9_read 35 = .ok (.ifCond .eq 6, 3) := by decide +kernel
theorem dX9_read_38 : decode cX9_read 38 = .ok (.iinc 2 1, 3) := by decide +kernel
theorem dX9_read_41 : decode cX9_read 41 = .ok (.iload 4, 2) := by decide +kernel
theorem dX9_read_43 : decode cX9_read 43 = .ok (.iconst 1, 1) := by decide +kernel
theorem dX9_read_44 : decode cX9_read 44 = .ok (.iadd, 1) := by decide +kernel
theorem dX9_read_45 : decode cX9_read 45 = .ok (.istore_n 3, 1) := by decide +kernel
theorem dX9_read_46 : decode cX9_read 46 = .ok (.goto (-37), 3) := by decide +kernel
theorem dX9_read_49 : decode cX9_read 49 = .ok (.aload_n 0, 1) := by decide +kernel
theorem dX9_read_50 : decode cX9_read 50 = .ok (.iconst 0, 1) := by decide +kernel
theorem dX9_read_51 : decode cX9_read 51 = .ok (.putfield 103, 3) := by decide +kernel
theorem dX9_read_54 : decode cX9_read 54 = .ok (.iload_n 1, 1) := by decide +kernel
theorem dX9_read_55 : decode cX9_read 55 = .ok (.ifCond .lt 10, 3) := by decide +kernel
theorem dX9_read_58 : decode cX9_read 58 = .ok (.bipush (-10), 2) := by decide +kernel
theorem dX9_read_60 : decode cX9_read 60 = .ok (.iload_n 1, 1) := by decide +kernel
theorem dX9_read_61 : decode cX9_read 61 = .ok (.isub, 1) := by decide +kernel
theorem dX9_read_62 : decode cX9_read 62 = .ok (.goto 4, 3) := by decide +kernel
theorem dX9_read_65 : decode cX9_read 65 = .ok (.iload_n 2, 1) := by decide +kernel
theorem dX9_read_66 : decode cX9_read 66 = .ok (.ireturn, 1) := by decide +kernel
def fX9_read_L9 (k49 : Int32 → Int32 → Int32 → Int32 → Int32 → Int32 → Int32 → Int32 → Int64 → (Nat → Int32) → (Nat → Int32) → (Nat → Int32) → (Nat → Int32) → (Nat → Int32) → (Nat → Int32) → Option (Int32 × Int32 × Int32 × Int32 × Int32 × Int32 × Int32 × Int32 × Int32 × Int64 × (Nat → Int32) × (Nat → Int32) × (Nat → Int32) × (Nat → Int32) × (Nat → Int32) × (Nat → Int32))) (u_seen : Int32) (u_events : Int32) (u_inBook : Int32) (u_texted : Int32) (u_groups : Int32) (u_paid : Int32) (u_imaged : Int32) (u_text : (Nat → Int32)) (x1 : Int32) : Nat → Int32 → Int32 → Int32 → Int32 → Int32 → Int32 → Int32 → Int32 → Int32 → Int64 → (Nat → Int32) → (Nat → Int32) → (Nat → Int32) → (Nat → Int32) → (Nat → Int32) → (Nat → Int32) → Option (Int32 × Int32 × Int32 × Int32 × Int32 × Int32 × Int32 × Int32 × Int32 × Int64 × (Nat → Int32) × (Nat → Int32) × (Nat → Int32) × (Nat → Int32) × (Nat → Int32) × (Nat → Int32))
  | 0, _, _, _, _, _, _, _, _, _, _, _, _, _, _, _, _ => none
  | n + 1, x2, x3, u_people, u_debts, u_cuts, u_rule, u_rings, u_size, u_least, u_worth, u_owes, u_denies, u_debt, u_cut, u_path, u_ring => if 0 ≤ x1 then (k49 x2 u_people u_debts u_cuts u_rule u_rings u_size u_least u_worth u_owes u_denies u_debt u_cut u_path u_ring) else (if u_texted ≤ x3 then (k49 x2 u_people u_debts u_cuts u_rule u_rings u_size u_least u_worth u_owes u_denies u_debt u_cut u_path u_ring) else ((fX9_behind u_texted u_text x3).bind (fun z4 => (fX9_does u_people u_debts u_cuts u_seen u_events u_inBook u_texted u_rule u_rings u_size u_least u_worth u_groups u_paid u_imaged u_owes u_denies u_debt u_cut u_text u_path u_ring x3 z4).bind (fun z5 => if z5.1 = 0 then (fX9_read_L9 k49 u_seen u_events u_inBook u_texted u_groups u_paid u_imaged u_text x1 n x2 (z4 + 1) z5.2.1 z5.2.2.1 z5.2.2.2.1 z5.2.2.2.2.1 z5.2.2.2.2.2.1 z5.2.2.2.2.2.2.1 z5.2.2.2.2.2.2.2.1 z5.2.2.2.2.2.2.2.2.1 z5.2.2.2.2.2.2.2.2.2.1 z5.2.2.2.2.2.2.2.2.2.2.1 z5.2.2.2.2.2.2.2.2.2.2.2.1 z5.2.2.2.2.2.2.2.2.2.2.2.2.1 z5.2.2.2.2.2.2.2.2.2.2.2.2.2.1 z5.2.2.2.2.2.2.2.2.2.2.2.2.2.2) else (fX9_read_L9 k49 u_seen u_events u_inBook u_texted u_groups u_paid u_imaged u_text x1 n (x2 + 1) (z4 + 1) z5.2.1 z5.2.2.1 z5.2.2.2.1 z5.2.2.2.2.1 z5.2.2.2.2.2.1 z5.2.2.2.2.2.2.1 z5.2.2.2.2.2.2.2.1 z5.2.2.2.2.2.2.2.2.1 z5.2.2.2.2.2.2.2.2.2.1 z5.2.2.2.2.2.2.2.2.2.2.1 z5.2.2.2.2.2.2.2.2.2.2.2.1 z5.2.2.2.2.2.2.2.2.2.2.2.2.1 z5.2.2.2.2.2.2.2.2.2.2.2.2.2.1 z5.2.2.2.2.2.2.2.2.2.2.2.2.2.2)))))
def fX9_read (u_people : Int32) (u_debts : Int32) (u_cuts : Int32) (u_seen : Int32) (u_events : Int32) (u_inBook : Int32) (u_texted : Int32) (u_rule : Int32) (u_rings : Int32) (u_size : Int32) (u_least : Int32) (u_worth : Int64) (u_groups : Int32) (u_paid : Int32) (u_imaged : Int32) (u_owes : (Nat → Int32)) (u_denies : (Nat → Int32)) (u_debt : (Nat → Int32)) (u_cut : (Nat → Int32)) (u_text : (Nat → Int32)) (u_path : (Nat → Int32)) (u_ring : (Nat → Int32)) : Option (Int32 × Int32 × Int32 × Int32 × Int32 × Int32 × Int32 × Int32 × Int32 × Int64 × (Nat → Int32) × (Nat → Int32) × (Nat → Int32) × (Nat → Int32) × (Nat → Int32) × (Nat → Int32)) := (fX9_fault u_texted u_text).bind (fun z1 => fX9_read_L9 (fun (x2_7 : Int32) (u_people_7 : Int32) (u_debts_7 : Int32) (u_cuts_7 : Int32) (u_rule_7 : Int32) (u_rings_7 : Int32) (u_size_7 : Int32) (u_least_7 : Int32) (u_worth_7 : Int64) (u_owes_7 : (Nat → Int32)) (u_denies_7 : (Nat → Int32)) (u_debt_7 : (Nat → Int32)) (u_cut_7 : (Nat → Int32)) (u_path_7 : (Nat → Int32)) (u_ring_7 : (Nat → Int32)) => if z1 < 0 then (some (x2_7, u_people_7, u_debts_7, u_cuts_7, 0, u_rule_7, u_rings_7, u_size_7, u_least_7, u_worth_7, u_owes_7, u_denies_7, u_debt_7, u_cut_7, u_path_7, u_ring_7)) else (some ((-10) - z1, u_people_7, u_debts_7, u_cuts_7, 0, u_rule_7, u_rings_7, u_size_7, u_least_7, u_worth_7, u_owes_7, u_denies_7, u_debt_7, u_cut_7, u_path_7, u_ring_7))) u_seen u_events u_inBook u_texted u_groups u_paid u_imaged u_text z1 400 0 0 u_people u_debts u_cuts u_rule u_rings u_size u_least u_worth u_owes u_denies u_debt u_cut u_path u_ring)
set_option maxRecDepth 20000 in
theorem LX9_read_9 {p : Program} {l : Launch} {e : Env} {R : Room} {s : State} {m : MethodId} {args : Array Value} {below : List Frame} {meth : Method} {c : Code} {Q : State → Prop} {D : va_G} {C : Nat → ClassId} {A : Nat → Prop} (cx : CX p m c s args RX9 cX9_read 5 D C A R 16) {q_ q_owes q_denies q_debt q_cut q_sight q_event q_book q_text q_path q_ring q_balance q_left q_sum q_parts q_group q_payment q_then q_image q_tapeSort q_tapeSize q_items : Nat} {u_seen : Int32} {u_events : Int32} {u_inBook : Int32} {u_texted : Int32} {u_groups : Int32} {u_paid : Int32} {u_imaged : Int32} {u_text : (Nat → Int32)} {x1 : Int32} {z : (Int32 × Int32 × Int32 × Int32 × Int32 × Int32 × Int32 × Int32 × Int32 × Int64 × (Nat → Int32) × (Nat → Int32) × (Nat → Int32) × (Nat → Int32) × (Nat → Int32) × (Nat → Int32))} (hret : RT p l e R s m args below meth c Q D A cX9_read (some .int) [(q_, .inr (9, [.int z.2.1, .ref q_owes, .ref q_denies, .int z.2.2.1, .ref q_debt, .int z.2.2.2.1, .ref q_cut, .int u_seen, .ref q_sight, .int u_events, .ref q_event, .int u_inBook, .ref q_book, .int z.2.2.2.2.1, .ref q_text, .ref q_path, .int z.2.2.2.2.2.1, .int z.2.2.2.2.2.2.1, .int z.2.2.2.2.2.2.2.1, .int z.2.2.2.2.2.2.2.2.1, .long z.2.2.2.2.2.2.2.2.2.1, .ref q_ring, .ref q_balance, .ref q_left, .ref q_sum, .ref q_parts, .int u_groups, .ref q_group, .int u_paid, .ref q_payment, .ref q_then, .int u_imaged, .ref q_image, .ref q_tapeSort, .ref q_tapeSize, .ref q_items])), (q_owes, .inl (C 0, 36, .inl z.2.2.2.2.2.2.2.2.2.2.1)), (q_denies, .inl (C 0, 36, .inl z.2.2.2.2.2.2.2.2.2.2.2.1)), (q_debt, .inl (C 0, 30, .inl z.2.2.2.2.2.2.2.2.2.2.2.2.1)), (q_cut, .inl (C 0, 120, .inl z.2.2.2.2.2.2.2.2.2.2.2.2.2.1)), (q_text, .inl (C 0, 100, .inl u_text)), (q_path, .inl (C 0, 6, .inl z.2.2.2.2.2.2.2.2.2.2.2.2.2.2.1)), (q_ring, .inl (C 0, 6, .inl z.2.2.2.2.2.2.2.2.2.2.2.2.2.2.2))] (some (.int z.1))) {k49 : Int32 → Int32 → Int32 → Int32 → Int32 → Int32 → Int32 → Int32 → Int64 → (Nat → Int32) → (Nat → Int32) → (Nat → Int32) → (Nat → Int32) → (Nat → Int32) → (Nat → Int32) → Option (Int32 × Int32 × Int32 × Int32 × Int32 × Int32 × Int32 × Int32 × Int32 × Int64 × (Nat → Int32) × (Nat → Int32) × (Nat → Int32) × (Nat → Int32) × (Nat → Int32) × (Nat → Int32))} (hk49 : ∀ (x2 : Int32) (u_people : Int32) (u_debts : Int32) (u_cuts : Int32) (u_rule : Int32) (u_rings : Int32) (u_size : Int32) (u_least : Int32) (u_worth : Int64) (u_owes : (Nat → Int32)) (u_denies : (Nat → Int32)) (u_debt : (Nat → Int32)) (u_cut : (Nat → Int32)) (u_path : (Nat → Int32)) (u_ring : (Nat → Int32)) (H : Heap) (locs : List Loc) (ls : Array Slot), k49 x2 u_people u_debts u_cuts u_rule u_rings u_size u_least u_worth u_owes u_denies u_debt u_cut u_path u_ring = some z → HW D A s.heap H locs [(q_, .inr (9, [.int u_people, .ref q_owes, .ref q_denies, .int u_debts, .ref q_debt, .int u_cuts, .ref q_cut, .int u_seen, .ref q_sight, .int u_events, .ref q_event, .int u_inBook, .ref q_book, .int u_texted, .ref q_text, .ref q_path, .int u_rule, .int u_rings, .int u_size, .int u_least, .long u_worth, .ref q_ring, .ref q_balance, .ref q_left, .ref q_sum, .ref q_parts, .int u_groups, .ref q_group, .int u_paid, .ref q_payment, .ref q_then, .int u_imaged, .ref q_image, .ref q_tapeSort, .ref q_tapeSize, .ref q_items])), (q_owes, .inl (C 0, 36, .inl u_owes)), (q_denies, .inl (C 0, 36, .inl u_denies)), (q_debt, .inl (C 0, 30, .inl u_debt)), (q_cut, .inl (C 0, 120, .inl u_cut)), (q_text, .inl (C 0, 100, .inl u_text)), (q_path, .inl (C 0, 6, .inl u_path)), (q_ring, .inl (C 0, 6, .inl u_ring))] → lv_has ls 5 [(0, .ref q_), (1, .int x1), (2, .int x2)] → W p l e R s m args below meth c H locs 0 0 Q (F0 m 49 ls [])) :
    ∀ (n : Nat) (x2 : Int32) (x3 : Int32) (u_people : Int32) (u_debts : Int32) (u_cuts : Int32) (u_rule : Int32) (u_rings : Int32) (u_size : Int32) (u_least : Int32) (u_worth : Int64) (u_owes : (Nat → Int32)) (u_denies : (Nat → Int32)) (u_debt : (Nat → Int32)) (u_cut : (Nat → Int32)) (u_path : (Nat → Int32)) (u_ring : (Nat → Int32)) (H : Heap) (locs : List Loc) (ls : Array Slot), fX9_read_L9 k49 u_seen u_events u_inBook u_texted u_groups u_paid u_imaged u_text x1 n x2 x3 u_people u_debts u_cuts u_rule u_rings u_size u_least u_worth u_owes u_denies u_debt u_cut u_path u_ring = some z → HW D A s.heap H locs [(q_, .inr (9, [.int u_people, .ref q_owes, .ref q_denies, .int u_debts, .ref q_debt, .int u_cuts, .ref q_cut, .int u_seen, .ref q_sight, .int u_events, .ref q_event, .int u_inBook, .ref q_book, .int u_texted, .ref q_text, .ref q_path, .int u_rule, .int u_rings, .int u_size, .int u_least, .long u_worth, .ref q_ring, .ref q_balance, .ref q_left, .ref q_sum, .ref q_parts, .int u_groups, .ref q_group, .int u_paid, .ref q_payment, .ref q_then, .int u_imaged, .ref q_image, .ref q_tapeSort, .ref q_tapeSize, .ref q_items])), (q_owes, .inl (C 0, 36, .inl u_owes)), (q_denies, .inl (C 0, 36, .inl u_denies)), (q_debt, .inl (C 0, 30, .inl u_debt)), (q_cut, .inl (C 0, 120, .inl u_cut)), (q_text, .inl (C 0, 100, .inl u_text)), (q_path, .inl (C 0, 6, .inl u_path)), (q_ring, .inl (C 0, 6, .inl u_ring))] → lv_has ls 5 [(0, .ref q_), (1, .int x1), (2, .int x2), (3, .int x3)] → W p l e R s m args below meth c H locs 0 0 Q (F0 m 9 ls []) := by
  have hx := cx.1
  have hb := cx.2.1
  intro n
  induction n with
  | zero => intro x2 x3 u_people u_debts u_cuts u_rule u_rings u_size u_least u_worth u_owes u_denies u_debt u_cut u_path u_ring H locs ls hF; cases hF
  | succ n ih =>
    intro x2 x3 u_people u_debts u_cuts u_rule u_rings u_size u_least u_worth u_owes u_denies u_debt u_cut u_path u_ring H locs ls hF hw hl
    rw [fX9_read_L9.eq_2] at hF
    refine lv_iload_n hx hb dX9_read_9 rfl (lv_at hl 1 rfl) ?_
    refine lv_if_ge (tgt := 49) hx hb dX9_read_10 (by decide) (fun c2 => ?_) (fun c2 => ?_)
    · replace hF := oi_t c2 hF
      exact hk49 x2 u_people u_debts u_cuts u_rule u_rings u_size u_least u_worth u_owes u_denies u_debt u_cut u_path u_ring H locs ls hF hw (lv_sub hl [0, 1, 2] rfl)
    · replace hF := oi_f c2 hF
      refine lv_iload_n hx hb dX9_read_13 rfl (lv_at hl 3 rfl) ?_
      refine lv_aload_n hx hb dX9_read_14 rfl (lv_at hl 0 rfl) ?_
      refine r_get (ci := 9) (v := .int u_texted) cx hw iX9 0 13 rfl rfl (by decide) wf_X9_103 rfl dX9_read_15 ?_
      refine lv_icmp_ge (tgt := 49) hx hb dX9_read_18 (by decide) (fun c3 => ?_) (fun c3 => ?_)
      · replace hF := oi_t c3 hF
        exact hk49 x2 u_people u_debts u_cuts u_rule u_rings u_size u_least u_worth u_owes u_denies u_debt u_cut u_path u_ring H locs ls hF hw (lv_sub hl [0, 1, 2] rfl)
      · replace hF := oi_f c3 hF
        refine lv_aload_n hx hb dX9_read_21 rfl (lv_at hl 0 rfl) ?_
        refine lv_iload_n hx hb dX9_read_22 rfl (lv_at hl 3 rfl) ?_
        obtain ⟨z4, hz4, hF⟩ := ob hF
        refine cV (wr := [(q_owes, .inl (C 0, 36, .inl u_owes)), (q_denies, .inl (C 0, 36, .inl u_denies)), (q_debt, .inl (C 0, 30, .inl u_debt)), (q_cut, .inl (C 0, 120, .inl u_cut)), (q_path, .inl (C 0, 6, .inl u_path)), (q_ring, .inl (C 0, 6, .inl u_ring))]) (w2 := [(q_, .inr (9, [.int u_people, .ref q_owes, .ref q_denies, .int u_debts, .ref q_debt, .int u_cuts, .ref q_cut, .int u_seen, .ref q_sight, .int u_events, .ref q_event, .int u_inBook, .ref q_book, .int u_texted, .ref q_text, .ref q_path, .int u_rule, .int u_rings, .int u_size, .int u_least, .long u_worth, .ref q_ring, .ref q_balance, .ref q_left, .ref q_sum, .ref q_parts, .int u_groups, .ref q_group, .int u_paid, .ref q_payment, .ref q_then, .int u_imaged, .ref q_image, .ref q_tapeSort, .ref q_tapeSize, .ref q_items])), (q_owes, .inl (C 0, 36, .inl u_owes)), (q_denies, .inl (C 0, 36, .inl u_denies)), (q_debt, .inl (C 0, 30, .inl u_debt)), (q_cut, .inl (C 0, 120, .inl u_cut)), (q_text, .inl (C 0, 100, .inl u_text)), (q_path, .inl (C 0, 6, .inl u_path)), (q_ring, .inl (C 0, 6, .inl u_ring))]) (st2 := [.int z4]) cx (CX9_behind l D C q_ q_owes q_denies q_debt q_cut q_sight q_event q_book q_text q_path q_ring q_balance q_left q_sum q_parts q_group q_payment q_then q_image q_tapeSort q_tapeSize q_items u_people u_debts u_cuts u_seen u_events u_inBook u_texted u_rule u_rings u_size u_least u_worth u_groups u_paid u_imaged u_text x3 z4 hz4) lk_X9_112 my_X9_behind ml_X9_behind ⟨by decide, by decide⟩ hw [0, 5] [1, 2, 3, 4, 6, 7] [6, 0, 1, 2, 3, 7, 4, 5] rfl rfl (by decide) rfl rfl rfl rfl (Nat.le_of_ble_eq_true rfl) dX9_read_23 rfl (fun H locs hw => ?_) hl.1
        refine lv_istore (lv' := [(4, .int z4), (0, .ref q_), (1, .int x1), (2, .int x2), (3, .int x3)]) hx hb dX9_read_26 hl (by decide) rfl (fun ls hl => ?_)
        refine lv_aload_n hx hb dX9_read_28 rfl (lv_at hl 1 rfl) ?_
        refine lv_iload_n hx hb dX9_read_29 rfl (lv_at hl 4 rfl) ?_
        refine lv_iload hx hb dX9_read_30 (lv_at hl 0 rfl) ?_
        obtain ⟨z5, hz5, hF⟩ := ob hF
        refine cV (wr := []) (w2 := [(q_, .inr (9, [.int z5.2.1, .ref q_owes, .ref q_denies, .int z5.2.2.1, .ref q_debt, .int z5.2.2.2.1, .ref q_cut, .int u_seen, .ref q_sight, .int u_events, .ref q_event, .int u_inBook, .ref q_book, .int u_texted, .ref q_text, .ref q_path, .int z5.2.2.2.2.1, .int z5.2.2.2.2.2.1, .int z5.2.2.2.2.2.2.1, .int z5.2.2.2.2.2.2.2.1, .long z5.2.2.2.2.2.2.2.2.1, .ref q_ring, .ref q_balance, .ref q_left, .ref q_sum, .ref q_parts, .int u_groups, .ref q_group, .int u_paid, .ref q_payment, .ref q_then, .int u_imaged, .ref q_image, .ref q_tapeSort, .ref q_tapeSize, .ref q_items])), (q_owes, .inl (C 0, 36, .inl z5.2.2.2.2.2.2.2.2.2.1)), (q_denies, .inl (C 0, 36, .inl z5.2.2.2.2.2.2.2.2.2.2.1)), (q_debt, .inl (C 0, 30, .inl z5.2.2.2.2.2.2.2.2.2.2.2.1)), (q_cut, .inl (C 0, 120, .inl z5.2.2.2.2.2.2.2.2.2.2.2.2.1)), (q_text, .inl (C 0, 100, .inl u_text)), (q_path, .inl (C 0, 6, .inl z5.2.2.2.2.2.2.2.2.2.2.2.2.2.1)), (q_ring, .inl (C 0, 6, .inl z5.2.2.2.2.2.2.2.2.2.2.2.2.2.2))]) (st2 := [.int z5.1]) cx (CX9_does l D C q_ q_owes q_denies q_debt q_cut q_sight q_event q_book q_text q_path q_ring q_balance q_left q_sum q_parts q_group q_payment q_then q_image q_tapeSort q_tapeSize q_items u_people u_debts u_cuts u_seen u_events u_inBook u_texted u_rule u_rings u_size u_least u_worth u_groups u_paid u_imaged u_owes u_denies u_debt u_cut u_text u_path u_ring x3 z4 z5 hz5) lk_X9_133 my_X9_does ml_X9_does ⟨by decide, by decide⟩ hw [0, 1, 2, 3, 4, 5, 6, 7] [] [0, 1, 2, 3, 4, 5, 6, 7] rfl rfl (by decide) rfl rfl rfl rfl (Nat.le_of_ble_eq_true rfl) dX9_read_32 rfl (fun H locs hw => ?_) hl.1
        refine lv_if_eq (tgt := 41) hx hb dX9_read_35 (by decide) (fun c6 => ?_) (fun c6 => ?_)
        · replace hF := oi_t c6 hF
          refine lv_iload hx hb dX9_read_41 (lv_at hl 0 rfl) ?_
          refine lv_iconst (v := 1) hx hb dX9_read_43 (by decide) ?_
          refine lv_iadd hx hb dX9_read_44 ?_
          refine lv_istore_n (lv' := [(3, .int (z4 + 1)), (4, .int z4), (0, .ref q_), (1, .int x1), (2, .int x2)]) hx hb dX9_read_45 rfl hl (by decide) rfl (fun ls hl => ?_)
          refine lv_goto (tgt := 9) hx hb dX9_read_46 (by decide) ?_
          exact ih x2 (z4 + 1) z5.2.1 z5.2.2.1 z5.2.2.2.1 z5.2.2.2.2.1 z5.2.2.2.2.2.1 z5.2.2.2.2.2.2.1 z5.2.2.2.2.2.2.2.1 z5.2.2.2.2.2.2.2.2.1 z5.2.2.2.2.2.2.2.2.2.1 z5.2.2.2.2.2.2.2.2.2.2.1 z5.2.2.2.2.2.2.2.2.2.2.2.1 z5.2.2.2.2.2.2.2.2.2.2.2.2.1 z5.2.2.2.2.2.2.2.2.2.2.2.2.2.1 z5.2.2.2.2.2.2.2.2.2.2.2.2.2.2 H locs ls hF hw (lv_sub hl [2, 3, 4, 0] rfl)
        · replace hF := oi_f c6 hF
          refine lv_iinc (v := x2 + 1) (lv' := [(2, .int (x2 + 1)), (4, .int z4), (0, .ref q_), (1, .int x1), (3, .int x3)]) hx hb dX9_read_38 hl (k := 3) rfl rfl (by decide) rfl (fun ls hl => ?_)
          refine lv_iload hx hb dX9_read_41 (lv_at hl 1 rfl) ?_
          refine lv_iconst (v := 1) hx hb dX9_read_43 (by decide) ?_
          refine lv_iadd hx hb dX9_read_44 ?_
          refine lv_istore_n (lv' := [(3, .int (z4 + 1)), (2, .int (x2 + 1)), (4, .int z4), (0, .ref q_), (1, .int x1)]) hx hb dX9_read_45 rfl hl (by decide) rfl (fun ls hl => ?_)
          refine lv_goto (tgt := 9) hx hb dX9_read_46 (by decide) ?_
          exact ih (x2 + 1) (z4 + 1) z5.2.1 z5.2.2.1 z5.2.2.2.1 z5.2.2.2.2.1 z5.2.2.2.2.2.1 z5.2.2.2.2.2.2.1 z5.2.2.2.2.2.2.2.1 z5.2.2.2.2.2.2.2.2.1 z5.2.2.2.2.2.2.2.2.2.1 z5.2.2.2.2.2.2.2.2.2.2.1 z5.2.2.2.2.2.2.2.2.2.2.2.1 z5.2.2.2.2.2.2.2.2.2.2.2.2.1 z5.2.2.2.2.2.2.2.2.2.2.2.2.2.1 z5.2.2.2.2.2.2.2.2.2.2.2.2.2.2 H locs ls hF hw (lv_sub hl [3, 4, 1, 0] rfl)
set_option maxRecDepth 20000 in
theorem CX9_read (l : Launch) (D : va_G) (C : Nat → ClassId) (q_ q_owes q_denies q_debt q_cut q_sight q_event q_book q_text q_path q_ring q_balance q_left q_sum q_parts q_group q_payment q_then q_image q_tapeSort q_tapeSize q_items : Nat) (u_people : Int32) (u_debts : Int32) (u_cuts : Int32) (u_seen : Int32) (u_events : Int32) (u_inBook : Int32) (u_texted : Int32) (u_rule : Int32) (u_rings : Int32) (u_size : Int32) (u_least : Int32) (u_worth : Int64) (u_groups : Int32) (u_paid : Int32) (u_imaged : Int32) (u_owes : (Nat → Int32)) (u_denies : (Nat → Int32)) (u_debt : (Nat → Int32)) (u_cut : (Nat → Int32)) (u_text : (Nat → Int32)) (u_path : (Nat → Int32)) (u_ring : (Nat → Int32)) (z : (Int32 × Int32 × Int32 × Int32 × Int32 × Int32 × Int32 × Int32 × Int32 × Int64 × (Nat → Int32) × (Nat → Int32) × (Nat → Int32) × (Nat → Int32) × (Nat → Int32) × (Nat → Int32))) (hF : fX9_read u_people u_debts u_cuts u_seen u_events u_inBook u_texted u_rule u_rings u_size u_least u_worth u_groups u_paid u_imaged u_owes u_denies u_debt u_cut u_text u_path u_ring = some z) : Ct l yX9_read cX9_read 5 (some .int) 16 D C [.ref q_] [(q_, .inr (9, [.int u_people, .ref q_owes, .ref q_denies, .int u_debts, .ref q_debt, .int u_cuts, .ref q_cut, .int u_seen, .ref q_sight, .int u_events, .ref q_event, .int u_inBook, .ref q_book, .int u_texted, .ref q_text, .ref q_path, .int u_rule, .int u_rings, .int u_size, .int u_least, .long u_worth, .ref q_ring, .ref q_balance, .ref q_left, .ref q_sum, .ref q_parts, .int u_groups, .ref q_group, .int u_paid, .ref q_payment, .ref q_then, .int u_imaged, .ref q_image, .ref q_tapeSort, .ref q_tapeSize, .ref q_items])), (q_owes, .inl (C 0, 36, .inl u_owes)), (q_denies, .inl (C 0, 36, .inl u_denies)), (q_debt, .inl (C 0, 30, .inl u_debt)), (q_cut, .inl (C 0, 120, .inl u_cut)), (q_text, .inl (C 0, 100, .inl u_text)), (q_path, .inl (C 0, 6, .inl u_path)), (q_ring, .inl (C 0, 6, .inl u_ring))] [(q_, .inr (9, [.int z.2.1, .ref q_owes, .ref q_denies, .int z.2.2.1, .ref q_debt, .int z.2.2.2.1, .ref q_cut, .int u_seen, .ref q_sight, .int u_events, .ref q_event, .int u_inBook, .ref q_book, .int z.2.2.2.2.1, .ref q_text, .ref q_path, .int z.2.2.2.2.2.1, .int z.2.2.2.2.2.2.1, .int z.2.2.2.2.2.2.2.1, .int z.2.2.2.2.2.2.2.2.1, .long z.2.2.2.2.2.2.2.2.2.1, .ref q_ring, .ref q_balance, .ref q_left, .ref q_sum, .ref q_parts, .int u_groups, .ref q_group, .int u_paid, .ref q_payment, .ref q_then, .int u_imaged, .ref q_image, .ref q_tapeSort, .ref q_tapeSize, .ref q_items])), (q_owes, .inl (C 0, 36, .inl z.2.2.2.2.2.2.2.2.2.2.1)), (q_denies, .inl (C 0, 36, .inl z.2.2.2.2.2.2.2.2.2.2.2.1)), (q_debt, .inl (C 0, 30, .inl z.2.2.2.2.2.2.2.2.2.2.2.2.1)), (q_cut, .inl (C 0, 120, .inl z.2.2.2.2.2.2.2.2.2.2.2.2.2.1)), (q_text, .inl (C 0, 100, .inl u_text)), (q_path, .inl (C 0, 6, .inl z.2.2.2.2.2.2.2.2.2.2.2.2.2.2.1)), (q_ring, .inl (C 0, 6, .inl z.2.2.2.2.2.2.2.2.2.2.2.2.2.2.2))] (some (.int z.1)) := by
  refine Ct_of (by decide) (Nat.le_of_ble_eq_true rfl) ?_
  intro p e R s m args below meth c A Q H locs ls cx hw hl hret
  have cx : CX p m c s args RX9 cX9_read 5 D C A R 16 := cx
  have hx := cx.1
  have hb := cx.2.1
  have hl : lv_has ls 5 [(0, .ref q_)] := hl
  rw [fX9_read.eq_1] at hF
  refine lv_aload_n hx hb dX9_read_0 rfl (lv_at hl 0 rfl) ?_
  obtain ⟨z1, hz1, hF⟩ := ob hF
  refine cV (wr := [(q_owes, .inl (C 0, 36, .inl u_owes)), (q_denies, .inl (C 0, 36, .inl u_denies)), (q_debt, .inl (C 0, 30, .inl u_debt)), (q_cut, .inl (C 0, 120, .inl u_cut)), (q_path, .inl (C 0, 6, .inl u_path)), (q_ring, .inl (C 0, 6, .inl u_ring))]) (w2 := [(q_, .inr (9, [.int u_people, .ref q_owes, .ref q_denies, .int u_debts, .ref q_debt, .int u_cuts, .ref q_cut, .int u_seen, .ref q_sight, .int u_events, .ref q_event, .int u_inBook, .ref q_book, .int u_texted, .ref q_text, .ref q_path, .int u_rule, .int u_rings, .int u_size, .int u_least, .long u_worth, .ref q_ring, .ref q_balance, .ref q_left, .ref q_sum, .ref q_parts, .int u_groups, .ref q_group, .int u_paid, .ref q_payment, .ref q_then, .int u_imaged, .ref q_image, .ref q_tapeSort, .ref q_tapeSize, .ref q_items])), (q_owes, .inl (C 0, 36, .inl u_owes)), (q_denies, .inl (C 0, 36, .inl u_denies)), (q_debt, .inl (C 0, 30, .inl u_debt)), (q_cut, .inl (C 0, 120, .inl u_cut)), (q_text, .inl (C 0, 100, .inl u_text)), (q_path, .inl (C 0, 6, .inl u_path)), (q_ring, .inl (C 0, 6, .inl u_ring))]) (st2 := [.int z1]) cx (CX9_fault l D C q_ q_owes q_denies q_debt q_cut q_sight q_event q_book q_text q_path q_ring q_balance q_left q_sum q_parts q_group q_payment q_then q_image q_tapeSort q_tapeSize q_items u_people u_debts u_cuts u_seen u_events u_inBook u_texted u_rule u_rings u_size u_least u_worth u_groups u_paid u_imaged u_text z1 hz1) lk_X9_130 my_X9_fault ml_X9_fault ⟨by decide, by decide⟩ hw [0, 5] [1, 2, 3, 4, 6, 7] [6, 0, 1, 2, 3, 7, 4, 5] rfl rfl (by decide) rfl rfl rfl rfl (Nat.le_of_ble_eq_true rfl) dX9_read_1 rfl (fun H locs hw => ?_) hl.1
  refine lv_istore_n (lv' := [(1, .int z1), (0, .ref q_)]) hx hb dX9_read_4 rfl hl (by decide) rfl (fun ls hl => ?_)
  refine lv_iconst (v := 0) hx hb dX9_read_5 (by decide) ?_
  refine lv_istore_n (lv' := [(2, .int 0), (1, .int z1), (0, .ref q_)]) hx hb dX9_read_6 rfl hl (by decide) rfl (fun ls hl => ?_)
  refine lv_iconst (v := 0) hx hb dX9_read_7 (by decide) ?_
  refine lv_istore_n (lv' := [(3, .int 0), (2, .int 0), (1, .int z1), (0, .ref q_)]) hx hb dX9_read_8 rfl hl (by decide) rfl (fun ls hl => ?_)
  refine LX9_read_9 cx hret (fun x2_7 u_people_7 u_debts_7 u_cuts_7 u_rule_7 u_rings_7 u_size_7 u_least_7 u_worth_7 u_owes_7 u_denies_7 u_debt_7 u_cut_7 u_path_7 u_ring_7 H locs ls hF hw hl => ?_) 400 0 0 u_people u_debts u_cuts u_rule u_rings u_size u_least u_worth u_owes u_denies u_debt u_cut u_path u_ring H locs ls hF hw (lv_sub hl [3, 2, 1, 0] rfl)
  · refine lv_aload_n hx hb dX9_read_49 rfl (lv_at hl 0 rfl) ?_
    refine lv_iconst (v := 0) hx hb dX9_read_50 (by decide) ?_
    refine r_put (ci := 9) (w2 := [(q_, .inr (9, [.int u_people_7, .ref q_owes, .ref q_denies, .int u_debts_7, .ref q_debt, .int u_cuts_7, .ref q_cut, .int u_seen, .ref q_sight, .int u_events, .ref q_event, .int u_inBook, .ref q_book, .int 0, .ref q_text, .ref q_path, .int u_rule_7, .int u_rings_7, .int u_size_7, .int u_least_7, .long u_worth_7, .ref q_ring, .ref q_balance, .ref q_left, .ref q_sum, .ref q_parts, .int u_groups, .ref q_group, .int u_paid, .ref q_payment, .ref q_then, .int u_imaged, .ref q_image, .ref q_tapeSort, .ref q_tapeSize, .ref q_items])), (q_owes, .inl (C 0, 36, .inl u_owes_7)), (q_denies, .inl (C 0, 36, .inl u_denies_7)), (q_debt, .inl (C 0, 30, .inl u_debt_7)), (q_cut, .inl (C 0, 120, .inl u_cut_7)), (q_text, .inl (C 0, 100, .inl u_text)), (q_path, .inl (C 0, 6, .inl u_path_7)), (q_ring, .inl (C 0, 6, .inl u_ring_7))]) cx hw iX9 tyX9_ok nmX9 0 13 rfl rfl (by decide) wf_X9_103 rfl rfl rfl rfl (Nat.le_of_ble_eq_true rfl) dX9_read_51 rfl (fun H locs hw => ?_)
    refine lv_iload_n hx hb dX9_read_54 rfl (lv_at hl 1 rfl) ?_
    refine lv_if_lt (tgt := 65) hx hb dX9_read_55 (by decide) (fun c8 => ?_) (fun c8 => ?_)
    · replace hF := oi_t c8 hF
      refine lv_iload_n hx hb dX9_read_65 rfl (lv_at hl 2 rfl) ?_
      obtain rfl := Option.some.inj hF
      exact rt_i hret hw rfl dX9_read_66
    · replace hF := oi_f c8 hF
      refine lv_bipush (v := (-10)) hx hb dX9_read_58 (by decide) ?_
      refine lv_iload_n hx hb dX9_read_60 rfl (lv_at hl 1 rfl) ?_
      refine lv_isub hx hb dX9_read_61 ?_
      refine lv_goto (tgt := 66) hx hb dX9_read_62 (by decide) ?_
      obtain rfl := Option.some.inj hF
      exact rt_i hret hw rfl dX9_read_66
theorem dX9_ring_0 : decode cX9_ring 0 = .ok (.iload_n 1, 1) := by decide +kernel
theorem dX9_ring_1 : decode cX9_ring 1 = .ok (.iconst 0, 1) := by decide +kernel
theorem dX9_ring_2 : decode cX9_ring 2 = .ok (.iconst 3, 1) := by decide +kernel
theorem dX9_ring_3 : decode cX9_ring 3 = .ok (.invokestatic 80, 3) := by decide +kernel
theorem dX9_ring_6 : decode cX9_ring 6 = .ok (.ifCond .ne 6, 3) := by decide +kernel
theorem dX9_ring_9 : decode cX9_ring 9 = .ok (.bipush (-2), 2) := by decide +kernel
theorem dX9_ring_11 : decode cX9_ring 11 = .ok (.ireturn, 1) := by decide +kernel
theorem dX9_ring_12 : decode cX9_ring 12 = .ok (.aload_n 0, 1) := by decide +kernel
theorem dX9_ring_13 : decode cX9_ring 13 = .ok (.iload_n 1, 1) := by decide +kernel
theorem dX9_ring_14 : decode cX9_ring 14 = .ok (.invokevirtual 165, 3) := by decide +kernel
theorem dX9_ring_17 : decode cX9_ring 17 = .ok (.ifCond .ne 6, 3) := by decide +kernel
theorem dX9_ring_20 : decode cX9_ring 20 = .ok (.bipush (-5), 2) := by decide +kernel
theorem dX9_ring_22 : decode cX9_ring 22 = .ok (.ireturn, 1) := by decide +kernel
theorem dX9_ring_23 : decode cX9_ring 23 = .ok (.iload_n 2, 1) := by decide +kernel
theorem dX9_ring_24 : decode cX9_ring 24 = .ok (.iconst (-1), 1) := by decide +kernel
theorem dX9_ring_25 : decode cX9_ring 25 = .ok (.if_icmp .ne 8, 3) := by decide +kernel
theorem dX9_ring_28 : decode cX9_ring 28 = .ok (.aload_n 0, 1) := by decide +kernel
theorem dX9_ring_29 : decode cX9_ring 29 = .ok (.getfield 149, 3) := by decide +kernel
theorem dX9_ring_32 : decode cX9_ring 32 = .ok (.ireturn, 1) := by decide +kernel
theorem dX9_ring_33 : decode cX9_ring 33 = .ok (.iload_n 2, 1) := by decide +kernel
theorem dX9_ring_34 : decode cX9_ring 34 = .ok (.bipush (-2), 2) := by decide +kernel
theorem dX9_ring_36 : decode cX9_ring 36 = .ok (.if_icmp .ne 8, 3) := by decide +kernel
theorem dX9_ring_39 : decode cX9_ring 39 = .ok (.aload_n 0, 1) := by decide +kernel
theorem dX9_ring_40 : decode cX9_ring 40 = .ok (.getfield 152, 3) := by decide +kernel
theorem dX9_ring_43 : decode cX9_ring 43 = .ok (.ireturn, 1) := by decide +kernel
theorem dX9_ring_44 : decode cX9_ring 44 = .ok (.iload_n 2, 1) := by decide +kernel
theorem dX9_ring_45 : decode cX9_ring 45 = .ok (.iconst 0, 1) := by decide +kernel
theorem dX9_ring_46 : decode cX9_ring 46 = .ok (.aload_n 0, 1) := by decide +kernel
theorem dX9_ring_47 : decode cX9_ring 47 = .ok (.getfield 149, 3) := by decide +kernel
theorem dX9_ring_50 : decode cX9_ring 50 = .ok (.iconst 1, 1) := by decide +kernel
theorem dX9_ring_51 : decode cX9_ring 51 = .ok (.isub, 1) := by decide +kernel
theorem dX9_ring_52 : decode cX9_ring 52 = .ok (.invokestatic 80, 3) := by decide +kernel
theorem dX9_ring_55 : decode cX9_ring 55 = .ok (.ifCond .eq 12, 3) := by decide +kernel
theorem dX9_ring_58 : decode cX9_ring 58 = .ok (.aload_n 0, 1) := by decide +kernel
theorem dX9_ring_59 : decode cX9_ring 59 = .ok (.getfield 39, 3) := by decide +kernel
theorem dX9_ring_62 : decode cX9_ring 62 = .ok (.iload_n 2, 1) := by decide +kernel
theorem dX9_ring_63 : decode cX9_ring 63 = .ok (.iaload, 1) := by decide +kernel
theorem dX9_ring_64 : decode cX9_ring 64 = .ok (.goto 4, 3) := by decide +kernel
theorem dX9_ring_67 : decode cX9_ring 67 = .ok (.iconst (-1), 1) := by decide +kernel
theorem dX9_ring_68 : decode cX9_ring 68 = .ok (.ireturn, 1) := by decide +kernel
def fX9_ring (u_people : Int32) (u_debts : Int32) (u_cuts : Int32) (u_seen : Int32) (u_events : Int32) (u_inBook : Int32) (u_texted : Int32) (u_rule : Int32) (u_rings : Int32) (u_size : Int32) (u_least : Int32) (u_worth : Int64) (u_groups : Int32) (u_paid : Int32) (u_imaged : Int32) (u_owes : (Nat → Int32)) (u_denies : (Nat → Int32)) (u_path : (Nat → Int32)) (u_ring : (Nat → Int32)) (x1 : Int32) (x2 : Int32) : Option (Int32 × Int32 × Int32 × Int32 × Int32 × Int64 × (Nat → Int32) × (Nat → Int32)) := (fX9_within x1 0 3).bind (fun z1 => if z1 = 0 then (some ((-2), u_rule, u_rings, u_size, u_least, u_worth, u_path, u_ring)) else ((fX9_takes u_people u_debts u_cuts u_seen u_events u_inBook u_texted u_least u_groups u_paid u_imaged u_owes u_denies u_path u_ring x1).bind (fun z3 => if z3.1 = 0 then (some ((-5), z3.2.1, z3.2.2.1, z3.2.2.2.1, z3.2.2.2.2.1, z3.2.2.2.2.2.1, z3.2.2.2.2.2.2.1, z3.2.2.2.2.2.2.2)) else (if x2 = (-1) then (some (z3.2.2.2.1, z3.2.1, z3.2.2.1, z3.2.2.2.1, z3.2.2.2.2.1, z3.2.2.2.2.2.1, z3.2.2.2.2.2.2.1, z3.2.2.2.2.2.2.2)) else (if x2 = (-2) then (some (z3.2.2.2.2.1, z3.2.1, z3.2.2.1, z3.2.2.2.1, z3.2.2.2.2.1, z3.2.2.2.2.2.1, z3.2.2.2.2.2.2.1, z3.2.2.2.2.2.2.2)) else ((fX9_within x2 0 (z3.2.2.2.1 - 1)).bind (fun z7 => if z7 = 0 then (some ((-1), z3.2.1, z3.2.2.1, z3.2.2.2.1, z3.2.2.2.2.1, z3.2.2.2.2.2.1, z3.2.2.2.2.2.2.1, z3.2.2.2.2.2.2.2)) else (gA x2 6 (some (z3.2.2.2.2.2.2.2 (x2).toNatClampNeg, z3.2.1, z3.2.2.1, z3.2.2.2.1, z3.2.2.2.2.1, z3.2.2.2.2.2.1, z3.2.2.2.2.2.2.1, z3.2.2.2.2.2.2.2))))))))))
set_option maxRecDepth 20000 in
theorem CX9_ring (l : Launch) (D : va_G) (C : Nat → ClassId) (q_ q_owes q_denies q_debt q_cut q_sight q_event q_book q_text q_path q_ring q_balance q_left q_sum q_parts q_group q_payment q_then q_image q_tapeSort q_tapeSize q_items : Nat) (u_people : Int32) (u_debts : Int32) (u_cuts : Int32) (u_seen : Int32) (u_events : Int32) (u_inBook : Int32) (u_texted : Int32) (u_rule : Int32) (u_rings : Int32) (u_size : Int32) (u_least : Int32) (u_worth : Int64) (u_groups : Int32) (u_paid : Int32) (u_imaged : Int32) (u_owes : (Nat → Int32)) (u_denies : (Nat → Int32)) (u_path : (Nat → Int32)) (u_ring : (Nat → Int32)) (x1 : Int32) (x2 : Int32) (z : (Int32 × Int32 × Int32 × Int32 × Int32 × Int64 × (Nat → Int32) × (Nat → Int32))) (hF : fX9_ring u_people u_debts u_cuts u_seen u_events u_inBook u_texted u_rule u_rings u_size u_least u_worth u_groups u_paid u_imaged u_owes u_denies u_path u_ring x1 x2 = some z) : Ct l yX9_ring cX9_ring 3 (some .int) 13 D C [.ref q_, .int x1, .int x2] [(q_, .inr (9, [.int u_people, .ref q_owes, .ref q_denies, .int u_debts, .ref q_debt, .int u_cuts, .ref q_cut, .int u_seen, .ref q_sight, .int u_events, .ref q_event, .int u_inBook, .ref q_book, .int u_texted, .ref q_text, .ref q_path, .int u_rule, .int u_rings, .int u_size, .int u_least, .long u_worth, .ref q_ring, .ref q_balance, .ref q_left, .ref q_sum, .ref q_parts, .int u_groups, .ref q_group, .int u_paid, .ref q_payment, .ref q_then, .int u_imaged, .ref q_image, .ref q_tapeSort, .ref q_tapeSize, .ref q_items])), (q_owes, .inl (C 0, 36, .inl u_owes)), (q_denies, .inl (C 0, 36, .inl u_denies)), (q_path, .inl (C 0, 6, .inl u_path)), (q_ring, .inl (C 0, 6, .inl u_ring))] [(q_, .inr (9, [.int u_people, .ref q_owes, .ref q_denies, .int u_debts, .ref q_debt, .int u_cuts, .ref q_cut, .int u_seen, .ref q_sight, .int u_events, .ref q_event, .int u_inBook, .ref q_book, .int u_texted, .ref q_text, .ref q_path, .int z.2.1, .int z.2.2.1, .int z.2.2.2.1, .int z.2.2.2.2.1, .long z.2.2.2.2.2.1, .ref q_ring, .ref q_balance, .ref q_left, .ref q_sum, .ref q_parts, .int u_groups, .ref q_group, .int u_paid, .ref q_payment, .ref q_then, .int u_imaged, .ref q_image, .ref q_tapeSort, .ref q_tapeSize, .ref q_items])), (q_owes, .inl (C 0, 36, .inl u_owes)), (q_denies, .inl (C 0, 36, .inl u_denies)), (q_path, .inl (C 0, 6, .inl z.2.2.2.2.2.2.1)), (q_ring, .inl (C 0, 6, .inl z.2.2.2.2.2.2.2))] (some (.int z.1)) := by
  refine Ct_of (by decide) (Nat.le_of_ble_eq_true rfl) ?_
  intro p e R s m args below meth c A Q H locs ls cx hw hl hret
  have cx : CX p m c s args RX9 cX9_ring 3 D C A R 13 := cx
  have hx := cx.1
  have hb := cx.2.1
  have hl : lv_has ls 3 [(0, .ref q_), (1, .int x1), (2, .int x2)] := hl
  rw [fX9_ring.eq_1] at hF
  refine lv_iload_n hx hb dX9_ring_0 rfl (lv_at hl 1 rfl) ?_
  refine lv_iconst (v := 0) hx hb dX9_ring_1 (by decide) ?_
  refine lv_iconst (v := 3) hx hb dX9_ring_2 (by decide) ?_
  obtain ⟨z1, hz1, hF⟩ := ob hF
  refine cS (wr := [(q_, .inr (9, [.int u_people, .ref q_owes, .ref q_denies, .int u_debts, .ref q_debt, .int u_cuts, .ref q_cut, .int u_seen, .ref q_sight, .int u_events, .ref q_event, .int u_inBook, .ref q_book, .int u_texted, .ref q_text, .ref q_path, .int u_rule, .int u_rings, .int u_size, .int u_least, .long u_worth, .ref q_ring, .ref q_balance, .ref q_left, .ref q_sum, .ref q_parts, .int u_groups, .ref q_group, .int u_paid, .ref q_payment, .ref q_then, .int u_imaged, .ref q_image, .ref q_tapeSort, .ref q_tapeSize, .ref q_items])), (q_owes, .inl (C 0, 36, .inl u_owes)), (q_denies, .inl (C 0, 36, .inl u_denies)), (q_path, .inl (C 0, 6, .inl u_path)), (q_ring, .inl (C 0, 6, .inl u_ring))]) (w2 := [(q_, .inr (9, [.int u_people, .ref q_owes, .ref q_denies, .int u_debts, .ref q_debt, .int u_cuts, .ref q_cut, .int u_seen, .ref q_sight, .int u_events, .ref q_event, .int u_inBook, .ref q_book, .int u_texted, .ref q_text, .ref q_path, .int u_rule, .int u_rings, .int u_size, .int u_least, .long u_worth, .ref q_ring, .ref q_balance, .ref q_left, .ref q_sum, .ref q_parts, .int u_groups, .ref q_group, .int u_paid, .ref q_payment, .ref q_then, .int u_imaged, .ref q_image, .ref q_tapeSort, .ref q_tapeSize, .ref q_items])), (q_owes, .inl (C 0, 36, .inl u_owes)), (q_denies, .inl (C 0, 36, .inl u_denies)), (q_path, .inl (C 0, 6, .inl u_path)), (q_ring, .inl (C 0, 6, .inl u_ring))]) (st2 := [.int z1]) cx (CX9_within l D C x1 0 3 z1 hz1) lk_X9_80 my_X9_within ml_X9_within ⟨by decide, by decide⟩ hw [] [0, 1, 2, 3, 4] [0, 1, 2, 3, 4] rfl rfl (by decide) rfl rfl (Nat.le_of_ble_eq_true rfl) dX9_ring_3 rfl (fun H locs hw => ?_) hl.1
  refine lv_if_ne (tgt := 12) hx hb dX9_ring_6 (by decide) (fun c2 => ?_) (fun c2 => ?_)
  · replace hF := oi_f c2 hF
    refine lv_aload_n hx hb dX9_ring_12 rfl (lv_at hl 0 rfl) ?_
    refine lv_iload_n hx hb dX9_ring_13 rfl (lv_at hl 1 rfl) ?_
    obtain ⟨z3, hz3, hF⟩ := ob hF
    refine cV (wr := []) (w2 := [(q_, .inr (9, [.int u_people, .ref q_owes, .ref q_denies, .int u_debts, .ref q_debt, .int u_cuts, .ref q_cut, .int u_seen, .ref q_sight, .int u_events, .ref q_event, .int u_inBook, .ref q_book, .int u_texted, .ref q_text, .ref q_path, .int z3.2.1, .int z3.2.2.1, .int z3.2.2.2.1, .int z3.2.2.2.2.1, .long z3.2.2.2.2.2.1, .ref q_ring, .ref q_balance, .ref q_left, .ref q_sum, .ref q_parts, .int u_groups, .ref q_group, .int u_paid, .ref q_payment, .ref q_then, .int u_imaged, .ref q_image, .ref q_tapeSort, .ref q_tapeSize, .ref q_items])), (q_owes, .inl (C 0, 36, .inl u_owes)), (q_denies, .inl (C 0, 36, .inl u_denies)), (q_path, .inl (C 0, 6, .inl z3.2.2.2.2.2.2.1)), (q_ring, .inl (C 0, 6, .inl z3.2.2.2.2.2.2.2))]) (st2 := [.int z3.1]) cx (CX9_takes l D C q_ q_owes q_denies q_debt q_cut q_sight q_event q_book q_text q_path q_ring q_balance q_left q_sum q_parts q_group q_payment q_then q_image q_tapeSort q_tapeSize q_items u_people u_debts u_cuts u_seen u_events u_inBook u_texted u_rule u_rings u_size u_least u_worth u_groups u_paid u_imaged u_owes u_denies u_path u_ring x1 z3 hz3) lk_X9_165 my_X9_takes ml_X9_takes ⟨by decide, by decide⟩ hw [0, 1, 2, 3, 4] [] [0, 1, 2, 3, 4] rfl rfl (by decide) rfl rfl rfl rfl (Nat.le_of_ble_eq_true rfl) dX9_ring_14 rfl (fun H locs hw => ?_) hl.1
    refine lv_if_ne (tgt := 23) hx hb dX9_ring_17 (by decide) (fun c4 => ?_) (fun c4 => ?_)
    · replace hF := oi_f c4 hF
      refine lv_iload_n hx hb dX9_ring_23 rfl (lv_at hl 2 rfl) ?_
      refine lv_iconst (v := (-1)) hx hb dX9_ring_24 (by decide) ?_
      refine lv_icmp_ne (tgt := 33) hx hb dX9_ring_25 (by decide) (fun c5 => ?_) (fun c5 => ?_)
      · replace hF := oi_f c5 hF
        refine lv_iload_n hx hb dX9_ring_33 rfl (lv_at hl 2 rfl) ?_
        refine lv_bipush (v := (-2)) hx hb dX9_ring_34 (by decide) ?_
        refine lv_icmp_ne (tgt := 44) hx hb dX9_ring_36 (by decide) (fun c6 => ?_) (fun c6 => ?_)
        · replace hF := oi_f c6 hF
          refine lv_iload_n hx hb dX9_ring_44 rfl (lv_at hl 2 rfl) ?_
          refine lv_iconst (v := 0) hx hb dX9_ring_45 (by decide) ?_
          refine lv_aload_n hx hb dX9_ring_46 rfl (lv_at hl 0 rfl) ?_
          refine r_get (ci := 9) (v := .int z3.2.2.2.1) cx hw iX9 0 18 rfl rfl (by decide) wf_X9_149 rfl dX9_ring_47 ?_
          refine lv_iconst (v := 1) hx hb dX9_ring_50 (by decide) ?_
          refine lv_isub hx hb dX9_ring_51 ?_
          obtain ⟨z7, hz7, hF⟩ := ob hF
          refine cS (wr := [(q_, .inr (9, [.int u_people, .ref q_owes, .ref q_denies, .int u_debts, .ref q_debt, .int u_cuts, .ref q_cut, .int u_seen, .ref q_sight, .int u_events, .ref q_event, .int u_inBook, .ref q_book, .int u_texted, .ref q_text, .ref q_path, .int z3.2.1, .int z3.2.2.1, .int z3.2.2.2.1, .int z3.2.2.2.2.1, .long z3.2.2.2.2.2.1, .ref q_ring, .ref q_balance, .ref q_left, .ref q_sum, .ref q_parts, .int u_groups, .ref q_group, .int u_paid, .ref q_payment, .ref q_then, .int u_imaged, .ref q_image, .ref q_tapeSort, .ref q_tapeSize, .ref q_items])), (q_owes, .inl (C 0, 36, .inl u_owes)), (q_denies, .inl (C 0, 36, .inl u_denies)), (q_path, .inl (C 0, 6, .inl z3.2.2.2.2.2.2.1)), (q_ring, .inl (C 0, 6, .inl z3.2.2.2.2.2.2.2))]) (w2 := [(q_, .inr (9, [.int u_people, .ref q_owes, .ref q_denies, .int u_debts, .ref q_debt, .int u_cuts, .ref q_cut, .int u_seen, .ref q_sight, .int u_events, .ref q_event, .int u_inBook, .ref q_book, .int u_texted, .ref q_text, .ref q_path, .int z3.2.1, .int z3.2.2.1, .int z3.2.2.2.1, .int z3.2.2.2.2.1, .long z3.2.2.2.2.2.1, .ref q_ring, .ref q_balance, .ref q_left, .ref q_sum, .ref q_parts, .int u_groups, .ref q_group, .int u_paid, .ref q_payment, .ref q_then, .int u_imaged, .ref q_image, .ref q_tapeSort, .ref q_tapeSize, .ref q_items])), (q_owes, .inl (C 0, 36, .inl u_owes)), (q_denies, .inl (C 0, 36, .inl u_denies)), (q_path, .inl (C 0, 6, .inl z3.2.2.2.2.2.2.1)), (q_ring, .inl (C 0, 6, .inl z3.2.2.2.2.2.2.2))]) (st2 := [.int z7]) cx (CX9_within l D C x2 0 (z3.2.2.2.1 - 1) z7 hz7) lk_X9_80 my_X9_within ml_X9_within ⟨by decide, by decide⟩ hw [] [0, 1, 2, 3, 4] [0, 1, 2, 3, 4] rfl rfl (by decide) rfl rfl (Nat.le_of_ble_eq_true rfl) dX9_ring_52 rfl (fun H locs hw => ?_) hl.1
          refine lv_if_eq (tgt := 67) hx hb dX9_ring_55 (by decide) (fun c8 => ?_) (fun c8 => ?_)
          · replace hF := oi_t c8 hF
            refine lv_iconst (v := (-1)) hx hb dX9_ring_67 (by decide) ?_
            obtain rfl := Option.some.inj hF
            exact rt_i hret hw rfl dX9_ring_68
          · replace hF := oi_f c8 hF
            refine lv_aload_n hx hb dX9_ring_58 rfl (lv_at hl 0 rfl) ?_
            refine r_get (ci := 9) (v := .ref q_ring) cx hw iX9 0 21 rfl rfl (by decide) wf_X9_39 rfl dX9_ring_59 ?_
            refine lv_iload_n hx hb dX9_ring_62 rfl (lv_at hl 2 rfl) ?_
            obtain ⟨g9, hF⟩ := gA_s hF
            refine r_iald cx hw 4 rfl g9 dX9_ring_63 ?_
            refine lv_goto (tgt := 68) hx hb dX9_ring_64 (by decide) ?_
            obtain rfl := Option.some.inj hF
            exact rt_i hret hw rfl dX9_ring_68
        · replace hF := oi_t c6 hF
          refine lv_aload_n hx hb dX9_ring_39 rfl (lv_at hl 0 rfl) ?_
          refine r_get (ci := 9) (v := .int z3.2.2.2.2.1) cx hw iX9 0 19 rfl rfl (by decide) wf_X9_152 rfl dX9_ring_40 ?_
          obtain rfl := Option.some.inj hF
          exact rt_i hret hw rfl dX9_ring_43
      · replace hF := oi_t c5 hF
        refine lv_aload_n hx hb dX9_ring_28 rfl (lv_at hl 0 rfl) ?_
        refine r_get (ci := 9) (v := .int z3.2.2.2.1) cx hw iX9 0 18 rfl rfl (by decide) wf_X9_149 rfl dX9_ring_29 ?_
        obtain rfl := Option.some.inj hF
        exact rt_i hret hw rfl dX9_ring_32
    · replace hF := oi_t c4 hF
      refine lv_bipush (v := (-5)) hx hb dX9_ring_20 (by decide) ?_
      obtain rfl := Option.some.inj hF
      exact rt_i hret hw rfl dX9_ring_22
  · replace hF := oi_t c2 hF
    refine lv_bipush (v := (-2)) hx hb dX9_ring_9 (by decide) ?_
    obtain rfl := Option.some.inj hF
    exact rt_i hret hw rfl dX9_ring_11
theorem dX9_trail_0 : decode cX9_trail 0 = .ok (.iload_n 1, 1) := by decide +kernel
theorem dX9_trail_1 : decode cX9_trail 1 = .ok (.iconst 0, 1) := by decide +kernel
theorem dX9_trail_2 : decode cX9_trail 2 = .ok (.aload_n 0, 1) := by decide +kernel
theorem dX9_trail_3 : decode cX9_trail 3 = .ok (.getfield 168, 3) := by decide +kernel
theorem dX9_trail_6 : decode cX9_trail 6 = .ok (.iconst 1, 1) := by decide +kernel
theorem dX9_trail_7 : decode cX9_trail 7 = .ok (.isub, 1) := by decide +kernel
theorem dX9_trail_8 : decode cX9_trail 8 = .ok (.invokestatic 80, 3) := by decide +kernel
theorem dX9_trail_11 : decode cX9_trail 11 = .ok (.ifCond .eq 25, 3) := by decide +kernel
theorem dX9_trail_14 : decode cX9_trail 14 = .ok (.iload_n 2, 1) := by decide +kernel
theorem dX9_trail_15 : decode cX9_trail 15 = .ok (.iconst 0, 1) := by decide +kernel
theorem dX9_trail_16 : decode cX9_trail 16 = .ok (.iconst 2, 1) := by decide +kernel
theorem dX9_trail_17 : decode cX9_trail 17 = .ok (.invokestatic 80, 3) := by decide +kernel
theorem dX9_trail_20 : decode cX9_trail 20 = .ok (.ifCond .eq 16, 3) := by decide +kernel
theorem dX9_trail_23 : decode cX9_trail 23 = .ok (.aload_n 0, 1) := by decide +kernel
theorem dX9_trail_24 : decode cX9_trail 24 = .ok (.getfield 21, 3) := by decide +kernel
theorem dX9_trail_27 : decode cX9_trail 27 = .ok (.iconst 3, 1) := by decide +kernel
theorem dX9_trail_28 : decode cX9_trail 28 = .ok (.iload_n 1, 1) := by decide +kernel
theorem dX9_trail_29 : decode cX9_trail 29 = .ok (.imul, 1) := by decide +kernel
theorem dX9_trail_30 : decode cX9_trail 30 = .ok (.iload_n 2, 1) := by decide +kernel
theorem dX9_trail_31 : decode cX9_trail 31 = .ok (.iadd, 1) := by decide +kernel
theorem dX9_trail_32 : decode cX9_trail 32 = .ok (.iaload, 1) := by decide +kernel
theorem dX9_trail_33 : decode cX9_trail 33 = .ok (.goto 4, 3) := by decide +kernel
theorem dX9_trail_36 : decode cX9_trail 36 = .ok (.iconst (-1), 1) := by decide +kernel
theorem dX9_trail_37 : decode cX9_trail 37 = .ok (.ireturn, 1) := by decide +kernel
def fX9_trail (u_cuts : Int32) (u_cut : (Nat → Int32)) (x1 : Int32) (x2 : Int32) : Option Int32 := (fX9_within x1 0 (u_cuts - 1)).bind (fun z1 => if z1 = 0 then (some (-1)) else ((fX9_within x2 0 2).bind (fun z3 => if z3 = 0 then (some (-1)) else (gA ((3 * x1) + x2) 120 (some (u_cut ((3 * x1) + x2).toNatClampNeg))))))
set_option maxRecDepth 20000 in
theorem CX9_trail (l : Launch) (D : va_G) (C : Nat → ClassId) (q_ q_owes q_denies q_debt q_cut q_sight q_event q_book q_text q_path q_ring q_balance q_left q_sum q_parts q_group q_payment q_then q_image q_tapeSort q_tapeSize q_items : Nat) (u_people : Int32) (u_debts : Int32) (u_cuts : Int32) (u_seen : Int32) (u_events : Int32) (u_inBook : Int32) (u_texted : Int32) (u_rule : Int32) (u_rings : Int32) (u_size : Int32) (u_least : Int32) (u_worth : Int64) (u_groups : Int32) (u_paid : Int32) (u_imaged : Int32) (u_cut : (Nat → Int32)) (x1 : Int32) (x2 : Int32) (z : Int32) (hF : fX9_trail u_cuts u_cut x1 x2 = some z) : Ct l yX9_trail cX9_trail 3 (some .int) 2 D C [.ref q_, .int x1, .int x2] [(q_, .inr (9, [.int u_people, .ref q_owes, .ref q_denies, .int u_debts, .ref q_debt, .int u_cuts, .ref q_cut, .int u_seen, .ref q_sight, .int u_events, .ref q_event, .int u_inBook, .ref q_book, .int u_texted, .ref q_text, .ref q_path, .int u_rule, .int u_rings, .int u_size, .int u_least, .long u_worth, .ref q_ring, .ref q_balance, .ref q_left, .ref q_sum, .ref q_parts, .int u_groups, .ref q_group, .int u_paid, .ref q_payment, .ref q_then, .int u_imaged, .ref q_image, .ref q_tapeSort, .ref q_tapeSize, .ref q_items])), (q_cut, .inl (C 0, 120, .inl u_cut))] [(q_, .inr (9, [.int u_people, .ref q_owes, .ref q_denies, .int u_debts, .ref q_debt, .int u_cuts, .ref q_cut, .int u_seen, .ref q_sight, .int u_events, .ref q_event, .int u_inBook, .ref q_book, .int u_texted, .ref q_text, .ref q_path, .int u_rule, .int u_rings, .int u_size, .int u_least, .long u_worth, .ref q_ring, .ref q_balance, .ref q_left, .ref q_sum, .ref q_parts, .int u_groups, .ref q_group, .int u_paid, .ref q_payment, .ref q_then, .int u_imaged, .ref q_image, .ref q_tapeSort, .ref q_tapeSize, .ref q_items])), (q_cut, .inl (C 0, 120, .inl u_cut))] (some (.int z)) := by
  refine Ct_of (by decide) (Nat.le_of_ble_eq_true rfl) ?_
  intro p e R s m args below meth c A Q H locs ls cx hw hl hret
  have cx : CX p m c s args RX9 cX9_trail 3 D C A R 2 := cx
  have hx := cx.1
  have hb := cx.2.1
  have hl : lv_has ls 3 [(0, .ref q_), (1, .int x1), (2, .int x2)] := hl
  rw [fX9_trail.eq_1] at hF
  refine lv_iload_n hx hb dX9_trail_0 rfl (lv_at hl 1 rfl) ?_
  refine lv_iconst (v := 0) hx hb dX9_trail_1 (by decide) ?_
  refine lv_aload_n hx hb dX9_trail_2 rfl (lv_at hl 0 rfl) ?_
  refine r_get (ci := 9) (v := .int u_cuts) cx hw iX9 0 5 rfl rfl (by decide) wf_X9_168 rfl dX9_trail_3 ?_
  refine lv_iconst (v := 1) hx hb dX9_trail_6 (by decide) ?_
  refine lv_isub hx hb dX9_trail_7 ?_
  obtain ⟨z1, hz1, hF⟩ := ob hF
  refine cS (wr := [(q_, .inr (9, [.int u_people, .ref q_owes, .ref q_denies, .int u_debts, .ref q_debt, .int u_cuts, .ref q_cut, .int u_seen, .ref q_sight, .int u_events, .ref q_event, .int u_inBook, .ref q_book, .int u_texted, .ref q_text, .ref q_path, .int u_rule, .int u_rings, .int u_size, .int u_least, .long u_worth, .ref q_ring, .ref q_balance, .ref q_left, .ref q_sum, .ref q_parts, .int u_groups, .ref q_group, .int u_paid, .ref q_payment, .ref q_then, .int u_imaged, .ref q_image, .ref q_tapeSort, .ref q_tapeSize, .ref q_items])), (q_cut, .inl (C 0, 120, .inl u_cut))]) (w2 := [(q_, .inr (9, [.int u_people, .ref q_owes, .ref q_denies, .int u_debts, .ref q_debt, .int u_cuts, .ref q_cut, .int u_seen, .ref q_sight, .int u_events, .ref q_event, .int u_inBook, .ref q_book, .int u_texted, .ref q_text, .ref q_path, .int u_rule, .int u_rings, .int u_size, .int u_least, .long u_worth, .ref q_ring, .ref q_balance, .ref q_left, .ref q_sum, .ref q_parts, .int u_groups, .ref q_group, .int u_paid, .ref q_payment, .ref q_then, .int u_imaged, .ref q_image, .ref q_tapeSort, .ref q_tapeSize, .ref q_items])), (q_cut, .inl (C 0, 120, .inl u_cut))]) (st2 := [.int z1]) cx (CX9_within l D C x1 0 (u_cuts - 1) z1 hz1) lk_X9_80 my_X9_within ml_X9_within ⟨by decide, by decide⟩ hw [] [0, 1] [0, 1] rfl rfl (by decide) rfl rfl (Nat.le_of_ble_eq_true rfl) dX9_trail_8 rfl (fun H locs hw => ?_) hl.1
  refine lv_if_eq (tgt := 36) hx hb dX9_trail_11 (by decide) (fun c2 => ?_) (fun c2 => ?_)
  · replace hF := oi_t c2 hF
    refine lv_iconst (v := (-1)) hx hb dX9_trail_36 (by decide) ?_
    obtain rfl := Option.some.inj hF
    exact rt_i hret hw rfl dX9_trail_37
  · replace hF := oi_f c2 hF
    refine lv_iload_n hx hb dX9_trail_14 rfl (lv_at hl 2 rfl) ?_
    refine lv_iconst (v := 0) hx hb dX9_trail_15 (by decide) ?_
    refine lv_iconst (v := 2) hx hb dX9_trail_16 (by decide) ?_
    obtain ⟨z3, hz3, hF⟩ := ob hF
    refine cS (wr := [(q_, .inr (9, [.int u_people, .ref q_owes, .ref q_denies, .int u_debts, .ref q_debt, .int u_cuts, .ref q_cut, .int u_seen, .ref q_sight, .int u_events, .ref q_event, .int u_inBook, .ref q_book, .int u_texted, .ref q_text, .ref q_path, .int u_rule, .int u_rings, .int u_size, .int u_least, .long u_worth, .ref q_ring, .ref q_balance, .ref q_left, .ref q_sum, .ref q_parts, .int u_groups, .ref q_group, .int u_paid, .ref q_payment, .ref q_then, .int u_imaged, .ref q_image, .ref q_tapeSort, .ref q_tapeSize, .ref q_items])), (q_cut, .inl (C 0, 120, .inl u_cut))]) (w2 := [(q_, .inr (9, [.int u_people, .ref q_owes, .ref q_denies, .int u_debts, .ref q_debt, .int u_cuts, .ref q_cut, .int u_seen, .ref q_sight, .int u_events, .ref q_event, .int u_inBook, .ref q_book, .int u_texted, .ref q_text, .ref q_path, .int u_rule, .int u_rings, .int u_size, .int u_least, .long u_worth, .ref q_ring, .ref q_balance, .ref q_left, .ref q_sum, .ref q_parts, .int u_groups, .ref q_group, .int u_paid, .ref q_payment, .ref q_then, .int u_imaged, .ref q_image, .ref q_tapeSort, .ref q_tapeSize, .ref q_items])), (q_cut, .inl (C 0, 120, .inl u_cut))]) (st2 := [.int z3]) cx (CX9_within l D C x2 0 2 z3 hz3) lk_X9_80 my_X9_within ml_X9_within ⟨by decide, by decide⟩ hw [] [0, 1] [0, 1] rfl rfl (by decide) rfl rfl (Nat.le_of_ble_eq_true rfl) dX9_trail_17 rfl (fun H locs hw => ?_) hl.1
    refine lv_if_eq (tgt := 36) hx hb dX9_trail_20 (by decide) (fun c4 => ?_) (fun c4 => ?_)
    · replace hF := oi_t c4 hF
      refine lv_iconst (v := (-1)) hx hb dX9_trail_36 (by decide) ?_
      obtain rfl := Option.some.inj hF
      exact rt_i hret hw rfl dX9_trail_37
    · replace hF := oi_f c4 hF
      refine lv_aload_n hx hb dX9_trail_23 rfl (lv_at hl 0 rfl) ?_
      refine r_get (ci := 9) (v := .ref q_cut) cx hw iX9 0 6 rfl rfl (by decide) wf_X9_21 rfl dX9_trail_24 ?_
      refine lv_iconst (v := 3) hx hb dX9_trail_27 (by decide) ?_
      refine lv_iload_n hx hb dX9_trail_28 rfl (lv_at hl 1 rfl) ?_
      refine lv_imul hx hb dX9_trail_29 ?_
      refine lv_iload_n hx hb dX9_trail_30 rfl (lv_at hl 2 rfl) ?_
      refine lv_iadd hx hb dX9_trail_31 ?_
      obtain ⟨g5, hF⟩ := gA_s hF
      refine r_iald cx hw 1 rfl g5 dX9_trail_32 ?_
      refine lv_goto (tgt := 37) hx hb dX9_trail_33 (by decide) ?_
      obtain rfl := Option.some.inj hF
      exact rt_i hret hw rfl dX9_trail_37
theorem dX9_forget_0 : decode cX9_forget 0 = .ok (.aload_n 0, 1) := by decide +kernel
theorem dX9_forget_1 : decode cX9_forget 1 = .ok (.getfield 168, 3) := by decide +kernel
theorem dX9_forget_4 : decode cX9_forget 4 = .ok (.istore_n 1, 1) := by decide +kernel
theorem dX9_forget_5 : decode cX9_forget 5 = .ok (.aload_n 0, 1) := by decide +kernel
theorem dX9_forget_6 : decode cX9_forget 6 = .ok (.iconst 0, 1) := by decide +kernel
theorem dX9_forget_7 : decode cX9_forget 7 = .ok (.putfield 168, 3) := by decide +kernel
theorem dX9_forget_10 : decode cX9_forget 10 = .ok (.iload_n 1, 1) := by decide +kernel
theorem dX9_forget_11 : decode cX9_forget 11 = .ok (.ireturn, 1) := by decide +kernel
def fX9_forget (u_cuts : Int32) : Option (Int32 × Int32) := some (u_cuts, 0)
set_option maxRecDepth 20000 in
theorem CX9_forget (l : Launch) (D : va_G) (C : Nat → ClassId) (q_ q_owes q_denies q_debt q_cut q_sight q_event q_book q_text q_path q_ring q_balance q_left q_sum q_parts q_group q_payment q_then q_image q_tapeSort q_tapeSize q_items : Nat) (u_people : Int32) (u_debts : Int32) (u_cuts : Int32) (u_seen : Int32) (u_events : Int32) (u_inBook : Int32) (u_texted : Int32) (u_rule : Int32) (u_rings : Int32) (u_size : Int32) (u_least : Int32) (u_worth : Int64) (u_groups : Int32) (u_paid : Int32) (u_imaged : Int32) (z : (Int32 × Int32)) (hF : fX9_forget u_cuts = some z) : Ct l yX9_forget cX9_forget 2 (some .int) 1 D C [.ref q_] [(q_, .inr (9, [.int u_people, .ref q_owes, .ref q_denies, .int u_debts, .ref q_debt, .int u_cuts, .ref q_cut, .int u_seen, .ref q_sight, .int u_events, .ref q_event, .int u_inBook, .ref q_book, .int u_texted, .ref q_text, .ref q_path, .int u_rule, .int u_rings, .int u_size, .int u_least, .long u_worth, .ref q_ring, .ref q_balance, .ref q_left, .ref q_sum, .ref q_parts, .int u_groups, .ref q_group, .int u_paid, .ref q_payment, .ref q_then, .int u_imaged, .ref q_image, .ref q_tapeSort, .ref q_tapeSize, .ref q_items]))] [(q_, .inr (9, [.int u_people, .ref q_owes, .ref q_denies, .int u_debts, .ref q_debt, .int z.2, .ref q_cut, .int u_seen, .ref q_sight, .int u_events, .ref q_event, .int u_inBook, .ref q_book, .int u_texted, .ref q_text, .ref q_path, .int u_rule, .int u_rings, .int u_size, .int u_least, .long u_worth, .ref q_ring, .ref q_balance, .ref q_left, .ref q_sum, .ref q_parts, .int u_groups, .ref q_group, .int u_paid, .ref q_payment, .ref q_then, .int u_imaged, .ref q_image, .ref q_tapeSort, .ref q_tapeSize, .ref q_items]))] (some (.int z.1)) := by
  refine Ct_of (by decide) (Nat.le_of_ble_eq_true rfl) ?_
  intro p e R s m args below meth c A Q H locs ls cx hw hl hret
  have cx : CX p m c s args RX9 cX9_forget 2 D C A R 1 := cx
  have hx := cx.1
  have hb := cx.2.1
  have hl : lv_has ls 2 [(0, .ref q_)] := hl
  rw [fX9_forget.eq_1] at hF
  refine lv_aload_n hx hb dX9_forget_0 rfl (lv_at hl 0 rfl) ?_
  refine r_get (ci := 9) (v := .int u_cuts) cx hw iX9 0 5 rfl rfl (by decide) wf_X9_168 rfl dX9_forget_1 ?_
  refine lv_istore_n (lv' := [(1, .int u_cuts), (0, .ref q_)]) hx hb dX9_forget_4 rfl hl (by decide) rfl (fun ls hl => ?_)
  refine lv_aload_n hx hb dX9_forget_5 rfl (lv_at hl 1 rfl) ?_
  refine lv_iconst (v := 0) hx hb dX9_forget_6 (by decide) ?_
  refine r_put (ci := 9) (w2 := [(q_, .inr (9, [.int u_people, .ref q_owes, .ref q_denies, .int u_debts, .ref q_debt, .int 0, .ref q_cut, .int u_seen, .ref q_sight, .int u_events, .ref q_event, .int u_inBook, .ref q_book, .int u_texted, .ref q_text, .ref q_path, .int u_rule, .int u_rings, .int u_size, .int u_least, .long u_worth, .ref q_ring, .ref q_balance, .ref q_left, .ref q_sum, .ref q_parts, .int u_groups, .ref q_group, .int u_paid, .ref q_payment, .ref q_then, .int u_imaged, .ref q_image, .ref q_tapeSort, .ref q_tapeSize, .ref q_items]))]) cx hw iX9 tyX9_ok nmX9 0 5 rfl rfl (by decide) wf_X9_168 rfl rfl rfl rfl (Nat.le_of_ble_eq_true rfl) dX9_forget_7 rfl (fun H locs hw => ?_)
  refine lv_iload_n hx hb dX9_forget_10 rfl (lv_at hl 0 rfl) ?_
  obtain rfl := Option.some.inj hF
  exact rt_i hret hw rfl dX9_forget_11
theorem wf_X9_42 : Cond.fieldLink RX9 42 (TX9 22).1 (TX9 22).2.1 (TX9 22).2.2.1 ∈ gdt := gdt_of 862 (by decide +kernel) (by decide +kernel)
theorem dX9_balances_0 : decode cX9_balances 0 = .ok (.iconst 0, 1) := by decide +kernel
theorem dX9_balances_1 : decode cX9_balances 1 = .ok (.istore_n 1, 1) := by decide +kernel
theorem dX9_balances_2 : decode cX9_balances 2 = .ok (.iload_n 1, 1) := by decide +kernel
theorem dX9_balances_3 : decode cX9_balances 3 = .ok (.bipush 6, 2) := by decide +kernel
theorem dX9_balances_5 : decode cX9_balances 5 = .ok (.if_icmp .ge 72, 3) := by decide +kernel
theorem dX9_balances_8 : decode cX9_balances 8 = .ok (.aload_n 0, 1) := by decide +kernel
theorem dX9_balances_9 : decode cX9_balances 9 = .ok (.getfield 42, 3) := by decide +kernel
theorem dX9_balances_12 : decode cX9_balances 12 = .ok (.iload_n 1, 1) := by decide +kernel
theorem dX9_balances_13 : decode cX9_balances 13 = .ok (.iconst 0, 1) := by decide +kernel
theorem dX9_balances_14 : decode cX9_balances 14 = .ok (.iastore, 1) := by decide +kernel
theorem dX9_balances_15 : decode cX9_balances 15 = .ok (.iconst 0, 1) := by decide +kernel
theorem dX9_balances_16 : decode cX9_balances 16 = .ok (.istore_n 2, 1) := by decide +kernel
theorem dX9_balances_17 : decode cX9_balances 17 = .ok (.iload_n 2, 1) := by decide +kernel
theorem dX9_balances_18 : decode cX9_balances 18 = .ok (.aload_n 0, 1) := by decide +kernel
theorem dX9_balances_19 : decode cX9_balances 19 = .ok (.getfield 76, 3) := by decide +kernel
theorem dX9_balances_22 : decode cX9_balances 22 = .ok (.if_icmp .ge 49, 3) := by decide +kernel
theorem dX9_balances_25 : decode cX9_balances 25 = .ok (.iload_n 1, 1) := by decide +kernel
theorem dX9_balances_26 : decode cX9_balances 26 = .ok (.aload_n 0, 1) := by decide +kernel
theorem dX9_balances_27 : decode cX9_balances 27 = .ok (.getfield 76, 3) := by decide +kernel
theorem dX9_balances_30 : decode cX9_balances 30 = .ok (.if_icmp .ge 41, 3) := by decide +kernel
theorem dX9_balances_33 : decode cX9_balances 33 = .ok (.aload_n 0, 1) := by decide +kernel
theorem dX9_balances_34 : decode cX9_balances 34 = .ok (.getfield 42, 3) := by decide +kernel
theorem dX9_balances_37 : decode cX9_balances 37 = .ok (.iload_n 1, 1) := by decide +kernel
theorem dX9_balances_38 : decode cX9_balances 38 = .ok (.dup2, 1) := by decide +kernel
theorem dX9_balances_39 : decode cX9_balances 39 = .ok (.iaload, 1) := by decide +kernel
theorem dX9_balances_40 : decode cX9_balances 40 = .ok (.aload_n 0, 1) := by decide +kernel
theorem dX9_balances_41 : decode cX9_balances 41 = .ok (.getfield 9, 3) := by decide +kernel
theorem dX9_balances_44 : decode cX9_balances 44 = .ok (.bipush 6, 2) := by decide +kernel
theorem dX9_balances_46 : decode cX9_balances 46 = .ok (.iload_n 2, 1) := by decide +kernel
theorem dX9_balances_47 : decode cX9_balances 47 = .ok (.imul, 1) := by decide +kernel
theorem dX9_balances_48 : decode cX9_balances 48 = .ok (.iload_n 1, 1) := by decide +kernel
theorem dX9_balances_49 : decode cX9_balances 49 = .ok (.iadd, 1) := by decide +kernel
theorem dX9_balances_50 : decode cX9_balances 50 = .ok (.iaload, 1) := by decide +kernel
theorem dX9_balances_51 : decode cX9_balances 51 = .ok (.aload_n 0, 1) := by decide +kernel
theorem dX9_balances_52 : decode cX9_balances 52 = .ok (.getfield 9, 3) := by decide +kernel
theorem dX9_balances_55 : decode cX9_balances 55 = .ok (.bipush 6, 2) := by decide +kernel
theorem dX9_balances_57 : decode cX9_balances 57 = .ok (.iload_n 1, 1) := by decide +kernel
theorem dX9_balances_58 : decode cX9_balances 58 = .ok (.imul, 1) := by decide +kernel
theorem dX9_balances_59 : decode cX9_balances 59 = .ok (.iload_n 2, 1) := by decide +kernel
theorem dX9_balances_60 : decode cX9_balances 60 = .ok (.iadd, 1) := by decide +kernel
theorem dX9_balances_61 : decode cX9_balances 61 = .ok (.iaload, 1) := by decide +kernel
theorem dX9_balances_62 : decode cX9_balances 62 = .ok (.isub, 1) := by decide +kernel
theorem dX9_balances_63 : decode cX9_balances 63 = .ok (.iadd, 1) := by decide +kernel
theorem dX9_balances_64 : decode cX9_balances 64 = .ok (.iastore, 1) := by decide +kernel
theorem dX9_balances_65 : decode cX9_balances 65 = .ok (.iinc 2 1, 3) := by decide +kernel
theorem dX9_balances_68 : decode cX9_balances 68 = .ok (.goto (-51), 3) := by decide +kernel
theorem dX9_balances_71 : decode cX9_balances 71 = .ok (.iinc 1 1, 3) := by decide +kernel
theorem dX9_balances_74 : decode cX9_balances 74 = .ok (.goto (-72), 3) := by decide +kernel
theorem dX9_balances_77 : decode cX9_balances 77 = .ok (.return_, 1) := by decide +kernel
def fX9_balances_L17 (k71 : (Nat → Int32) → Option (Nat → Int32)) (u_people : Int32) (u_owes : (Nat → Int32)) (x1 : Int32) : Nat → Int32 → (Nat → Int32) → Option (Nat → Int32)
  | 0, _, _ => none
  | n + 1, x2, u_balance => if u_people ≤ x2 then (k71 u_balance) else (if u_people ≤ x1 then (k71 u_balance) else (gA x1 6 (gA ((6 * x2) + x1) 36 (gA ((6 * x1) + x2) 36 (gA x1 6 (fX9_balances_L17 k71 u_people u_owes x1 n (x2 + 1) (upd u_balance (x1 : Int32).toNatClampNeg ((u_balance (x1).toNatClampNeg) + ((u_owes ((6 * x2) + x1).toNatClampNeg) - (u_owes ((6 * x1) + x2).toNatClampNeg))))))))))
def fX9_balances_L2 (u_people : Int32) (u_owes : (Nat → Int32)) : Nat → Int32 → (Nat → Int32) → Option (Nat → Int32)
  | 0, _, _ => none
  | n + 1, x1, u_balance => if 6 ≤ x1 then (some u_balance) else (gA x1 6 (fX9_balances_L17 (fun (u_balance_9 : (Nat → Int32)) => fX9_balances_L2 u_people u_owes n (x1 + 1) u_balance_9) u_people u_owes x1 400 0 (upd u_balance (x1 : Int32).toNatClampNeg 0)))
def fX9_balances (u_people : Int32) (u_owes : (Nat → Int32)) (u_balance : (Nat → Int32)) : Option (Nat → Int32) := fX9_balances_L2 u_people u_owes 400 0 u_balance
set_option maxRecDepth 20000 in
theorem LX9_balances_17 {p : Program} {l : Launch} {e : Env} {R : Room} {s : State} {m : MethodId} {args : Array Value} {below : List Frame} {meth : Method} {c : Code} {Q : State → Prop} {D : va_G} {C : Nat → ClassId} {A : Nat → Prop} (cx : CX p m c s args RX9 cX9_balances 3 D C A R 1) {q_ q_owes q_denies q_debt q_cut q_sight q_event q_book q_text q_path q_ring q_balance q_left q_sum q_parts q_group q_payment q_then q_image q_tapeSort q_tapeSize q_items : Nat} {u_people : Int32} {u_debts : Int32} {u_cuts : Int32} {u_seen : Int32} {u_events : Int32} {u_inBook : Int32} {u_texted : Int32} {u_rule : Int32} {u_rings : Int32} {u_size : Int32} {u_least : Int32} {u_worth : Int64} {u_groups : Int32} {u_paid : Int32} {u_imaged : Int32} {u_owes : (Nat → Int32)} {x1 : Int32} {z : (Nat → Int32)} (hret : RT p l e R s m args below meth c Q D A cX9_balances none [(q_, .inr (9, [.int u_people, .ref q_owes, .ref q_denies, .int u_debts, .ref q_debt, .int u_cuts, .ref q_cut, .int u_seen, .ref q_sight, .int u_events, .ref q_event, .int u_inBook, .ref q_book, .int u_texted, .ref q_text, .ref q_path, .int u_rule, .int u_rings, .int u_size, .int u_least, .long u_worth, .ref q_ring, .ref q_balance, .ref q_left, .ref q_sum, .ref q_parts, .int u_groups, .ref q_group, .int u_paid, .ref q_payment, .ref q_then, .int u_imaged, .ref q_image, .ref q_tapeSort, .ref q_tapeSize, .ref q_items])), (q_owes, .inl (C 0, 36, .inl u_owes)), (q_balance, .inl (C 0, 6, .inl z))] none) {k71 : (Nat → Int32) → Option (Nat → Int32)} (hk71 : ∀ (u_balance : (Nat → Int32)) (H : Heap) (locs : List Loc) (ls : Array Slot), k71 u_balance = some z → HW D A s.heap H locs [(q_, .inr (9, [.int u_people, .ref q_owes, .ref q_denies, .int u_debts, .ref q_debt, .int u_cuts, .ref q_cut, .int u_seen, .ref q_sight, .int u_events, .ref q_event, .int u_inBook, .ref q_book, .int u_texted, .ref q_text, .ref q_path, .int u_rule, .int u_rings, .int u_size, .int u_least, .long u_worth, .ref q_ring, .ref q_balance, .ref q_left, .ref q_sum, .ref q_parts, .int u_groups, .ref q_group, .int u_paid, .ref q_payment, .ref q_then, .int u_imaged, .ref q_image, .ref q_tapeSort, .ref q_tapeSize, .ref q_items])), (q_owes, .inl (C 0, 36, .inl u_owes)), (q_balance, .inl (C 0, 6, .inl u_balance))] → lv_has ls 3 [(0, .ref q_), (1, .int x1)] → W p l e R s m args below meth c H locs 0 0 Q (F0 m 71 ls [])) :
    ∀ (n : Nat) (x2 : Int32) (u_balance : (Nat → Int32)) (H : Heap) (locs : List Loc) (ls : Array Slot), fX9_balances_L17 k71 u_people u_owes x1 n x2 u_balance = some z → HW D A s.heap H locs [(q_, .inr (9, [.int u_people, .ref q_owes, .ref q_denies, .int u_debts, .ref q_debt, .int u_cuts, .ref q_cut, .int u_seen, .ref q_sight, .int u_events, .ref q_event, .int u_inBook, .ref q_book, .int u_texted, .ref q_text, .ref q_path, .int u_rule, .int u_rings, .int u_size, .int u_least, .long u_worth, .ref q_ring, .ref q_balance, .ref q_left, .ref q_sum, .ref q_parts, .int u_groups, .ref q_group, .int u_paid, .ref q_payment, .ref q_then, .int u_imaged, .ref q_image, .ref q_tapeSort, .ref q_tapeSize, .ref q_items])), (q_owes, .inl (C 0, 36, .inl u_owes)), (q_balance, .inl (C 0, 6, .inl u_balance))] → lv_has ls 3 [(0, .ref q_), (1, .int x1), (2, .int x2)] → W p l e R s m args below meth c H locs 0 0 Q (F0 m 17 ls []) := by
  have hx := cx.1
  have hb := cx.2.1
  intro n
  induction n with
  | zero => intro x2 u_balance H locs ls hF; cases hF
  | succ n ih =>
    intro x2 u_balance H locs ls hF hw hl
    rw [fX9_balances_L17.eq_2] at hF
    refine lv_iload_n hx hb dX9_balances_17 rfl (lv_at hl 2 rfl) ?_
    refine lv_aload_n hx hb dX9_balances_18 rfl (lv_at hl 0 rfl) ?_
    refine r_get (ci := 9) (v := .int u_people) cx hw iX9 0 0 rfl rfl (by decide) wf_X9_76 rfl dX9_balances_19 ?_
    refine lv_icmp_ge (tgt := 71) hx hb dX9_balances_22 (by decide) (fun c3 => ?_) (fun c3 => ?_)
    · replace hF := oi_t c3 hF
      exact hk71 u_balance H locs ls hF hw (lv_sub hl [0, 1] rfl)
    · replace hF := oi_f c3 hF
      refine lv_iload_n hx hb dX9_balances_25 rfl (lv_at hl 1 rfl) ?_
      refine lv_aload_n hx hb dX9_balances_26 rfl (lv_at hl 0 rfl) ?_
      refine r_get (ci := 9) (v := .int u_people) cx hw iX9 0 0 rfl rfl (by decide) wf_X9_76 rfl dX9_balances_27 ?_
      refine lv_icmp_ge (tgt := 71) hx hb dX9_balances_30 (by decide) (fun c4 => ?_) (fun c4 => ?_)
      · replace hF := oi_t c4 hF
        exact hk71 u_balance H locs ls hF hw (lv_sub hl [0, 1] rfl)
      · replace hF := oi_f c4 hF
        refine lv_aload_n hx hb dX9_balances_33 rfl (lv_at hl 0 rfl) ?_
        refine r_get (ci := 9) (v := .ref q_balance) cx hw iX9 0 22 rfl rfl (by decide) wf_X9_42 rfl dX9_balances_34 ?_
        refine lv_iload_n hx hb dX9_balances_37 rfl (lv_at hl 1 rfl) ?_
        refine lv_dup2_11 hx hb dX9_balances_38 rfl rfl ?_
        obtain ⟨g5, hF⟩ := gA_s hF
        refine r_iald cx hw 2 rfl g5 dX9_balances_39 ?_
        refine lv_aload_n hx hb dX9_balances_40 rfl (lv_at hl 0 rfl) ?_
        refine r_get (ci := 9) (v := .ref q_owes) cx hw iX9 0 1 rfl rfl (by decide) wf_X9_9 rfl dX9_balances_41 ?_
        refine lv_bipush (v := 6) hx hb dX9_balances_44 (by decide) ?_
        refine lv_iload_n hx hb dX9_balances_46 rfl (lv_at hl 2 rfl) ?_
        refine lv_imul hx hb dX9_balances_47 ?_
        refine lv_iload_n hx hb dX9_balances_48 rfl (lv_at hl 1 rfl) ?_
        refine lv_iadd hx hb dX9_balances_49 ?_
        obtain ⟨g6, hF⟩ := gA_s hF
        refine r_iald cx hw 1 rfl g6 dX9_balances_50 ?_
        refine lv_aload_n hx hb dX9_balances_51 rfl (lv_at hl 0 rfl) ?_
        refine r_get (ci := 9) (v := .ref q_owes) cx hw iX9 0 1 rfl rfl (by decide) wf_X9_9 rfl dX9_balances_52 ?_
        refine lv_bipush (v := 6) hx hb dX9_balances_55 (by decide) ?_
        refine lv_iload_n hx hb dX9_balances_57 rfl (lv_at hl 1 rfl) ?_
        refine lv_imul hx hb dX9_balances_58 ?_
        refine lv_iload_n hx hb dX9_balances_59 rfl (lv_at hl 2 rfl) ?_
        refine lv_iadd hx hb dX9_balances_60 ?_
        obtain ⟨g7, hF⟩ := gA_s hF
        refine r_iald cx hw 1 rfl g7 dX9_balances_61 ?_
        refine lv_isub hx hb dX9_balances_62 ?_
        refine lv_iadd hx hb dX9_balances_63 ?_
        obtain ⟨g8, hF⟩ := gA_s hF
        refine r_iast (w2 := [(q_, .inr (9, [.int u_people, .ref q_owes, .ref q_denies, .int u_debts, .ref q_debt, .int u_cuts, .ref q_cut, .int u_seen, .ref q_sight, .int u_events, .ref q_event, .int u_inBook, .ref q_book, .int u_texted, .ref q_text, .ref q_path, .int u_rule, .int u_rings, .int u_size, .int u_least, .long u_worth, .ref q_ring, .ref q_balance, .ref q_left, .ref q_sum, .ref q_parts, .int u_groups, .ref q_group, .int u_paid, .ref q_payment, .ref q_then, .int u_imaged, .ref q_image, .ref q_tapeSort, .ref q_tapeSize, .ref q_items])), (q_owes, .inl (C 0, 36, .inl u_owes)), (q_balance, .inl (C 0, 6, .inl (upd u_balance (x1 : Int32).toNatClampNeg ((u_balance (x1).toNatClampNeg) + ((u_owes ((6 * x2) + x1).toNatClampNeg) - (u_owes ((6 * x1) + x2).toNatClampNeg))))))]) cx hw 2 rfl g8 dX9_balances_64 rfl (fun H locs hw => ?_)
        refine lv_iinc (v := x2 + 1) (lv' := [(2, .int (x2 + 1)), (0, .ref q_), (1, .int x1)]) hx hb dX9_balances_65 hl (k := 2) rfl rfl (by decide) rfl (fun ls hl => ?_)
        refine lv_goto (tgt := 17) hx hb dX9_balances_68 (by decide) ?_
        exact ih (x2 + 1) (upd u_balance (x1 : Int32).toNatClampNeg ((u_balance (x1).toNatClampNeg) + ((u_owes ((6 * x2) + x1).toNatClampNeg) - (u_owes ((6 * x1) + x2).toNatClampNeg)))) H locs ls hF hw (lv_sub hl [1, 2, 0] rfl)
set_option maxRecDepth 20000 in
theorem LX9_balances_2 {p : Program} {l : Launch} {e : Env} {R : Room} {s : State} {m : MethodId} {args : Array Value} {below : List Frame} {meth : Method} {c : Code} {Q : State → Prop} {D : va_G} {C : Nat → ClassId} {A : Nat → Prop} (cx : CX p m c s args RX9 cX9_balances 3 D C A R 1) {q_ q_owes q_denies q_debt q_cut q_sight q_event q_book q_text q_path q_ring q_balance q_left q_sum q_parts q_group q_payment q_then q_image q_tapeSort q_tapeSize q_items : Nat} {u_people : Int32} {u_debts : Int32} {u_cuts : Int32} {u_seen : Int32} {u_events : Int32} {u_inBook : Int32} {u_texted : Int32} {u_rule : Int32} {u_rings : Int32} {u_size : Int32} {u_least : Int32} {u_worth : Int64} {u_groups : Int32} {u_paid : Int32} {u_imaged : Int32} {u_owes : (Nat → Int32)} {z : (Nat → Int32)} (hret : RT p l e R s m args below meth c Q D A cX9_balances none [(q_, .inr (9, [.int u_people, .ref q_owes, .ref q_denies, .int u_debts, .ref q_debt, .int u_cuts, .ref q_cut, .int u_seen, .ref q_sight, .int u_events, .ref q_event, .int u_inBook, .ref q_book, .int u_texted, .ref q_text, .ref q_path, .int u_rule, .int u_rings, .int u_size, .int u_least, .long u_worth, .ref q_ring, .ref q_balance, .ref q_left, .ref q_sum, .ref q_parts, .int u_groups, .ref q_group, .int u_paid, .ref q_payment, .ref q_then, .int u_imaged, .ref q_image, .ref q_tapeSort, .ref q_tapeSize, .ref q_items])), (q_owes, .inl (C 0, 36, .inl u_owes)), (q_balance, .inl (C 0, 6, .inl z))] none) :
    ∀ (n : Nat) (x1 : Int32) (u_balance : (Nat → Int32)) (H : Heap) (locs : List Loc) (ls : Array Slot), fX9_balances_L2 u_people u_owes n x1 u_balance = some z → HW D A s.heap H locs [(q_, .inr (9, [.int u_people, .ref q_owes, .ref q_denies, .int u_debts, .ref q_debt, .int u_cuts, .ref q_cut, .int u_seen, .ref q_sight, .int u_events, .ref q_event, .int u_inBook, .ref q_book, .int u_texted, .ref q_text, .ref q_path, .int u_rule, .int u_rings, .int u_size, .int u_least, .long u_worth, .ref q_ring, .ref q_balance, .ref q_left, .ref q_sum, .ref q_parts, .int u_groups, .ref q_group, .int u_paid, .ref q_payment, .ref q_then, .int u_imaged, .ref q_image, .ref q_tapeSort, .ref q_tapeSize, .ref q_items])), (q_owes, .inl (C 0, 36, .inl u_owes)), (q_balance, .inl (C 0, 6, .inl u_balance))] → lv_has ls 3 [(0, .ref q_), (1, .int x1)] → W p l e R s m args below meth c H locs 0 0 Q (F0 m 2 ls []) := by
  have hx := cx.1
  have hb := cx.2.1
  intro n
  induction n with
  | zero => intro x1 u_balance H locs ls hF; cases hF
  | succ n ih =>
    intro x1 u_balance H locs ls hF hw hl
    rw [fX9_balances_L2.eq_2] at hF
    refine lv_iload_n hx hb dX9_balances_2 rfl (lv_at hl 1 rfl) ?_
    refine lv_bipush (v := 6) hx hb dX9_balances_3 (by decide) ?_
    refine lv_icmp_ge (tgt := 77) hx hb dX9_balances_5 (by decide) (fun c1 => ?_) (fun c1 => ?_)
    · replace hF := oi_t c1 hF
      obtain rfl := Option.some.inj hF
      exact rt_v hret hw rfl dX9_balances_77
    · replace hF := oi_f c1 hF
      refine lv_aload_n hx hb dX9_balances_8 rfl (lv_at hl 0 rfl) ?_
      refine r_get (ci := 9) (v := .ref q_balance) cx hw iX9 0 22 rfl rfl (by decide) wf_X9_42 rfl dX9_balances_9 ?_
      refine lv_iload_n hx hb dX9_balances_12 rfl (lv_at hl 1 rfl) ?_
      refine lv_iconst (v := 0) hx hb dX9_balances_13 (by decide) ?_
      obtain ⟨g2, hF⟩ := gA_s hF
      refine r_iast (w2 := [(q_, .inr (9, [.int u_people, .ref q_owes, .ref q_denies, .int u_debts, .ref q_debt, .int u_cuts, .ref q_cut, .int u_seen, .ref q_sight, .int u_events, .ref q_event, .int u_inBook, .ref q_book, .int u_texted, .ref q_text, .ref q_path, .int u_rule, .int u_rings, .int u_size, .int u_least, .long u_worth, .ref q_ring, .ref q_balance, .ref q_left, .ref q_sum, .ref q_parts, .int u_groups, .ref q_group, .int u_paid, .ref q_payment, .ref q_then, .int u_imaged, .ref q_image, .ref q_tapeSort, .ref q_tapeSize, .ref q_items])), (q_owes, .inl (C 0, 36, .inl u_owes)), (q_balance, .inl (C 0, 6, .inl (upd u_balance (x1 : Int32).toNatClampNeg 0)))]) cx hw 2 rfl g2 dX9_balances_14 rfl (fun H locs hw => ?_)
      refine lv_iconst (v := 0) hx hb dX9_balances_15 (by decide) ?_
      refine lv_istore_n (lv' := [(2, .int 0), (0, .ref q_), (1, .int x1)]) hx hb dX9_balances_16 rfl hl (by decide) rfl (fun ls hl => ?_)
      refine LX9_balances_17 cx hret (fun u_balance_9 H locs ls hF hw hl => ?_) 400 0 (upd u_balance (x1 : Int32).toNatClampNeg 0) H locs ls hF hw (lv_sub hl [1, 2, 0] rfl)
      · refine lv_iinc (v := x1 + 1) (lv' := [(1, .int (x1 + 1)), (0, .ref q_)]) hx hb dX9_balances_71 hl (k := 1) rfl rfl (by decide) rfl (fun ls hl => ?_)
        refine lv_goto (tgt := 2) hx hb dX9_balances_74 (by decide) ?_
        exact ih (x1 + 1) u_balance_9 H locs ls hF hw (lv_sub hl [1, 0] rfl)
set_option maxRecDepth 20000 in
theorem CX9_balances (l : Launch) (D : va_G) (C : Nat → ClassId) (q_ q_owes q_denies q_debt q_cut q_sight q_event q_book q_text q_path q_ring q_balance q_left q_sum q_parts q_group q_payment q_then q_image q_tapeSort q_tapeSize q_items : Nat) (u_people : Int32) (u_debts : Int32) (u_cuts : Int32) (u_seen : Int32) (u_events : Int32) (u_inBook : Int32) (u_texted : Int32) (u_rule : Int32) (u_rings : Int32) (u_size : Int32) (u_least : Int32) (u_worth : Int64) (u_groups : Int32) (u_paid : Int32) (u_imaged : Int32) (u_owes : (Nat → Int32)) (u_balance : (Nat → Int32)) (z : (Nat → Int32)) (hF : fX9_balances u_people u_owes u_balance = some z) : Ct l yX9_balances cX9_balances 3 none 1 D C [.ref q_] [(q_, .inr (9, [.int u_people, .ref q_owes, .ref q_denies, .int u_debts, .ref q_debt, .int u_cuts, .ref q_cut, .int u_seen, .ref q_sight, .int u_events, .ref q_event, .int u_inBook, .ref q_book, .int u_texted, .ref q_text, .ref q_path, .int u_rule, .int u_rings, .int u_size, .int u_least, .long u_worth, .ref q_ring, .ref q_balance, .ref q_left, .ref q_sum, .ref q_parts, .int u_groups, .ref q_group, .int u_paid, .ref q_payment, .ref q_then, .int u_imaged, .ref q_image, .ref q_tapeSort, .ref q_tapeSize, .ref q_items])), (q_owes, .inl (C 0, 36, .inl u_owes)), (q_balance, .inl (C 0, 6, .inl u_balance))] [(q_, .inr (9, [.int u_people, .ref q_owes, .ref q_denies, .int u_debts, .ref q_debt, .int u_cuts, .ref q_cut, .int u_seen, .ref q_sight, .int u_events, .ref q_event, .int u_inBook, .ref q_book, .int u_texted, .ref q_text, .ref q_path, .int u_rule, .int u_rings, .int u_size, .int u_least, .long u_worth, .ref q_ring, .ref q_balance, .ref q_left, .ref q_sum, .ref q_parts, .int u_groups, .ref q_group, .int u_paid, .ref q_payment, .ref q_then, .int u_imaged, .ref q_image, .ref q_tapeSort, .ref q_tapeSize, .ref q_items])), (q_owes, .inl (C 0, 36, .inl u_owes)), (q_balance, .inl (C 0, 6, .inl z))] none := by
  refine Ct_of (by decide) (Nat.le_of_ble_eq_true rfl) ?_
  intro p e R s m args below meth c A Q H locs ls cx hw hl hret
  have cx : CX p m c s args RX9 cX9_balances 3 D C A R 1 := cx
  have hx := cx.1
  have hb := cx.2.1
  have hl : lv_has ls 3 [(0, .ref q_)] := hl
  rw [fX9_balances.eq_1] at hF
  refine lv_iconst (v := 0) hx hb dX9_balances_0 (by decide) ?_
  refine lv_istore_n (lv' := [(1, .int 0), (0, .ref q_)]) hx hb dX9_balances_1 rfl hl (by decide) rfl (fun ls hl => ?_)
  refine LX9_balances_2 cx hret 400 0 u_balance H locs ls hF hw (lv_sub hl [1, 0] rfl)
