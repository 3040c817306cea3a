theorem dX9_settles_0 : decode cX9_settles 0 = .ok (.aload_n 0, 1) := by decide +kernel
theorem dX9_settles_1 : decode cX9_settles 1 = .ok (.invokevirtual 192, 3) := by decide +kernel
theorem dX9_settles_4 : decode cX9_settles 4 = .ok (.iconst 0, 1) := by decide +kernel
theorem dX9_settles_5 : decode cX9_settles 5 = .ok (.istore_n 1, 1) := by decide +kernel
theorem dX9_settles_6 : decode cX9_settles 6 = .ok (.iload_n 1, 1) := by decide +kernel
theorem dX9_settles_7 : decode cX9_settles 7 = .ok (.aload_n 0, 1) := by decide +kernel
theorem dX9_settles_8 : decode cX9_settles 8 = .ok (.getfield 186, 3) := by decide +kernel
theorem dX9_settles_11 : decode cX9_settles 11 = .ok (.if_icmp .ge 27, 3) := by decide +kernel
theorem dX9_settles_14 : decode cX9_settles 14 = .ok (.aload_n 0, 1) := by decide +kernel
theorem dX9_settles_15 : decode cX9_settles 15 = .ok (.getfield 57, 3) := by decide +kernel
theorem dX9_settles_18 : decode cX9_settles 18 = .ok (.iconst 3, 1) := by decide +kernel
theorem dX9_settles_19 : decode cX9_settles 19 = .ok (.iload_n 1, 1) := by decide +kernel
theorem dX9_settles_20 : decode cX9_settles 20 = .ok (.imul, 1) := by decide +kernel
theorem dX9_settles_21 : decode cX9_settles 21 = .ok (.iconst 2, 1) := by decide +kernel
theorem dX9_settles_22 : decode cX9_settles 22 = .ok (.iadd, 1) := by decide +kernel
theorem dX9_settles_23 : decode cX9_settles 23 = .ok (.iaload, 1) := by decide +kernel
theorem dX9_settles_24 : decode cX9_settles 24 = .ok (.sipush 999, 3) := by decide +kernel
theorem dX9_settles_27 : decode cX9_settles 27 = .ok (.if_icmp .le 5, 3) := by decide +kernel
theorem dX9_settles_30 : decode cX9_settles 30 = .ok (.iconst 0, 1) := by decide +kernel
theorem dX9_settles_31 : decode cX9_settles 31 = .ok (.ireturn, 1) := by decide +kernel
theorem dX9_settles_32 : decode cX9_settles 32 = .ok (.iinc 1 1, 3) := by decide +kernel
theorem dX9_settles_35 : decode cX9_settles 35 = .ok (.goto (-29), 3) := by decide +kernel
theorem dX9_settles_38 : decode cX9_settles 38 = .ok (.iconst 0, 1) := by decide +kernel
theorem dX9_settles_39 : decode cX9_settles 39 = .ok (.istore_n 1, 1) := by decide +kernel
theorem dX9_settles_40 : decode cX9_settles 40 = .ok (.iload_n 1, 1) := by decide +kernel
theorem dX9_settles_41 : decode cX9_settles 41 = .ok (.bipush 36, 2) := by decide +kernel
theorem dX9_settles_43 : decode cX9_settles 43 = .ok (.if_icmp .ge 16, 3) := by decide +kernel
theorem dX9_settles_46 : decode cX9_settles 46 = .ok (.aload_n 0, 1) := by decide +kernel
theorem dX9_settles_47 : decode cX9_settles 47 = .ok (.getfield 9, 3) := by decide +kernel
theorem dX9_settles_50 : decode cX9_settles 50 = .ok (.iload_n 1, 1) := by decide +kernel
theorem dX9_settles_51 : decode cX9_settles 51 = .ok (.iconst 0, 1) := by decide +kernel
theorem dX9_settles_52 : decode cX9_settles 52 = .ok (.iastore, 1) := by decide +kernel
theorem dX9_settles_53 : decode cX9_settles 53 = .ok (.iinc 1 1, 3) := by decide +kernel
theorem dX9_settles_56 : decode cX9_settles 56 = .ok (.goto (-16), 3) := by decide +kernel
theorem dX9_settles_59 : decode cX9_settles 59 = .ok (.aload_n 0, 1) := by decide +kernel
theorem dX9_settles_60 : decode cX9_settles 60 = .ok (.iconst 0, 1) := by decide +kernel
theorem dX9_settles_61 : decode cX9_settles 61 = .ok (.putfield 88, 3) := by decide +kernel
theorem dX9_settles_64 : decode cX9_settles 64 = .ok (.iconst 0, 1) := by decide +kernel
theorem dX9_settles_65 : decode cX9_settles 65 = .ok (.istore_n 1, 1) := by decide +kernel
theorem dX9_settles_66 : decode cX9_settles 66 = .ok (.iload_n 1, 1) := by decide +kernel
theorem dX9_settles_67 : decode cX9_settles 67 = .ok (.aload_n 0, 1) := by decide +kernel
theorem dX9_settles_68 : decode cX9_settles 68 = .ok (.getfield 186, 3) := by decide +kernel
theorem dX9_settles_71 : decode cX9_settles 71 = .ok (.if_icmp .ge 45, 3) := by decide +kernel
theorem dX9_settles_74 : decode cX9_settles 74 = .ok (.aload_n 0, 1) := by decide +kernel
theorem dX9_settles_75 : decode cX9_settles 75 = .ok (.bipush 6, 2) := by decide +kernel
theorem dX9_settles_77 : decode cX9_settles 77 = .ok (.aload_n 0, 1) := by decide +kernel
theorem dX9_settles_78 : decode cX9_settles 78 = .ok (.getfield 57, 3) := by decide +kernel
theorem dX9_settles_81 : decode cX9_settles 81 = .ok (.iconst 3, 1) := by decide +kernel
theorem dX9_settles_82 : decode cX9_settles 82 = .ok (.iload_n 1, 1) := by decide +kernel
theorem dX9_settles_83 : decode cX9_settles 83 = .ok (.imul, 1) := by decide +kernel
theorem dX9_settles_84 : decode cX9_settles 84 = .ok (.iaload, 1) := by decide +kernel
theorem dX9_settles_85 : decode cX9_settles 85 = .ok (.imul, 1) := by decide +kernel
theorem dX9_settles_86 : decode cX9_settles 86 = .ok (.aload_n 0, 1) := by decide +kernel
theorem dX9_settles_87 : decode cX9_settles 87 = .ok (.getfield 57, 3) := by decide +kernel
theorem dX9_settles_90 : decode cX9_settles 90 = .ok (.iconst 3, 1) := by decide +kernel
theorem dX9_settles_91 : decode cX9_settles 91 = .ok (.iload_n 1, 1) := by decide +kernel
theorem dX9_settles_92 : decode cX9_settles 92 = .ok (.imul, 1) := by decide +kernel
theorem dX9_settles_93 : decode cX9_settles 93 = .ok (.iconst 1, 1) := by decide +kernel
theorem dX9_settles_94 : decode cX9_settles 94 = .ok (.iadd, 1) := by decide +kernel
theorem dX9_settles_95 : decode cX9_settles 95 = .ok (.iaload, 1) := by decide +kernel
theorem dX9_settles_96 : decode cX9_settles 96 = .ok (.iadd, 1) := by decide +kernel
theorem dX9_settles_97 : decode cX9_settles 97 = .ok (.aload_n 0, 1) := by decide +kernel
theorem dX9_settles_98 : decode cX9_settles 98 = .ok (.getfield 57, 3) := by decide +kernel
theorem dX9_settles_101 : decode cX9_settles 101 = .ok (.iconst 3, 1) := by decide +kernel
theorem dX9_settles_102 : decode cX9_settles 102 = .ok (.iload_n 1, 1) := by decide +kernel
theorem dX9_settles_103 : decode cX9_settles 103 = .ok (.imul, 1) := by decide +kernel
theorem dX9_settles_104 : decode cX9_settles 104 = .ok (.iconst 2, 1) := by decide +kernel
theorem dX9_settles_105 : decode cX9_settles 105 = .ok (.iadd, 1) := by decide +kernel
theorem dX9_settles_106 : decode cX9_settles 106 = .ok (.iaload, 1) := by decide +kernel
theorem dX9_settles_107 : decode cX9_settles 107 = .ok (.invokevirtual 99, 3) := by decide +kernel
theorem dX9_settles_110 : decode cX9_settles 110 = .ok (.iinc 1 1, 3) := by decide +kernel
theorem dX9_settles_113 : decode cX9_settles 113 = .ok (.goto (-47), 3) := by decide +kernel
theorem dX9_settles_116 : decode cX9_settles 116 = .ok (.iconst 1, 1) := by decide +kernel
theorem dX9_settles_117 : decode cX9_settles 117 = .ok (.ireturn, 1) := by decide +kernel
def fX9_settles_L6 (k38 : Option (Int32 × Int32 × Int32 × Int32 × (Nat → Int32) × (Nat → Int32) × (Nat → Int32) × (Nat → Int32) × (Nat → Int32) × (Nat → Int32) × (Nat → Int32) × (Nat → Int32))) (u_debts : Int32) (u_groups : Int32) (u_paid : Int32) (u_owes : (Nat → Int32)) (u_debt : (Nat → Int32)) (u_balance : (Nat → Int32)) (u_left : (Nat → Int32)) (u_sum : (Nat → Int32)) (u_parts : (Nat → Int32)) (u_group : (Nat → Int32)) (u_payment : (Nat → Int32)) : Nat → Int32 → Option (Int32 × Int32 × Int32 × Int32 × (Nat → Int32) × (Nat → Int32) × (Nat → Int32) × (Nat → Int32) × (Nat → Int32) × (Nat → Int32) × (Nat → Int32) × (Nat → Int32))
  | 0, _ => none
  | n + 1, x1 => if u_paid ≤ x1 then (k38) else (gA ((3 * x1) + 2) 30 (if (u_payment ((3 * x1) + 2).toNatClampNeg) ≤ 999 then (fX9_settles_L6 k38 u_debts u_groups u_paid u_owes u_debt u_balance u_left u_sum u_parts u_group u_payment n (x1 + 1)) else (some (0, u_debts, u_groups, u_paid, u_owes, u_debt, u_balance, u_left, u_sum, u_parts, u_group, u_payment))))
def fX9_settles_L40 (k59 : (Nat → Int32) → Option (Int32 × Int32 × Int32 × Int32 × (Nat → Int32) × (Nat → Int32) × (Nat → Int32) × (Nat → Int32) × (Nat → Int32) × (Nat → Int32) × (Nat → Int32) × (Nat → Int32))) : Nat → Int32 → (Nat → Int32) → Option (Int32 × Int32 × Int32 × Int32 × (Nat → Int32) × (Nat → Int32) × (Nat → Int32) × (Nat → Int32) × (Nat → Int32) × (Nat → Int32) × (Nat → Int32) × (Nat → Int32))
  | 0, _, _ => none
  | n + 1, x1, u_owes => if 36 ≤ x1 then (k59 u_owes) else (gA x1 36 (fX9_settles_L40 k59 n (x1 + 1) (upd u_owes (x1 : Int32).toNatClampNeg 0)))
def fX9_settles_L66 (u_groups : Int32) (u_paid : Int32) (u_balance : (Nat → Int32)) (u_left : (Nat → Int32)) (u_sum : (Nat → Int32)) (u_parts : (Nat → Int32)) (u_group : (Nat → Int32)) (u_payment : (Nat → Int32)) : Nat → Int32 → Int32 → (Nat → Int32) → (Nat → Int32) → Option (Int32 × Int32 × Int32 × Int32 × (Nat → Int32) × (Nat → Int32) × (Nat → Int32) × (Nat → Int32) × (Nat → Int32) × (Nat → Int32) × (Nat → Int32) × (Nat → Int32))
  | 0, _, _, _, _ => none
  | n + 1, x1, u_debts, u_owes, u_debt => if u_paid ≤ x1 then (some (1, u_debts, u_groups, u_paid, u_owes, u_debt, u_balance, u_left, u_sum, u_parts, u_group, u_payment)) else (gA (3 * x1) 30 (gA ((3 * x1) + 1) 30 (gA ((3 * x1) + 2) 30 ((fX9_becomes u_debts u_owes u_debt ((6 * (u_payment (3 * x1).toNatClampNeg)) + (u_payment ((3 * x1) + 1).toNatClampNeg)) (u_payment ((3 * x1) + 2).toNatClampNeg)).bind (fun z13 => fX9_settles_L66 u_groups u_paid u_balance u_left u_sum u_parts u_group u_payment n (x1 + 1) z13.1 z13.2.1 z13.2.2)))))
def fX9_settles (u_people : Int32) (u_debts : Int32) (u_owes : (Nat → Int32)) (u_debt : (Nat → Int32)) (u_balance : (Nat → Int32)) (u_left : (Nat → Int32)) (u_sum : (Nat → Int32)) (u_parts : (Nat → Int32)) (u_group : (Nat → Int32)) (u_payment : (Nat → Int32)) : Option (Int32 × Int32 × Int32 × Int32 × (Nat → Int32) × (Nat → Int32) × (Nat → Int32) × (Nat → Int32) × (Nat → Int32) × (Nat → Int32) × (Nat → Int32) × (Nat → Int32)) := (fX9_payments u_people u_owes u_balance u_left u_sum u_parts u_group u_payment).bind (fun z1 => fX9_settles_L6 (fX9_settles_L40 (fun (u_owes_8 : (Nat → Int32)) => fX9_settles_L66 z1.1 z1.2.1 z1.2.2.1 z1.2.2.2.1 z1.2.2.2.2.1 z1.2.2.2.2.2.1 z1.2.2.2.2.2.2.1 z1.2.2.2.2.2.2.2 400 0 0 u_owes_8 u_debt) 400 0 u_owes) u_debts z1.1 z1.2.1 u_owes u_debt z1.2.2.1 z1.2.2.2.1 z1.2.2.2.2.1 z1.2.2.2.2.2.1 z1.2.2.2.2.2.2.1 z1.2.2.2.2.2.2.2 400 0)
set_option maxRecDepth 20000 in
theorem LX9_settles_6 {p : Program} {l : Launch} {e : Env} {R : Room} {s : State} {m : MethodId} {args : Array Value} {below : List Frame} {meth : Method} {c : Code} {Q : State → Prop} {D : va_G} {C : Nat → ClassId} {A : Nat → Prop} (cx : CX p m c s args RX9 cX9_settles 2 D C A R 4) {q_ q_owes q_denies q_debt q_cut q_sight q_event q_book q_text q_path q_ring q_balance q_left q_sum q_parts q_group q_payment q_then q_image q_tapeSort q_tapeSize q_items : Nat} {u_people : Int32} {u_debts : Int32} {u_cuts : Int32} {u_seen : Int32} {u_events : Int32} {u_inBook : Int32} {u_texted : Int32} {u_rule : Int32} {u_rings : Int32} {u_size : Int32} {u_least : Int32} {u_worth : Int64} {u_groups : Int32} {u_paid : Int32} {u_imaged : Int32} {u_owes : (Nat → Int32)} {u_debt : (Nat → Int32)} {u_balance : (Nat → Int32)} {u_left : (Nat → Int32)} {u_sum : (Nat → Int32)} {u_parts : (Nat → Int32)} {u_group : (Nat → Int32)} {u_payment : (Nat → Int32)} {z : (Int32 × Int32 × Int32 × Int32 × (Nat → Int32) × (Nat → Int32) × (Nat → Int32) × (Nat → Int32) × (Nat → Int32) × (Nat → Int32) × (Nat → Int32) × (Nat → Int32))} (hret : RT p l e R s m args below meth c Q D A cX9_settles (some .boolean) [(q_, .inr (9, [.int u_people, .ref q_owes, .ref q_denies, .int z.2.1, .ref q_debt, .int u_cuts, .ref q_cut, .int u_seen, .ref q_sight, .int u_events, .ref q_event, .int u_inBook, .ref q_book, .int u_texted, .ref q_text, .ref q_path, .int u_rule, .int u_rings, .int u_size, .int u_least, .long u_worth, .ref q_ring, .ref q_balance, .ref q_left, .ref q_sum, .ref q_parts, .int z.2.2.1, .ref q_group, .int z.2.2.2.1, .ref q_payment, .ref q_then, .int u_imaged, .ref q_image, .ref q_tapeSort, .ref q_tapeSize, .ref q_items])), (q_owes, .inl (C 0, 36, .inl z.2.2.2.2.1)), (q_debt, .inl (C 0, 30, .inl z.2.2.2.2.2.1)), (q_balance, .inl (C 0, 6, .inl z.2.2.2.2.2.2.1)), (q_left, .inl (C 0, 6, .inl z.2.2.2.2.2.2.2.1)), (q_sum, .inl (C 0, 64, .inl z.2.2.2.2.2.2.2.2.1)), (q_parts, .inl (C 0, 64, .inl z.2.2.2.2.2.2.2.2.2.1)), (q_group, .inl (C 0, 3, .inl z.2.2.2.2.2.2.2.2.2.2.1)), (q_payment, .inl (C 0, 30, .inl z.2.2.2.2.2.2.2.2.2.2.2))] (some (.int z.1))) {k38 : Option (Int32 × Int32 × Int32 × Int32 × (Nat → Int32) × (Nat → Int32) × (Nat → Int32) × (Nat → Int32) × (Nat → Int32) × (Nat → Int32) × (Nat → Int32) × (Nat → Int32))} (hk38 : ∀ (H : Heap) (locs : List Loc) (ls : Array Slot), k38 = some z → HW D A s.heap H locs [(q_, .inr (9, [.int u_people, .ref q_owes, .ref q_denies, .int u_debts, .ref q_debt, .int u_cuts, .ref q_cut, .int u_seen, .ref q_sight, .int u_events, .ref q_event, .int u_inBook, .ref q_book, .int u_texted, .ref q_text, .ref q_path, .int u_rule, .int u_rings, .int u_size, .int u_least, .long u_worth, .ref q_ring, .ref q_balance, .ref q_left, .ref q_sum, .ref q_parts, .int u_groups, .ref q_group, .int u_paid, .ref q_payment, .ref q_then, .int u_imaged, .ref q_image, .ref q_tapeSort, .ref q_tapeSize, .ref q_items])), (q_owes, .inl (C 0, 36, .inl u_owes)), (q_debt, .inl (C 0, 30, .inl u_debt)), (q_balance, .inl (C 0, 6, .inl u_balance)), (q_left, .inl (C 0, 6, .inl u_left)), (q_sum, .inl (C 0, 64, .inl u_sum)), (q_parts, .inl (C 0, 64, .inl u_parts)), (q_group, .inl (C 0, 3, .inl u_group)), (q_payment, .inl (C 0, 30, .inl u_payment))] → lv_has ls 2 [(0, .ref q_)] → W p l e R s m args below meth c H locs 0 0 Q (F0 m 38 ls [])) :
    ∀ (n : Nat) (x1 : Int32) (H : Heap) (locs : List Loc) (ls : Array Slot), fX9_settles_L6 k38 u_debts u_groups u_paid u_owes u_debt u_balance u_left u_sum u_parts u_group u_payment n x1 = some z → HW D A s.heap H locs [(q_, .inr (9, [.int u_people, .ref q_owes, .ref q_denies, .int u_debts, .ref q_debt, .int u_cuts, .ref q_cut, .int u_seen, .ref q_sight, .int u_events, .ref q_event, .int u_inBook, .ref q_book, .int u_texted, .ref q_text, .ref q_path, .int u_rule, .int u_rings, .int u_size, .int u_least, .long u_worth, .ref q_ring, .ref q_balance, .ref q_left, .ref q_sum, .ref q_parts, .int u_groups, .ref q_group, .int u_paid, .ref q_payment, .ref q_then, .int u_imaged, .ref q_image, .ref q_tapeSort, .ref q_tapeSize, .ref q_items])), (q_owes, .inl (C 0, 36, .inl u_owes)), (q_debt, .inl (C 0, 30, .inl u_debt)), (q_balance, .inl (C 0, 6, .inl u_balance)), (q_left, .inl (C 0, 6, .inl u_left)), (q_sum, .inl (C 0, 64, .inl u_sum)), (q_parts, .inl (C 0, 64, .inl u_parts)), (q_group, .inl (C 0, 3, .inl u_group)), (q_payment, .inl (C 0, 30, .inl u_payment))] → lv_has ls 2 [(0, .ref q_), (1, .int x1)] → W p l e R s m args below meth c H locs 0 0 Q (F0 m 6 ls []) := by
  have hx := cx.1
  have hb := cx.2.1
  intro n
  induction n with
  | zero => intro x1 H locs ls hF; cases hF
  | succ n ih =>
    intro x1 H locs ls hF hw hl
    rw [fX9_settles_L6.eq_2] at hF
    refine lv_iload_n hx hb dX9_settles_6 rfl (lv_at hl 1 rfl) ?_
    refine lv_aload_n hx hb dX9_settles_7 rfl (lv_at hl 0 rfl) ?_
    refine r_get (ci := 9) (v := .int u_paid) cx hw iX9 0 28 rfl rfl (by decide) wf_X9_186 rfl dX9_settles_8 ?_
    refine lv_icmp_ge (tgt := 38) hx hb dX9_settles_11 (by decide) (fun c2 => ?_) (fun c2 => ?_)
    · replace hF := oi_t c2 hF
      exact hk38 H locs ls hF hw (lv_sub hl [0] rfl)
    · replace hF := oi_f c2 hF
      refine lv_aload_n hx hb dX9_settles_14 rfl (lv_at hl 0 rfl) ?_
      refine r_get (ci := 9) (v := .ref q_payment) cx hw iX9 0 29 rfl rfl (by decide) wf_X9_57 rfl dX9_settles_15 ?_
      refine lv_iconst (v := 3) hx hb dX9_settles_18 (by decide) ?_
      refine lv_iload_n hx hb dX9_settles_19 rfl (lv_at hl 1 rfl) ?_
      refine lv_imul hx hb dX9_settles_20 ?_
      refine lv_iconst (v := 2) hx hb dX9_settles_21 (by decide) ?_
      refine lv_iadd hx hb dX9_settles_22 ?_
      obtain ⟨g3, hF⟩ := gA_s hF
      refine r_iald cx hw 8 rfl g3 dX9_settles_23 ?_
      refine lv_sipush (v := 999) hx hb dX9_settles_24 (by decide) ?_
      refine lv_icmp_le (tgt := 32) hx hb dX9_settles_27 (by decide) (fun c4 => ?_) (fun c4 => ?_)
      · replace hF := oi_t c4 hF
        refine lv_iinc (v := x1 + 1) (lv' := [(1, .int (x1 + 1)), (0, .ref q_)]) hx hb dX9_settles_32 hl (k := 1) rfl rfl (by decide) rfl (fun ls hl => ?_)
        refine lv_goto (tgt := 6) hx hb dX9_settles_35 (by decide) ?_
        exact ih (x1 + 1) H locs ls hF hw (lv_sub hl [1, 0] rfl)
      · replace hF := oi_f c4 hF
        refine lv_iconst (v := 0) hx hb dX9_settles_30 (by decide) ?_
        obtain rfl := Option.some.inj hF
        exact rt_z hret hw rfl rfl dX9_settles_31
set_option maxRecDepth 20000 in
theorem LX9_settles_40 {p : Program} {l : Launch} {e : Env} {R : Room} {s : State} {m : MethodId} {args : Array Value} {below : List Frame} {meth : Method} {c : Code} {Q : State → Prop} {D : va_G} {C : Nat → ClassId} {A : Nat → Prop} (cx : CX p m c s args RX9 cX9_settles 2 D C A R 4) {q_ q_owes q_denies q_debt q_cut q_sight q_event q_book q_text q_path q_ring q_balance q_left q_sum q_parts q_group q_payment q_then q_image q_tapeSort q_tapeSize q_items : Nat} {u_people : Int32} {u_debts : Int32} {u_cuts : Int32} {u_seen : Int32} {u_events : Int32} {u_inBook : Int32} {u_texted : Int32} {u_rule : Int32} {u_rings : Int32} {u_size : Int32} {u_least : Int32} {u_worth : Int64} {u_groups : Int32} {u_paid : Int32} {u_imaged : Int32} {u_debt : (Nat → Int32)} {u_balance : (Nat → Int32)} {u_left : (Nat → Int32)} {u_sum : (Nat → Int32)} {u_parts : (Nat → Int32)} {u_group : (Nat → Int32)} {u_payment : (Nat → Int32)} {z : (Int32 × Int32 × Int32 × Int32 × (Nat → Int32) × (Nat → Int32) × (Nat → Int32) × (Nat → Int32) × (Nat → Int32) × (Nat → Int32) × (Nat → Int32) × (Nat → Int32))} (hret : RT p l e R s m args below meth c Q D A cX9_settles (some .boolean) [(q_, .inr (9, [.int u_people, .ref q_owes, .ref q_denies, .int z.2.1, .ref q_debt, .int u_cuts, .ref q_cut, .int u_seen, .ref q_sight, .int u_events, .ref q_event, .int u_inBook, .ref q_book, .int u_texted, .ref q_text, .ref q_path, .int u_rule, .int u_rings, .int u_size, .int u_least, .long u_worth, .ref q_ring, .ref q_balance, .ref q_left, .ref q_sum, .ref q_parts, .int z.2.2.1, .ref q_group, .int z.2.2.2.1, .ref q_payment, .ref q_then, .int u_imaged, .ref q_image, .ref q_tapeSort, .ref q_tapeSize, .ref q_items])), (q_owes, .inl (C 0, 36, .inl z.2.2.2.2.1)), (q_debt, .inl (C 0, 30, .inl z.2.2.2.2.2.1)), (q_balance, .inl (C 0, 6, .inl z.2.2.2.2.2.2.1)), (q_left, .inl (C 0, 6, .inl z.2.2.2.2.2.2.2.1)), (q_sum, .inl (C 0, 64, .inl z.2.2.2.2.2.2.2.2.1)), (q_parts, .inl (C 0, 64, .inl z.2.2.2.2.2.2.2.2.2.1)), (q_group, .inl (C 0, 3, .inl z.2.2.2.2.2.2.2.2.2.2.1)), (q_payment, .inl (C 0, 30, .inl z.2.2.2.2.2.2.2.2.2.2.2))] (some (.int z.1))) {k59 : (Nat → Int32) → Option (Int32 × Int32 × Int32 × Int32 × (Nat → Int32) × (Nat → Int32) × (Nat → Int32) × (Nat → Int32) × (Nat → Int32) × (Nat → Int32) × (Nat → Int32) × (Nat → Int32))} (hk59 : ∀ (u_owes : (Nat → Int32)) (H : Heap) (locs : List Loc) (ls : Array Slot), k59 u_owes = some z → HW D A s.heap H locs [(q_, .inr (9, [.int u_people, .ref q_owes, .ref q_denies, .int u_debts, .ref q_debt, .int u_cuts, .ref q_cut, .int u_seen, .ref q_sight, .int u_events, .ref q_event, .int u_inBook, .ref q_book, .int u_texted, .ref q_text, .ref q_path, .int u_rule, .int u_rings, .int u_size, .int u_least, .long u_worth, .ref q_ring, .ref q_balance, .ref q_left, .ref q_sum, .ref q_parts, .int u_groups, .ref q_group, .int u_paid, .ref q_payment, .ref q_then, .int u_imaged, .ref q_image, .ref q_tapeSort, .ref q_tapeSize, .ref q_items])), (q_owes, .inl (C 0, 36, .inl u_owes)), (q_debt, .inl (C 0, 30, .inl u_debt)), (q_balance, .inl (C 0, 6, .inl u_balance)), (q_left, .inl (C 0, 6, .inl u_left)), (q_sum, .inl (C 0, 64, .inl u_sum)), (q_parts, .inl (C 0, 64, .inl u_parts)), (q_group, .inl (C 0, 3, .inl u_group)), (q_payment, .inl (C 0, 30, .inl u_payment))] → lv_has ls 2 [(0, .ref q_)] → W p l e R s m args below meth c H locs 0 0 Q (F0 m 59 ls [])) :
    ∀ (n : Nat) (x1 : Int32) (u_owes : (Nat → Int32)) (H : Heap) (locs : List Loc) (ls : Array Slot), fX9_settles_L40 k59 n x1 u_owes = some z → HW D A s.heap H locs [(q_, .inr (9, [.int u_people, .ref q_owes, .ref q_denies, .int u_debts, .ref q_debt, .int u_cuts, .ref q_cut, .int u_seen, .ref q_sight, .int u_events, .ref q_event, .int u_inBook, .ref q_book, .int u_texted, .ref q_text, .ref q_path, .int u_rule, .int u_rings, .int u_size, .int u_least, .long u_worth, .ref q_ring, .ref q_balance, .ref q_left, .ref q_sum, .ref q_parts, .int u_groups, .ref q_group, .int u_paid, .ref q_payment, .ref q_then, .int u_imaged, .ref q_image, .ref q_tapeSort, .ref q_tapeSize, .ref q_items])), (q_owes, .inl (C 0, 36, .inl u_owes)), (q_debt, .inl (C 0, 30, .inl u_debt)), (q_balance, .inl (C 0, 6, .inl u_balance)), (q_left, .inl (C 0, 6, .inl u_left)), (q_sum, .inl (C 0, 64, .inl u_sum)), (q_parts, .inl (C 0, 64, .inl u_parts)), (q_group, .inl (C 0, 3, .inl u_group)), (q_payment, .inl (C 0, 30, .inl u_payment))] → lv_has ls 2 [(0, .ref q_), (1, .int x1)] → W p l e R s m args below meth c H locs 0 0 Q (F0 m 40 ls []) := by
  have hx := cx.1
  have hb := cx.2.1
  intro n
  induction n with
  | zero => intro x1 u_owes H locs ls hF; cases hF
  | succ n ih =>
    intro x1 u_owes H locs ls hF hw hl
    rw [fX9_settles_L40.eq_2] at hF
    refine lv_iload_n hx hb dX9_settles_40 rfl (lv_at hl 1 rfl) ?_
    refine lv_bipush (v := 36) hx hb dX9_settles_41 (by decide) ?_
    refine lv_icmp_ge (tgt := 59) hx hb dX9_settles_43 (by decide) (fun c6 => ?_) (fun c6 => ?_)
    · replace hF := oi_t c6 hF
      exact hk59 u_owes H locs ls hF hw (lv_sub hl [0] rfl)
    · replace hF := oi_f c6 hF
      refine lv_aload_n hx hb dX9_settles_46 rfl (lv_at hl 0 rfl) ?_
      refine r_get (ci := 9) (v := .ref q_owes) cx hw iX9 0 1 rfl rfl (by decide) wf_X9_9 rfl dX9_settles_47 ?_
      refine lv_iload_n hx hb dX9_settles_50 rfl (lv_at hl 1 rfl) ?_
      refine lv_iconst (v := 0) hx hb dX9_settles_51 (by decide) ?_
      obtain ⟨g7, hF⟩ := gA_s hF
      refine r_iast (w2 := [(q_, .inr (9, [.int u_people, .ref q_owes, .ref q_denies, .int u_debts, .ref q_debt, .int u_cuts, .ref q_cut, .int u_seen, .ref q_sight, .int u_events, .ref q_event, .int u_inBook, .ref q_book, .int u_texted, .ref q_text, .ref q_path, .int u_rule, .int u_rings, .int u_size, .int u_least, .long u_worth, .ref q_ring, .ref q_balance, .ref q_left, .ref q_sum, .ref q_parts, .int u_groups, .ref q_group, .int u_paid, .ref q_payment, .ref q_then, .int u_imaged, .ref q_image, .ref q_tapeSort, .ref q_tapeSize, .ref q_items])), (q_owes, .inl (C 0, 36, .inl (upd u_owes (x1 : Int32).toNatClampNeg 0))), (q_debt, .inl (C 0, 30, .inl u_debt)), (q_balance, .inl (C 0, 6, .inl u_balance)), (q_left, .inl (C 0, 6, .inl u_left)), (q_sum, .inl (C 0, 64, .inl u_sum)), (q_parts, .inl (C 0, 64, .inl u_parts)), (q_group, .inl (C 0, 3, .inl u_group)), (q_payment, .inl (C 0, 30, .inl u_payment))]) cx hw 1 rfl g7 dX9_settles_52 rfl (fun H locs hw => ?_)
      refine lv_iinc (v := x1 + 1) (lv' := [(1, .int (x1 + 1)), (0, .ref q_)]) hx hb dX9_settles_53 hl (k := 1) rfl rfl (by decide) rfl (fun ls hl => ?_)
      refine lv_goto (tgt := 40) hx hb dX9_settles_56 (by decide) ?_
      exact ih (x1 + 1) (upd u_owes (x1 : Int32).toNatClampNeg 0) H locs ls hF hw (lv_sub hl [1, 0] rfl)
set_option maxRecDepth 20000 in
theorem LX9_settles_66 {p : Program} {l : Launch} {e : Env} {R : Room} {s : State} {m : MethodId} {args : Array Value} {below : List Frame} {meth : Method} {c : Code} {Q : State → Prop} {D : va_G} {C : Nat → ClassId} {A : Nat → Prop} (cx : CX p m c s args RX9 cX9_settles 2 D C A R 4) {q_ q_owes q_denies q_debt q_cut q_sight q_event q_book q_text q_path q_ring q_balance q_left q_sum q_parts q_group q_payment q_then q_image q_tapeSort q_tapeSize q_items : Nat} {u_people : Int32} {u_cuts : Int32} {u_seen : Int32} {u_events : Int32} {u_inBook : Int32} {u_texted : Int32} {u_rule : Int32} {u_rings : Int32} {u_size : Int32} {u_least : Int32} {u_worth : Int64} {u_groups : Int32} {u_paid : Int32} {u_imaged : Int32} {u_balance : (Nat → Int32)} {u_left : (Nat → Int32)} {u_sum : (Nat → Int32)} {u_parts : (Nat → Int32)} {u_group : (Nat → Int32)} {u_payment : (Nat → Int32)} {z : (Int32 × Int32 × Int32 × Int32 × (Nat → Int32) × (Nat → Int32) × (Nat → Int32) × (Nat → Int32) × (Nat → Int32) × (Nat → Int32) × (Nat → Int32) × (Nat → Int32))} (hret : RT p l e R s m args below meth c Q D A cX9_settles (some .boolean) [(q_, .inr (9, [.int u_people, .ref q_owes, .ref q_denies, .int z.2.1, .ref q_debt, .int u_cuts, .ref q_cut, .int u_seen, .ref q_sight, .int u_events, .ref q_event, .int u_inBook, .ref q_book, .int u_texted, .ref q_text, .ref q_path, .int u_rule, .int u_rings, .int u_size, .int u_least, .long u_worth, .ref q_ring, .ref q_balance, .ref q_left, .ref q_sum, .ref q_parts, .int z.2.2.1, .ref q_group, .int z.2.2.2.1, .ref q_payment, .ref q_then, .int u_imaged, .ref q_image, .ref q_tapeSort, .ref q_tapeSize, .ref q_items])), (q_owes, .inl (C 0, 36, .inl z.2.2.2.2.1)), (q_debt, .inl (C 0, 30, .inl z.2.2.2.2.2.1)), (q_balance, .inl (C 0, 6, .inl z.2.2.2.2.2.2.1)), (q_left, .inl (C 0, 6, .inl z.2.2.2.2.2.2.2.1)), (q_sum, .inl (C 0, 64, .inl z.2.2.2.2.2.2.2.2.1)), (q_parts, .inl (C 0, 64, .inl z.2.2.2.2.2.2.2.2.2.1)), (q_group, .inl (C 0, 3, .inl z.2.2.2.2.2.2.2.2.2.2.1)), (q_payment, .inl (C 0, 30, .inl z.2.2.2.2.2.2.2.2.2.2.2))] (some (.int z.1))) :
    ∀ (n : Nat) (x1 : Int32) (u_debts : Int32) (u_owes : (Nat → Int32)) (u_debt : (Nat → Int32)) (H : Heap) (locs : List Loc) (ls : Array Slot), fX9_settles_L66 u_groups u_paid u_balance u_left u_sum u_parts u_group u_payment n x1 u_debts u_owes u_debt = some z → HW D A s.heap H locs [(q_, .inr (9, [.int u_people, .ref q_owes, .ref q_denies, .int u_debts, .ref q_debt, .int u_cuts, .ref q_cut, .int u_seen, .ref q_sight, .int u_events, .ref q_event, .int u_inBook, .ref q_book, .int u_texted, .ref q_text, .ref q_path, .int u_rule, .int u_rings, .int u_size, .int u_least, .long u_worth, .ref q_ring, .ref q_balance, .ref q_left, .ref q_sum, .ref q_parts, .int u_groups, .ref q_group, .int u_paid, .ref q_payment, .ref q_then, .int u_imaged, .ref q_image, .ref q_tapeSort, .ref q_tapeSize, .ref q_items])), (q_owes, .inl (C 0, 36, .inl u_owes)), (q_debt, .inl (C 0, 30, .inl u_debt)), (q_balance, .inl (C 0, 6, .inl u_balance)), (q_left, .inl (C 0, 6, .inl u_left)), (q_sum, .inl (C 0, 64, .inl u_sum)), (q_parts, .inl (C 0, 64, .inl u_parts)), (q_group, .inl (C 0, 3, .inl u_group)), (q_payment, .inl (C 0, 30, .inl u_payment))] → lv_has ls 2 [(0, .ref q_), (1, .int x1)] → W p l e R s m args below meth c H locs 0 0 Q (F0 m 66 ls []) := by
  have hx := cx.1
  have hb := cx.2.1
  intro n
  induction n with
  | zero => intro x1 u_debts u_owes u_debt H locs ls hF; cases hF
  | succ n ih =>
    intro x1 u_debts u_owes u_debt H locs ls hF hw hl
    rw [fX9_settles_L66.eq_2] at hF
    refine lv_iload_n hx hb dX9_settles_66 rfl (lv_at hl 1 rfl) ?_
    refine lv_aload_n hx hb dX9_settles_67 rfl (lv_at hl 0 rfl) ?_
    refine r_get (ci := 9) (v := .int u_paid) cx hw iX9 0 28 rfl rfl (by decide) wf_X9_186 rfl dX9_settles_68 ?_
    refine lv_icmp_ge (tgt := 116) hx hb dX9_settles_71 (by decide) (fun c9 => ?_) (fun c9 => ?_)
    · replace hF := oi_t c9 hF
      refine lv_iconst (v := 1) hx hb dX9_settles_116 (by decide) ?_
      obtain rfl := Option.some.inj hF
      exact rt_z hret hw rfl rfl dX9_settles_117
    · replace hF := oi_f c9 hF
      refine lv_aload_n hx hb dX9_settles_74 rfl (lv_at hl 0 rfl) ?_
      refine lv_bipush (v := 6) hx hb dX9_settles_75 (by decide) ?_
      refine lv_aload_n hx hb dX9_settles_77 rfl (lv_at hl 0 rfl) ?_
      refine r_get (ci := 9) (v := .ref q_payment) cx hw iX9 0 29 rfl rfl (by decide) wf_X9_57 rfl dX9_settles_78 ?_
      refine lv_iconst (v := 3) hx hb dX9_settles_81 (by decide) ?_
      refine lv_iload_n hx hb dX9_settles_82 rfl (lv_at hl 1 rfl) ?_
      refine lv_imul hx hb dX9_settles_83 ?_
      obtain ⟨g10, hF⟩ := gA_s hF
      refine r_iald cx hw 8 rfl g10 dX9_settles_84 ?_
      refine lv_imul hx hb dX9_settles_85 ?_
      refine lv_aload_n hx hb dX9_settles_86 rfl (lv_at hl 0 rfl) ?_
      refine r_get (ci := 9) (v := .ref q_payment) cx hw iX9 0 29 rfl rfl (by decide) wf_X9_57 rfl dX9_settles_87 ?_
      refine lv_iconst (v := 3) hx hb dX9_settles_90 (by decide) ?_
      refine lv_iload_n hx hb dX9_settles_91 rfl (lv_at hl 1 rfl) ?_
      refine lv_imul hx hb dX9_settles_92 ?_
      refine lv_iconst (v := 1) hx hb dX9_settles_93 (by decide) ?_
      refine lv_iadd hx hb dX9_settles_94 ?_
      obtain ⟨g11, hF⟩ := gA_s hF
      refine r_iald cx hw 8 rfl g11 dX9_settles_95 ?_
      refine lv_iadd hx hb dX9_settles_96 ?_
      refine lv_aload_n hx hb dX9_settles_97 rfl (lv_at hl 0 rfl) ?_
      refine r_get (ci := 9) (v := .ref q_payment) cx hw iX9 0 29 rfl rfl (by decide) wf_X9_57 rfl dX9_settles_98 ?_
      refine lv_iconst (v := 3) hx hb dX9_settles_101 (by decide) ?_
      refine lv_iload_n hx hb dX9_settles_102 rfl (lv_at hl 1 rfl) ?_
      refine lv_imul hx hb dX9_settles_103 ?_
      refine lv_iconst (v := 2) hx hb dX9_settles_104 (by decide) ?_
      refine lv_iadd hx hb dX9_settles_105 ?_
      obtain ⟨g12, hF⟩ := gA_s hF
      refine r_iald cx hw 8 rfl g12 dX9_settles_106 ?_
      obtain ⟨z13, hz13, hF⟩ := ob hF
      refine cV (wr := [(q_balance, .inl (C 0, 6, .inl u_balance)), (q_left, .inl (C 0, 6, .inl u_left)), (q_sum, .inl (C 0, 64, .inl u_sum)), (q_parts, .inl (C 0, 64, .inl u_parts)), (q_group, .inl (C 0, 3, .inl u_group)), (q_payment, .inl (C 0, 30, .inl u_payment))]) (w2 := [(q_, .inr (9, [.int u_people, .ref q_owes, .ref q_denies, .int z13.1, .ref q_debt, .int u_cuts, .ref q_cut, .int u_seen, .ref q_sight, .int u_events, .ref q_event, .int u_inBook, .ref q_book, .int u_texted, .ref q_text, .ref q_path, .int u_rule, .int u_rings, .int u_size, .int u_least, .long u_worth, .ref q_ring, .ref q_balance, .ref q_left, .ref q_sum, .ref q_parts, .int u_groups, .ref q_group, .int u_paid, .ref q_payment, .ref q_then, .int u_imaged, .ref q_image, .ref q_tapeSort, .ref q_tapeSize, .ref q_items])), (q_owes, .inl (C 0, 36, .inl z13.2.1)), (q_debt, .inl (C 0, 30, .inl z13.2.2)), (q_balance, .inl (C 0, 6, .inl u_balance)), (q_left, .inl (C 0, 6, .inl u_left)), (q_sum, .inl (C 0, 64, .inl u_sum)), (q_parts, .inl (C 0, 64, .inl u_parts)), (q_group, .inl (C 0, 3, .inl u_group)), (q_payment, .inl (C 0, 30, .inl u_payment))]) (st2 := []) cx (CX9_becomes l D C q_ q_owes q_denies q_debt q_cut q_sight q_event q_book q_text q_path q_ring q_balance q_left q_sum q_parts q_group q_payment q_then q_image q_tapeSort q_tapeSize q_items u_people u_debts u_cuts u_seen u_events u_inBook u_texted u_rule u_rings u_size u_least u_worth u_groups u_paid u_imaged u_owes u_debt ((6 * (u_payment (3 * x1).toNatClampNeg)) + (u_payment ((3 * x1) + 1).toNatClampNeg)) (u_payment ((3 * x1) + 2).toNatClampNeg) z13 hz13) lk_X9_99 my_X9_becomes ml_X9_becomes ⟨by decide, by decide⟩ hw [0, 1, 2] [3, 4, 5, 6, 7, 8] [6, 7, 8, 0, 1, 2, 3, 4, 5] rfl rfl (by decide) rfl rfl rfl rfl (Nat.le_of_ble_eq_true rfl) dX9_settles_107 rfl (fun H locs hw => ?_) hl.1
      refine lv_iinc (v := x1 + 1) (lv' := [(1, .int (x1 + 1)), (0, .ref q_)]) hx hb dX9_settles_110 hl (k := 1) rfl rfl (by decide) rfl (fun ls hl => ?_)
      refine lv_goto (tgt := 66) hx hb dX9_settles_113 (by decide) ?_
      exact ih (x1 + 1) z13.1 z13.2.1 z13.2.2 H locs ls hF hw (lv_sub hl [1, 0] rfl)
set_option maxRecDepth 20000 in
theorem CX9_settles (l : Launch) (D : va_G) (C : Nat → ClassId) (q_ q_owes q_denies q_debt q_cut q_sight q_event q_book q_text q_path q_ring q_balance q_left q_sum q_parts q_group q_payment q_then q_image q_tapeSort q_tapeSize q_items : Nat) (u_people : Int32) (u_debts : Int32) (u_cuts : Int32) (u_seen : Int32) (u_events : Int32) (u_inBook : Int32) (u_texted : Int32) (u_rule : Int32) (u_rings : Int32) (u_size : Int32) (u_least : Int32) (u_worth : Int64) (u_groups : Int32) (u_paid : Int32) (u_imaged : Int32) (u_owes : (Nat → Int32)) (u_debt : (Nat → Int32)) (u_balance : (Nat → Int32)) (u_left : (Nat → Int32)) (u_sum : (Nat → Int32)) (u_parts : (Nat → Int32)) (u_group : (Nat → Int32)) (u_payment : (Nat → Int32)) (z : (Int32 × Int32 × Int32 × Int32 × (Nat → Int32) × (Nat → Int32) × (Nat → Int32) × (Nat → Int32) × (Nat → Int32) × (Nat → Int32) × (Nat → Int32) × (Nat → Int32))) (hF : fX9_settles u_people u_debts u_owes u_debt u_balance u_left u_sum u_parts u_group u_payment = some z) : Ct l yX9_settles cX9_settles 2 (some .boolean) 4 D C [.ref q_] [(q_, .inr (9, [.int u_people, .ref q_owes, .ref q_denies, .int u_debts, .ref q_debt, .int u_cuts, .ref q_cut, .int u_seen, .ref q_sight, .int u_events, .ref q_event, .int u_inBook, .ref q_book, .int u_texted, .ref q_text, .ref q_path, .int u_rule, .int u_rings, .int u_size, .int u_least, .long u_worth, .ref q_ring, .ref q_balance, .ref q_left, .ref q_sum, .ref q_parts, .int u_groups, .ref q_group, .int u_paid, .ref q_payment, .ref q_then, .int u_imaged, .ref q_image, .ref q_tapeSort, .ref q_tapeSize, .ref q_items])), (q_owes, .inl (C 0, 36, .inl u_owes)), (q_debt, .inl (C 0, 30, .inl u_debt)), (q_balance, .inl (C 0, 6, .inl u_balance)), (q_left, .inl (C 0, 6, .inl u_left)), (q_sum, .inl (C 0, 64, .inl u_sum)), (q_parts, .inl (C 0, 64, .inl u_parts)), (q_group, .inl (C 0, 3, .inl u_group)), (q_payment, .inl (C 0, 30, .inl u_payment))] [(q_, .inr (9, [.int u_people, .ref q_owes, .ref q_denies, .int z.2.1, .ref q_debt, .int u_cuts, .ref q_cut, .int u_seen, .ref q_sight, .int u_events, .ref q_event, .int u_inBook, .ref q_book, .int u_texted, .ref q_text, .ref q_path, .int u_rule, .int u_rings, .int u_size, .int u_least, .long u_worth, .ref q_ring, .ref q_balance, .ref q_left, .ref q_sum, .ref q_parts, .int z.2.2.1, .ref q_group, .int z.2.2.2.1, .ref q_payment, .ref q_then, .int u_imaged, .ref q_image, .ref q_tapeSort, .ref q_tapeSize, .ref q_items])), (q_owes, .inl (C 0, 36, .inl z.2.2.2.2.1)), (q_debt, .inl (C 0, 30, .inl z.2.2.2.2.2.1)), (q_balance, .inl (C 0, 6, .inl z.2.2.2.2.2.2.1)), (q_left, .inl (C 0, 6, .inl z.2.2.2.2.2.2.2.1)), (q_sum, .inl (C 0, 64, .inl z.2.2.2.2.2.2.2.2.1)), (q_parts, .inl (C 0, 64, .inl z.2.2.2.2.2.2.2.2.2.1)), (q_group, .inl (C 0, 3, .inl z.2.2.2.2.2.2.2.2.2.2.1)), (q_payment, .inl (C 0, 30, .inl z.2.2.2.2.2.2.2.2.2.2.2))] (some (.int z.1)) := by
  refine Ct_of (by decide) (Nat.le_of_ble_eq_true rfl) ?_
  intro p e R s m args below meth c A Q H locs ls cx hw hl hret
  have cx : CX p m c s args RX9 cX9_settles 2 D C A R 4 := cx
  have hx := cx.1
  have hb := cx.2.1
  have hl : lv_has ls 2 [(0, .ref q_)] := hl
  rw [fX9_settles.eq_1] at hF
  refine lv_aload_n hx hb dX9_settles_0 rfl (lv_at hl 0 rfl) ?_
  obtain ⟨z1, hz1, hF⟩ := ob hF
  refine cV (wr := [(q_debt, .inl (C 0, 30, .inl u_debt))]) (w2 := [(q_, .inr (9, [.int u_people, .ref q_owes, .ref q_denies, .int u_debts, .ref q_debt, .int u_cuts, .ref q_cut, .int u_seen, .ref q_sight, .int u_events, .ref q_event, .int u_inBook, .ref q_book, .int u_texted, .ref q_text, .ref q_path, .int u_rule, .int u_rings, .int u_size, .int u_least, .long u_worth, .ref q_ring, .ref q_balance, .ref q_left, .ref q_sum, .ref q_parts, .int z1.1, .ref q_group, .int z1.2.1, .ref q_payment, .ref q_then, .int u_imaged, .ref q_image, .ref q_tapeSort, .ref q_tapeSize, .ref q_items])), (q_owes, .inl (C 0, 36, .inl u_owes)), (q_debt, .inl (C 0, 30, .inl u_debt)), (q_balance, .inl (C 0, 6, .inl z1.2.2.1)), (q_left, .inl (C 0, 6, .inl z1.2.2.2.1)), (q_sum, .inl (C 0, 64, .inl z1.2.2.2.2.1)), (q_parts, .inl (C 0, 64, .inl z1.2.2.2.2.2.1)), (q_group, .inl (C 0, 3, .inl z1.2.2.2.2.2.2.1)), (q_payment, .inl (C 0, 30, .inl z1.2.2.2.2.2.2.2))]) (st2 := []) cx (CX9_payments l D C q_ q_owes q_denies q_debt q_cut q_sight q_event q_book q_text q_path q_ring q_balance q_left q_sum q_parts q_group q_payment q_then q_image q_tapeSort q_tapeSize q_items u_people u_debts u_cuts u_seen u_events u_inBook u_texted u_rule u_rings u_size u_least u_worth u_groups u_paid u_imaged u_owes u_balance u_left u_sum u_parts u_group u_payment z1 hz1) lk_X9_192 my_X9_payments ml_X9_payments ⟨by decide, by decide⟩ hw [0, 1, 3, 4, 5, 6, 7, 8] [2] [1, 2, 0, 3, 4, 5, 6, 7, 8] rfl rfl (by decide) rfl rfl rfl rfl (Nat.le_of_ble_eq_true rfl) dX9_settles_1 rfl (fun H locs hw => ?_) hl.1
  refine lv_iconst (v := 0) hx hb dX9_settles_4 (by decide) ?_
  refine lv_istore_n (lv' := [(1, .int 0), (0, .ref q_)]) hx hb dX9_settles_5 rfl hl (by decide) rfl (fun ls hl => ?_)
  refine LX9_settles_6 cx hret (fun H locs ls hF hw hl => ?_) 400 0 H locs ls hF hw (lv_sub hl [1, 0] rfl)
  · refine lv_iconst (v := 0) hx hb dX9_settles_38 (by decide) ?_
    refine lv_istore_n (lv' := [(1, .int 0), (0, .ref q_)]) hx hb dX9_settles_39 rfl hl (by decide) rfl (fun ls hl => ?_)
    refine LX9_settles_40 cx hret (fun u_owes_8 H locs ls hF hw hl => ?_) 400 0 u_owes H locs ls hF hw (lv_sub hl [1, 0] rfl)
    · refine lv_aload_n hx hb dX9_settles_59 rfl (lv_at hl 0 rfl) ?_
      refine lv_iconst (v := 0) hx hb dX9_settles_60 (by decide) ?_
      refine r_put (ci := 9) (w2 := [(q_, .inr (9, [.int u_people, .ref q_owes, .ref q_denies, .int 0, .ref q_debt, .int u_cuts, .ref q_cut, .int u_seen, .ref q_sight, .int u_events, .ref q_event, .int u_inBook, .ref q_book, .int u_texted, .ref q_text, .ref q_path, .int u_rule, .int u_rings, .int u_size, .int u_least, .long u_worth, .ref q_ring, .ref q_balance, .ref q_left, .ref q_sum, .ref q_parts, .int z1.1, .ref q_group, .int z1.2.1, .ref q_payment, .ref q_then, .int u_imaged, .ref q_image, .ref q_tapeSort, .ref q_tapeSize, .ref q_items])), (q_owes, .inl (C 0, 36, .inl u_owes_8)), (q_debt, .inl (C 0, 30, .inl u_debt)), (q_balance, .inl (C 0, 6, .inl z1.2.2.1)), (q_left, .inl (C 0, 6, .inl z1.2.2.2.1)), (q_sum, .inl (C 0, 64, .inl z1.2.2.2.2.1)), (q_parts, .inl (C 0, 64, .inl z1.2.2.2.2.2.1)), (q_group, .inl (C 0, 3, .inl z1.2.2.2.2.2.2.1)), (q_payment, .inl (C 0, 30, .inl z1.2.2.2.2.2.2.2))]) cx hw iX9 tyX9_ok nmX9 0 3 rfl rfl (by decide) wf_X9_88 rfl rfl rfl rfl (Nat.le_of_ble_eq_true rfl) dX9_settles_61 rfl (fun H locs hw => ?_)
      refine lv_iconst (v := 0) hx hb dX9_settles_64 (by decide) ?_
      refine lv_istore_n (lv' := [(1, .int 0), (0, .ref q_)]) hx hb dX9_settles_65 rfl hl (by decide) rfl (fun ls hl => ?_)
      refine LX9_settles_66 cx hret 400 0 0 u_owes_8 u_debt H locs ls hF hw (lv_sub hl [1, 0] rfl)
theorem lk_X9_201 : Cond.methodLink RX9 201 yX9_settles ∈ gdt := gdt_of 1111 (by decide +kernel) (by decide +kernel)
theorem my_X9_settles : (yX9_settles.cls ≠ "java/lang/invoke/MethodHandle" ∧ yX9_settles.cls ≠ "java/lang/invoke/VarHandle") ∧ Cond.instanceMethod yX9_settles ∈ gdt ∧ Cond.selects yX9_settles.cls yX9_settles yX9_settles ∈ gdt ∧ Cond.initialized yX9_settles.cls ∈ gdt ∧ Cond.code yX9_settles cX9_settles 2 (some .boolean) ∈ gdt := ⟨⟨by decide +kernel, by decide +kernel⟩, gdt_of 1113 (by decide +kernel) (by decide +kernel), gdt_of 52 (by decide +kernel) (by decide +kernel), gdt_of 77 (by decide +kernel) (by decide +kernel), gdt_of 1114 (by decide +kernel) (by decide +kernel)⟩
theorem ml_X9_settles : (parseMethodDescriptor yX9_settles.desc).map (fun d => d.parameters.length) = some 0 := by decide +kernel
theorem dX9_settle_0 : decode cX9_settle 0 = .ok (.aload_n 0, 1) := by decide +kernel
theorem dX9_settle_1 : decode cX9_settle 1 = .ok (.getfield 88, 3) := by decide +kernel
theorem dX9_settle_4 : decode cX9_settle 4 = .ok (.istore_n 1, 1) := by decide +kernel
theorem dX9_settle_5 : decode cX9_settle 5 = .ok (.aload_n 0, 1) := by decide +kernel
theorem dX9_settle_6 : decode cX9_settle 6 = .ok (.invokevirtual 201, 3) := by decide +kernel
theorem dX9_settle_9 : decode cX9_settle 9 = .ok (.ifCond .eq 7, 3) := by decide +kernel
theorem dX9_settle_12 : decode cX9_settle 12 = .ok (.iload_n 1, 1) := by decide +kernel
theorem dX9_settle_13 : decode cX9_settle 13 = .ok (.goto 5, 3) := by decide +kernel
theorem dX9_settle_16 : decode cX9_settle 16 = .ok (.bipush (-3), 2) := by decide +kernel
theorem dX9_settle_18 : decode cX9_settle 18 = .ok (.ireturn, 1) := by decide +kernel
def fX9_settle (u_people : Int32) (u_debts : Int32) (u_owes : (Nat → Int32)) (u_debt : (Nat → Int32)) (u_balance : (Nat → Int32)) (u_left : (Nat → Int32)) (u_sum : (Nat → Int32)) (u_parts : (Nat → Int32)) (u_group : (Nat → Int32)) (u_payment : (Nat → Int32)) : Option (Int32 × Int32 × Int32 × Int32 × (Nat → Int32) × (Nat → Int32) × (Nat → Int32) × (Nat → Int32) × (Nat → Int32) × (Nat → Int32) × (Nat → Int32) × (Nat → Int32)) := (fX9_settles u_people u_debts u_owes u_debt u_balance u_left u_sum u_parts u_group u_payment).bind (fun z1 => if z1.1 = 0 then (some ((-3), z1.2.1, z1.2.2.1, z1.2.2.2.1, z1.2.2.2.2.1, z1.2.2.2.2.2.1, z1.2.2.2.2.2.2.1, z1.2.2.2.2.2.2.2.1, z1.2.2.2.2.2.2.2.2.1, z1.2.2.2.2.2.2.2.2.2.1, z1.2.2.2.2.2.2.2.2.2.2.1, z1.2.2.2.2.2.2.2.2.2.2.2)) else (some (u_debts, z1.2.1, z1.2.2.1, z1.2.2.2.1, z1.2.2.2.2.1, z1.2.2.2.2.2.1, z1.2.2.2.2.2.2.1, z1.2.2.2.2.2.2.2.1, z1.2.2.2.2.2.2.2.2.1, z1.2.2.2.2.2.2.2.2.2.1, z1.2.2.2.2.2.2.2.2.2.2.1, z1.2.2.2.2.2.2.2.2.2.2.2)))
set_option maxRecDepth 20000 in
theorem CX9_settle (l : Launch) (D : va_G) (C : Nat → ClassId) (q_ q_owes q_denies q_debt q_cut q_sight q_event q_book q_text q_path q_ring q_balance q_left q_sum q_parts q_group q_payment q_then q_image q_tapeSort q_tapeSize q_items : Nat) (u_people : Int32) (u_debts : Int32) (u_cuts : Int32) (u_seen : Int32) (u_events : Int32) (u_inBook : Int32) (u_texted : Int32) (u_rule : Int32) (u_rings : Int32) (u_size : Int32) (u_least : Int32) (u_worth : Int64) (u_groups : Int32) (u_paid : Int32) (u_imaged : Int32) (u_owes : (Nat → Int32)) (u_debt : (Nat → Int32)) (u_balance : (Nat → Int32)) (u_left : (Nat → Int32)) (u_sum : (Nat → Int32)) (u_parts : (Nat → Int32)) (u_group : (Nat → Int32)) (u_payment : (Nat → Int32)) (z : (Int32 × Int32 × Int32 × Int32 × (Nat → Int32) × (Nat → Int32) × (Nat → Int32) × (Nat → Int32) × (Nat → Int32) × (Nat → Int32) × (Nat → Int32) × (Nat → Int32))) (hF : fX9_settle u_people u_debts u_owes u_debt u_balance u_left u_sum u_parts u_group u_payment = some z) : Ct l yX9_settle cX9_settle 2 (some .int) 5 D C [.ref q_] [(q_, .inr (9, [.int u_people, .ref q_owes, .ref q_denies, .int u_debts, .ref q_debt, .int u_cuts, .ref q_cut, .int u_seen, .ref q_sight, .int u_events, .ref q_event, .int u_inBook, .ref q_book, .int u_texted, .ref q_text, .ref q_path, .int u_rule, .int u_rings, .int u_size, .int u_least, .long u_worth, .ref q_ring, .ref q_balance, .ref q_left, .ref q_sum, .ref q_parts, .int u_groups, .ref q_group, .int u_paid, .ref q_payment, .ref q_then, .int u_imaged, .ref q_image, .ref q_tapeSort, .ref q_tapeSize, .ref q_items])), (q_owes, .inl (C 0, 36, .inl u_owes)), (q_debt, .inl (C 0, 30, .inl u_debt)), (q_balance, .inl (C 0, 6, .inl u_balance)), (q_left, .inl (C 0, 6, .inl u_left)), (q_sum, .inl (C 0, 64, .inl u_sum)), (q_parts, .inl (C 0, 64, .inl u_parts)), (q_group, .inl (C 0, 3, .inl u_group)), (q_payment, .inl (C 0, 30, .inl u_payment))] [(q_, .inr (9, [.int u_people, .ref q_owes, .ref q_denies, .int z.2.1, .ref q_debt, .int u_cuts, .ref q_cut, .int u_seen, .ref q_sight, .int u_events, .ref q_event, .int u_inBook, .ref q_book, .int u_texted, .ref q_text, .ref q_path, .int u_rule, .int u_rings, .int u_size, .int u_least, .long u_worth, .ref q_ring, .ref q_balance, .ref q_left, .ref q_sum, .ref q_parts, .int z.2.2.1, .ref q_group, .int z.2.2.2.1, .ref q_payment, .ref q_then, .int u_imaged, .ref q_image, .ref q_tapeSort, .ref q_tapeSize, .ref q_items])), (q_owes, .inl (C 0, 36, .inl z.2.2.2.2.1)), (q_debt, .inl (C 0, 30, .inl z.2.2.2.2.2.1)), (q_balance, .inl (C 0, 6, .inl z.2.2.2.2.2.2.1)), (q_left, .inl (C 0, 6, .inl z.2.2.2.2.2.2.2.1)), (q_sum, .inl (C 0, 64, .inl z.2.2.2.2.2.2.2.2.1)), (q_parts, .inl (C 0, 64, .inl z.2.2.2.2.2.2.2.2.2.1)), (q_group, .inl (C 0, 3, .inl z.2.2.2.2.2.2.2.2.2.2.1)), (q_payment, .inl (C 0, 30, .inl z.2.2.2.2.2.2.2.2.2.2.2))] (some (.int z.1)) := by
  refine Ct_of (by decide) (Nat.le_of_ble_eq_true rfl) ?_
  intro p e R s m args below meth c A Q H locs ls cx hw hl hret
  have cx : CX p m c s args RX9 cX9_settle 2 D C A R 5 := cx
  have hx := cx.1
  have hb := cx.2.1
  have hl : lv_has ls 2 [(0, .ref q_)] := hl
  rw [fX9_settle.eq_1] at hF
  refine lv_aload_n hx hb dX9_settle_0 rfl (lv_at hl 0 rfl) ?_
  refine r_get (ci := 9) (v := .int u_debts) cx hw iX9 0 3 rfl rfl (by decide) wf_X9_88 rfl dX9_settle_1 ?_
  refine lv_istore_n (lv' := [(1, .int u_debts), (0, .ref q_)]) hx hb dX9_settle_4 rfl hl (by decide) rfl (fun ls hl => ?_)
  refine lv_aload_n hx hb dX9_settle_5 rfl (lv_at hl 1 rfl) ?_
  obtain ⟨z1, hz1, hF⟩ := ob hF
  refine cV (wr := []) (w2 := [(q_, .inr (9, [.int u_people, .ref q_owes, .ref q_denies, .int z1.2.1, .ref q_debt, .int u_cuts, .ref q_cut, .int u_seen, .ref q_sight, .int u_events, .ref q_event, .int u_inBook, .ref q_book, .int u_texted, .ref q_text, .ref q_path, .int u_rule, .int u_rings, .int u_size, .int u_least, .long u_worth, .ref q_ring, .ref q_balance, .ref q_left, .ref q_sum, .ref q_parts, .int z1.2.2.1, .ref q_group, .int z1.2.2.2.1, .ref q_payment, .ref q_then, .int u_imaged, .ref q_image, .ref q_tapeSort, .ref q_tapeSize, .ref q_items])), (q_owes, .inl (C 0, 36, .inl z1.2.2.2.2.1)), (q_debt, .inl (C 0, 30, .inl z1.2.2.2.2.2.1)), (q_balance, .inl (C 0, 6, .inl z1.2.2.2.2.2.2.1)), (q_left, .inl (C 0, 6, .inl z1.2.2.2.2.2.2.2.1)), (q_sum, .inl (C 0, 64, .inl z1.2.2.2.2.2.2.2.2.1)), (q_parts, .inl (C 0, 64, .inl z1.2.2.2.2.2.2.2.2.2.1)), (q_group, .inl (C 0, 3, .inl z1.2.2.2.2.2.2.2.2.2.2.1)), (q_payment, .inl (C 0, 30, .inl z1.2.2.2.2.2.2.2.2.2.2.2))]) (st2 := [.int z1.1]) cx (CX9_settles l D C q_ q_owes q_denies q_debt q_cut q_sight q_event q_book q_text q_path q_ring q_balance q_left q_sum q_parts q_group q_payment q_then q_image q_tapeSort q_tapeSize q_items u_people u_debts u_cuts u_seen u_events u_inBook u_texted u_rule u_rings u_size u_least u_worth u_groups u_paid u_imaged u_owes u_debt u_balance u_left u_sum u_parts u_group u_payment z1 hz1) lk_X9_201 my_X9_settles ml_X9_settles ⟨by decide, by decide⟩ hw [0, 1, 2, 3, 4, 5, 6, 7, 8] [] [0, 1, 2, 3, 4, 5, 6, 7, 8] rfl rfl (by decide) rfl rfl rfl rfl (Nat.le_of_ble_eq_true rfl) dX9_settle_6 rfl (fun H locs hw => ?_) hl.1
  refine lv_if_eq (tgt := 16) hx hb dX9_settle_9 (by decide) (fun c2 => ?_) (fun c2 => ?_)
  · replace hF := oi_t c2 hF
    refine lv_bipush (v := (-3)) hx hb dX9_settle_16 (by decide) ?_
    obtain rfl := Option.some.inj hF
    exact rt_i hret hw rfl dX9_settle_18
  · replace hF := oi_f c2 hF
    refine lv_iload_n hx hb dX9_settle_12 rfl (lv_at hl 0 rfl) ?_
    refine lv_goto (tgt := 18) hx hb dX9_settle_13 (by decide) ?_
    obtain rfl := Option.some.inj hF
    exact rt_i hret hw rfl dX9_settle_18
theorem dX9_total_0 : decode cX9_total 0 = .ok (.iconst 0, 1) := by decide +kernel
theorem dX9_total_1 : decode cX9_total 1 = .ok (.istore_n 1, 1) := by decide +kernel
theorem dX9_total_2 : decode cX9_total 2 = .ok (.iconst 0, 1) := by decide +kernel
theorem dX9_total_3 : decode cX9_total 3 = .ok (.istore_n 2, 1) := by decide +kernel
theorem dX9_total_4 : decode cX9_total 4 = .ok (.iload_n 2, 1) := by decide +kernel
theorem dX9_total_5 : decode cX9_total 5 = .ok (.aload_n 0, 1) := by decide +kernel
theorem dX9_total_6 : decode cX9_total 6 = .ok (.getfield 88, 3) := by decide +kernel
theorem dX9_total_9 : decode cX9_total 9 = .ok (.if_icmp .ge 23, 3) := by decide +kernel
theorem dX9_total_12 : decode cX9_total 12 = .ok (.iload_n 1, 1) := by decide +kernel
theorem dX9_total_13 : decode cX9_total 13 = .ok (.aload_n 0, 1) := by decide +kernel
theorem dX9_total_14 : decode cX9_total 14 = .ok (.getfield 9, 3) := by decide +kernel
theorem dX9_total_17 : decode cX9_total 17 = .ok (.aload_n 0, 1) := by decide +kernel
theorem dX9_total_18 : decode cX9_total 18 = .ok (.getfield 18, 3) := by decide +kernel
theorem dX9_total_21 : decode cX9_total 21 = .ok (.iload_n 2, 1) := by decide +kernel
theorem dX9_total_22 : decode cX9_total 22 = .ok (.iaload, 1) := by decide +kernel
theorem dX9_total_23 : decode cX9_total 23 = .ok (.iaload, 1) := by decide +kernel
theorem dX9_total_24 : decode cX9_total 24 = .ok (.iadd, 1) := by decide +kernel
theorem dX9_total_25 : decode cX9_total 25 = .ok (.istore_n 1, 1) := by decide +kernel
theorem dX9_total_26 : decode cX9_total 26 = .ok (.iinc 2 1, 3) := by decide +kernel
theorem dX9_total_29 : decode cX9_total 29 = .ok (.goto (-25), 3) := by decide +kernel
theorem dX9_total_32 : decode cX9_total 32 = .ok (.iload_n 1, 1) := by decide +kernel
theorem dX9_total_33 : decode cX9_total 33 = .ok (.ireturn, 1) := by decide +kernel
def fX9_total_L4 (u_debts : Int32) (u_owes : (Nat → Int32)) (u_debt : (Nat → Int32)) : Nat → Int32 → Int32 → Option Int32
  | 0, _, _ => none
  | n + 1, x1, x2 => if u_debts ≤ x2 then (some x1) else (gA x2 30 (gA (u_debt (x2).toNatClampNeg) 36 (fX9_total_L4 u_debts u_owes u_debt n (x1 + (u_owes (u_debt (x2).toNatClampNeg).toNatClampNeg)) (x2 + 1))))
def fX9_total (u_debts : Int32) (u_owes : (Nat → Int32)) (u_debt : (Nat → Int32)) : Option Int32 := fX9_total_L4 u_debts u_owes u_debt 400 0 0
set_option maxRecDepth 20000 in
theorem LX9_total_4 {p : Program} {l : Launch} {e : Env} {R : Room} {s : State} {m : MethodId} {args : Array Value} {below : List Frame} {meth : Method} {c : Code} {Q : State → Prop} {D : va_G} {C : Nat → ClassId} {A : Nat → Prop} (cx : CX p m c s args RX9 cX9_total 3 D C A R 1) {q_ q_owes q_denies q_debt q_cut q_sight q_event q_book q_text q_path q_ring q_balance q_left q_sum q_parts q_group q_payment q_then q_image q_tapeSort q_tapeSize q_items : Nat} {u_people : Int32} {u_debts : Int32} {u_cuts : Int32} {u_seen : Int32} {u_events : Int32} {u_inBook : Int32} {u_texted : Int32} {u_rule : Int32} {u_rings : Int32} {u_size : Int32} {u_least : Int32} {u_worth : Int64} {u_groups : Int32} {u_paid : Int32} {u_imaged : Int32} {u_owes : (Nat → Int32)} {u_debt : (Nat → Int32)} {z : Int32} (hret : RT p l e R s m args below meth c Q D A cX9_total (some .int) [(q_, .inr (9, [.int u_people, .ref q_owes, .ref q_denies, .int u_debts, .ref q_debt, .int u_cuts, .ref q_cut, .int u_seen, .ref q_sight, .int u_events, .ref q_event, .int u_inBook, .ref q_book, .int u_texted, .ref q_text, .ref q_path, .int u_rule, .int u_rings, .int u_size, .int u_least, .long u_worth, .ref q_ring, .ref q_balance, .ref q_left, .ref q_sum, .ref q_parts, .int u_groups, .ref q_group, .int u_paid, .ref q_payment, .ref q_then, .int u_imaged, .ref q_image, .ref q_tapeSort, .ref q_tapeSize, .ref q_items])), (q_owes, .inl (C 0, 36, .inl u_owes)), (q_debt, .inl (C 0, 30, .inl u_debt))] (some (.int z))) :
    ∀ (n : Nat) (x1 : Int32) (x2 : Int32) (H : Heap) (locs : List Loc) (ls : Array Slot), fX9_total_L4 u_debts u_owes u_debt n x1 x2 = some z → HW D A s.heap H locs [(q_, .inr (9, [.int u_people, .ref q_owes, .ref q_denies, .int u_debts, .ref q_debt, .int u_cuts, .ref q_cut, .int u_seen, .ref q_sight, .int u_events, .ref q_event, .int u_inBook, .ref q_book, .int u_texted, .ref q_text, .ref q_path, .int u_rule, .int u_rings, .int u_size, .int u_least, .long u_worth, .ref q_ring, .ref q_balance, .ref q_left, .ref q_sum, .ref q_parts, .int u_groups, .ref q_group, .int u_paid, .ref q_payment, .ref q_then, .int u_imaged, .ref q_image, .ref q_tapeSort, .ref q_tapeSize, .ref q_items])), (q_owes, .inl (C 0, 36, .inl u_owes)), (q_debt, .inl (C 0, 30, .inl u_debt))] → lv_has ls 3 [(0, .ref q_), (1, .int x1), (2, .int x2)] → W p l e R s m args below meth c H locs 0 0 Q (F0 m 4 ls []) := by
  have hx := cx.1
  have hb := cx.2.1
  intro n
  induction n with
  | zero => intro x1 x2 H locs ls hF; cases hF
  | succ n ih =>
    intro x1 x2 H locs ls hF hw hl
    rw [fX9_total_L4.eq_2] at hF
    refine lv_iload_n hx hb dX9_total_4 rfl (lv_at hl 2 rfl) ?_
    refine lv_aload_n hx hb dX9_total_5 rfl (lv_at hl 0 rfl) ?_
    refine r_get (ci := 9) (v := .int u_debts) cx hw iX9 0 3 rfl rfl (by decide) wf_X9_88 rfl dX9_total_6 ?_
    refine lv_icmp_ge (tgt := 32) hx hb dX9_total_9 (by decide) (fun c1 => ?_) (fun c1 => ?_)
    · replace hF := oi_t c1 hF
      refine lv_iload_n hx hb dX9_total_32 rfl (lv_at hl 1 rfl) ?_
      obtain rfl := Option.some.inj hF
      exact rt_i hret hw rfl dX9_total_33
    · replace hF := oi_f c1 hF
      refine lv_iload_n hx hb dX9_total_12 rfl (lv_at hl 1 rfl) ?_
      refine lv_aload_n hx hb dX9_total_13 rfl (lv_at hl 0 rfl) ?_
      refine r_get (ci := 9) (v := .ref q_owes) cx hw iX9 0 1 rfl rfl (by decide) wf_X9_9 rfl dX9_total_14 ?_
      refine lv_aload_n hx hb dX9_total_17 rfl (lv_at hl 0 rfl) ?_
      refine r_get (ci := 9) (v := .ref q_debt) cx hw iX9 0 4 rfl rfl (by decide) wf_X9_18 rfl dX9_total_18 ?_
      refine lv_iload_n hx hb dX9_total_21 rfl (lv_at hl 2 rfl) ?_
      obtain ⟨g2, hF⟩ := gA_s hF
      refine r_iald cx hw 2 rfl g2 dX9_total_22 ?_
      obtain ⟨g3, hF⟩ := gA_s hF
      refine r_iald cx hw 1 rfl g3 dX9_total_23 ?_
      refine lv_iadd hx hb dX9_total_24 ?_
      refine lv_istore_n (lv' := [(1, .int (x1 + (u_owes (u_debt (x2).toNatClampNeg).toNatClampNeg))), (0, .ref q_), (2, .int x2)]) hx hb dX9_total_25 rfl hl (by decide) rfl (fun ls hl => ?_)
      refine lv_iinc (v := x2 + 1) (lv' := [(2, .int (x2 + 1)), (1, .int (x1 + (u_owes (u_debt (x2).toNatClampNeg).toNatClampNeg))), (0, .ref q_)]) hx hb dX9_total_26 hl (k := 2) rfl rfl (by decide) rfl (fun ls hl => ?_)
      refine lv_goto (tgt := 4) hx hb dX9_total_29 (by decide) ?_
      exact ih (x1 + (u_owes (u_debt (x2).toNatClampNeg).toNatClampNeg)) (x2 + 1) H locs ls hF hw (lv_sub hl [2, 1, 0] rfl)
set_option maxRecDepth 20000 in
theorem CX9_total (l : Launch) (D : va_G) (C : Nat → ClassId) (q_ q_owes q_denies q_debt q_cut q_sight q_event q_book q_text q_path q_ring q_balance q_left q_sum q_parts q_group q_payment q_then q_image q_tapeSort q_tapeSize q_items : Nat) (u_people : Int32) (u_debts : Int32) (u_cuts : Int32) (u_seen : Int32) (u_events : Int32) (u_inBook : Int32) (u_texted : Int32) (u_rule : Int32) (u_rings : Int32) (u_size : Int32) (u_least : Int32) (u_worth : Int64) (u_groups : Int32) (u_paid : Int32) (u_imaged : Int32) (u_owes : (Nat → Int32)) (u_debt : (Nat → Int32)) (z : Int32) (hF : fX9_total u_debts u_owes u_debt = some z) : Ct l yX9_total cX9_total 3 (some .int) 1 D C [.ref q_] [(q_, .inr (9, [.int u_people, .ref q_owes, .ref q_denies, .int u_debts, .ref q_debt, .int u_cuts, .ref q_cut, .int u_seen, .ref q_sight, .int u_events, .ref q_event, .int u_inBook, .ref q_book, .int u_texted, .ref q_text, .ref q_path, .int u_rule, .int u_rings, .int u_size, .int u_least, .long u_worth, .ref q_ring, .ref q_balance, .ref q_left, .ref q_sum, .ref q_parts, .int u_groups, .ref q_group, .int u_paid, .ref q_payment, .ref q_then, .int u_imaged, .ref q_image, .ref q_tapeSort, .ref q_tapeSize, .ref q_items])), (q_owes, .inl (C 0, 36, .inl u_owes)), (q_debt, .inl (C 0, 30, .inl u_debt))] [(q_, .inr (9, [.int u_people, .ref q_owes, .ref q_denies, .int u_debts, .ref q_debt, .int u_cuts, .ref q_cut, .int u_seen, .ref q_sight, .int u_events, .ref q_event, .int u_inBook, .ref q_book, .int u_texted, .ref q_text, .ref q_path, .int u_rule, .int u_rings, .int u_size, .int u_least, .long u_worth, .ref q_ring, .ref q_balance, .ref q_left, .ref q_sum, .ref q_parts, .int u_groups, .ref q_group, .int u_paid, .ref q_payment, .ref q_then, .int u_imaged, .ref q_image, .ref q_tapeSort, .ref q_tapeSize, .ref q_items])), (q_owes, .inl (C 0, 36, .inl u_owes)), (q_debt, .inl (C 0, 30, .inl u_debt))] (some (.int z)) := by
  refine Ct_of (by decide) (Nat.le_of_ble_eq_true rfl) ?_
  intro p e R s m args below meth c A Q H locs ls cx hw hl hret
  have cx : CX p m c s args RX9 cX9_total 3 D C A R 1 := cx
  have hx := cx.1
  have hb := cx.2.1
  have hl : lv_has ls 3 [(0, .ref q_)] := hl
  rw [fX9_total.eq_1] at hF
  refine lv_iconst (v := 0) hx hb dX9_total_0 (by decide) ?_
  refine lv_istore_n (lv' := [(1, .int 0), (0, .ref q_)]) hx hb dX9_total_1 rfl hl (by decide) rfl (fun ls hl => ?_)
  refine lv_iconst (v := 0) hx hb dX9_total_2 (by decide) ?_
  refine lv_istore_n (lv' := [(2, .int 0), (1, .int 0), (0, .ref q_)]) hx hb dX9_total_3 rfl hl (by decide) rfl (fun ls hl => ?_)
  refine LX9_total_4 cx hret 400 0 0 H locs ls hF hw (lv_sub hl [2, 1, 0] rfl)
theorem dX9_above_0 : decode cX9_above 0 = .ok (.iconst 0, 1) := by decide +kernel
theorem dX9_above_1 : decode cX9_above 1 = .ok (.istore_n 1, 1) := by decide +kernel
theorem dX9_above_2 : decode cX9_above 2 = .ok (.iconst 0, 1) := by decide +kernel
theorem dX9_above_3 : decode cX9_above 3 = .ok (.istore_n 2, 1) := by decide +kernel
theorem dX9_above_4 : decode cX9_above 4 = .ok (.iload_n 2, 1) := by decide +kernel
theorem dX9_above_5 : decode cX9_above 5 = .ok (.aload_n 0, 1) := by decide +kernel
theorem dX9_above_6 : decode cX9_above 6 = .ok (.getfield 76, 3) := by decide +kernel
theorem dX9_above_9 : decode cX9_above 9 = .ok (.if_icmp .ge 27, 3) := by decide +kernel
theorem dX9_above_12 : decode cX9_above 12 = .ok (.aload_n 0, 1) := by decide +kernel
theorem dX9_above_13 : decode cX9_above 13 = .ok (.getfield 45, 3) := by decide +kernel
theorem dX9_above_16 : decode cX9_above 16 = .ok (.iload_n 2, 1) := by decide +kernel
theorem dX9_above_17 : decode cX9_above 17 = .ok (.iaload, 1) := by decide +kernel
theorem dX9_above_18 : decode cX9_above 18 = .ok (.ifCond .le 12, 3) := by decide +kernel
theorem dX9_above_21 : decode cX9_above 21 = .ok (.iload_n 1, 1) := by decide +kernel
theorem dX9_above_22 : decode cX9_above 22 = .ok (.aload_n 0, 1) := by decide +kernel
theorem dX9_above_23 : decode cX9_above 23 = .ok (.getfield 45, 3) := by decide +kernel
theorem dX9_above_26 : decode cX9_above 26 = .ok (.iload_n 2, 1) := by decide +kernel
theorem dX9_above_27 : decode cX9_above 27 = .ok (.iaload, 1) := by decide +kernel
theorem dX9_above_28 : decode cX9_above 28 = .ok (.iadd, 1) := by decide +kernel
theorem dX9_above_29 : decode cX9_above 29 = .ok (.istore_n 1, 1) := by decide +kernel
theorem dX9_above_30 : decode cX9_above 30 = .ok (.iinc 2 1, 3) := by decide +kernel
theorem dX9_above_33 : decode cX9_above 33 = .ok (.goto (-29), 3) := by decide +kernel
theorem dX9_above_36 : decode cX9_above 36 = .ok (.iload_n 1, 1) := by decide +kernel
theorem dX9_above_37 : decode cX9_above 37 = .ok (.ireturn, 1) := by decide +kernel
def fX9_above_L4 (u_people : Int32) (u_left : (Nat → Int32)) : Nat → Int32 → Int32 → Option Int32
  | 0, _, _ => none
  | n + 1, x1, x2 => if u_people ≤ x2 then (some x1) else (gA x2 6 (if (u_left (x2).toNatClampNeg) ≤ 0 then (fX9_above_L4 u_people u_left n x1 (x2 + 1)) else (gA x2 6 (fX9_above_L4 u_people u_left n (x1 + (u_left (x2).toNatClampNeg)) (x2 + 1)))))
def fX9_above (u_people : Int32) (u_left : (Nat → Int32)) : Option Int32 := fX9_above_L4 u_people u_left 400 0 0
set_option maxRecDepth 20000 in
theorem LX9_above_4 {p : Program} {l : Launch} {e : Env} {R : Room} {s : State} {m : MethodId} {args : Array Value} {below : List Frame} {meth : Method} {c : Code} {Q : State → Prop} {D : va_G} {C : Nat → ClassId} {A : Nat → Prop} (cx : CX p m c s args RX9 cX9_above 3 D C A R 1) {q_ q_owes q_denies q_debt q_cut q_sight q_event q_book q_text q_path q_ring q_balance q_left q_sum q_parts q_group q_payment q_then q_image q_tapeSort q_tapeSize q_items : Nat} {u_people : Int32} {u_debts : Int32} {u_cuts : Int32} {u_seen : Int32} {u_events : Int32} {u_inBook : Int32} {u_texted : Int32} {u_rule : Int32} {u_rings : Int32} {u_size : Int32} {u_least : Int32} {u_worth : Int64} {u_groups : Int32} {u_paid : Int32} {u_imaged : Int32} {u_left : (Nat → Int32)} {z : Int32} (hret : RT p l e R s m args below meth c Q D A cX9_above (some .int) [(q_, .inr (9, [.int u_people, .ref q_owes, .ref q_denies, .int u_debts, .ref q_debt, .int u_cuts, .ref q_cut, .int u_seen, .ref q_sight, .int u_events, .ref q_event, .int u_inBook, .ref q_book, .int u_texted, .ref q_text, .ref q_path, .int u_rule, .int u_rings, .int u_size, .int u_least, .long u_worth, .ref q_ring, .ref q_balance, .ref q_left, .ref q_sum, .ref q_parts, .int u_groups, .ref q_group, .int u_paid, .ref q_payment, .ref q_then, .int u_imaged, .ref q_image, .ref q_tapeSort, .ref q_tapeSize, .ref q_items])), (q_left, .inl (C 0, 6, .inl u_left))] (some (.int z))) :
    ∀ (n : Nat) (x1 : Int32) (x2 : Int32) (H : Heap) (locs : List Loc) (ls : Array Slot), fX9_above_L4 u_people u_left n x1 x2 = some z → HW D A s.heap H locs [(q_, .inr (9, [.int u_people, .ref q_owes, .ref q_denies, .int u_debts, .ref q_debt, .int u_cuts, .ref q_cut, .int u_seen, .ref q_sight, .int u_events, .ref q_event, .int u_inBook, .ref q_book, .int u_texted, .ref q_text, .ref q_path, .int u_rule, .int u_rings, .int u_size, .int u_least, .long u_worth, .ref q_ring, .ref q_balance, .ref q_left, .ref q_sum, .ref q_parts, .int u_groups, .ref q_group, .int u_paid, .ref q_payment, .ref q_then, .int u_imaged, .ref q_image, .ref q_tapeSort, .ref q_tapeSize, .ref q_items])), (q_left, .inl (C 0, 6, .inl u_left))] → lv_has ls 3 [(0, .ref q_), (1, .int x1), (2, .int x2)] → W p l e R s m args below meth c H locs 0 0 Q (F0 m 4 ls []) := by
  have hx := cx.1
  have hb := cx.2.1
  intro n
  induction n with
  | zero => intro x1 x2 H locs ls hF; cases hF
  | succ n ih =>
    intro x1 x2 H locs ls hF hw hl
    rw [fX9_above_L4.eq_2] at hF
    refine lv_iload_n hx hb dX9_above_4 rfl (lv_at hl 2 rfl) ?_
    refine lv_aload_n hx hb dX9_above_5 rfl (lv_at hl 0 rfl) ?_
    refine r_get (ci := 9) (v := .int u_people) cx hw iX9 0 0 rfl rfl (by decide) wf_X9_76 rfl dX9_above_6 ?_
    refine lv_icmp_ge (tgt := 36) hx hb dX9_above_9 (by decide) (fun c1 => ?_) (fun c1 => ?_)
    · replace hF := oi_t c1 hF
      refine lv_iload_n hx hb dX9_above_36 rfl (lv_at hl 1 rfl) ?_
      obtain rfl := Option.some.inj hF
      exact rt_i hret hw rfl dX9_above_37
    · replace hF := oi_f c1 hF
      refine lv_aload_n hx hb dX9_above_12 rfl (lv_at hl 0 rfl) ?_
      refine r_get (ci := 9) (v := .ref q_left) cx hw iX9 0 23 rfl rfl (by decide) wf_X9_45 rfl dX9_above_13 ?_
      refine lv_iload_n hx hb dX9_above_16 rfl (lv_at hl 2 rfl) ?_
      obtain ⟨g2, hF⟩ := gA_s hF
      refine r_iald cx hw 1 rfl g2 dX9_above_17 ?_
      refine lv_if_le (tgt := 30) hx hb dX9_above_18 (by decide) (fun c3 => ?_) (fun c3 => ?_)
      · replace hF := oi_t c3 hF
        refine lv_iinc (v := x2 + 1) (lv' := [(2, .int (x2 + 1)), (0, .ref q_), (1, .int x1)]) hx hb dX9_above_30 hl (k := 2) rfl rfl (by decide) rfl (fun ls hl => ?_)
        refine lv_goto (tgt := 4) hx hb dX9_above_33 (by decide) ?_
        exact ih x1 (x2 + 1) H locs ls hF hw (lv_sub hl [1, 2, 0] rfl)
      · replace hF := oi_f c3 hF
        refine lv_iload_n hx hb dX9_above_21 rfl (lv_at hl 1 rfl) ?_
        refine lv_aload_n hx hb dX9_above_22 rfl (lv_at hl 0 rfl) ?_
        refine r_get (ci := 9) (v := .ref q_left) cx hw iX9 0 23 rfl rfl (by decide) wf_X9_45 rfl dX9_above_23 ?_
        refine lv_iload_n hx hb dX9_above_26 rfl (lv_at hl 2 rfl) ?_
        obtain ⟨g4, hF⟩ := gA_s hF
        refine r_iald cx hw 1 rfl g4 dX9_above_27 ?_
        refine lv_iadd hx hb dX9_above_28 ?_
        refine lv_istore_n (lv' := [(1, .int (x1 + (u_left (x2).toNatClampNeg))), (0, .ref q_), (2, .int x2)]) hx hb dX9_above_29 rfl hl (by decide) rfl (fun ls hl => ?_)
        refine lv_iinc (v := x2 + 1) (lv' := [(2, .int (x2 + 1)), (1, .int (x1 + (u_left (x2).toNatClampNeg))), (0, .ref q_)]) hx hb dX9_above_30 hl (k := 2) rfl rfl (by decide) rfl (fun ls hl => ?_)
        refine lv_goto (tgt := 4) hx hb dX9_above_33 (by decide) ?_
        exact ih (x1 + (u_left (x2).toNatClampNeg)) (x2 + 1) H locs ls hF hw (lv_sub hl [2, 1, 0] rfl)
set_option maxRecDepth 20000 in
theorem CX9_above (l : Launch) (D : va_G) (C : Nat → ClassId) (q_ q_owes q_denies q_debt q_cut q_sight q_event q_book q_text q_path q_ring q_balance q_left q_sum q_parts q_group q_payment q_then q_image q_tapeSort q_tapeSize q_items : Nat) (u_people : Int32) (u_debts : Int32) (u_cuts : Int32) (u_seen : Int32) (u_events : Int32) (u_inBook : Int32) (u_texted : Int32) (u_rule : Int32) (u_rings : Int32) (u_size : Int32) (u_least : Int32) (u_worth : Int64) (u_groups : Int32) (u_paid : Int32) (u_imaged : Int32) (u_left : (Nat → Int32)) (z : Int32) (hF : fX9_above u_people u_left = some z) : Ct l yX9_above cX9_above 3 (some .int) 1 D C [.ref q_] [(q_, .inr (9, [.int u_people, .ref q_owes, .ref q_denies, .int u_debts, .ref q_debt, .int u_cuts, .ref q_cut, .int u_seen, .ref q_sight, .int u_events, .ref q_event, .int u_inBook, .ref q_book, .int u_texted, .ref q_text, .ref q_path, .int u_rule, .int u_rings, .int u_size, .int u_least, .long u_worth, .ref q_ring, .ref q_balance, .ref q_left, .ref q_sum, .ref q_parts, .int u_groups, .ref q_group, .int u_paid, .ref q_payment, .ref q_then, .int u_imaged, .ref q_image, .ref q_tapeSort, .ref q_tapeSize, .ref q_items])), (q_left, .inl (C 0, 6, .inl u_left))] [(q_, .inr (9, [.int u_people, .ref q_owes, .ref q_denies, .int u_debts, .ref q_debt, .int u_cuts, .ref q_cut, .int u_seen, .ref q_sight, .int u_events, .ref q_event, .int u_inBook, .ref q_book, .int u_texted, .ref q_text, .ref q_path, .int u_rule, .int u_rings, .int u_size, .int u_least, .long u_worth, .ref q_ring, .ref q_balance, .ref q_left, .ref q_sum, .ref q_parts, .int u_groups, .ref q_group, .int u_paid, .ref q_payment, .ref q_then, .int u_imaged, .ref q_image, .ref q_tapeSort, .ref q_tapeSize, .ref q_items])), (q_left, .inl (C 0, 6, .inl u_left))] (some (.int z)) := by
  refine Ct_of (by decide) (Nat.le_of_ble_eq_true rfl) ?_
  intro p e R s m args below meth c A Q H locs ls cx hw hl hret
  have cx : CX p m c s args RX9 cX9_above 3 D C A R 1 := cx
  have hx := cx.1
  have hb := cx.2.1
  have hl : lv_has ls 3 [(0, .ref q_)] := hl
  rw [fX9_above.eq_1] at hF
  refine lv_iconst (v := 0) hx hb dX9_above_0 (by decide) ?_
  refine lv_istore_n (lv' := [(1, .int 0), (0, .ref q_)]) hx hb dX9_above_1 rfl hl (by decide) rfl (fun ls hl => ?_)
  refine lv_iconst (v := 0) hx hb dX9_above_2 (by decide) ?_
  refine lv_istore_n (lv' := [(2, .int 0), (1, .int 0), (0, .ref q_)]) hx hb dX9_above_3 rfl hl (by decide) rfl (fun ls hl => ?_)
  refine LX9_above_4 cx hret 400 0 0 H locs ls hF hw (lv_sub hl [2, 1, 0] rfl)
theorem dX9_open_0 : decode cX9_open 0 = .ok (.aload_n 0, 1) := by decide +kernel
theorem dX9_open_1 : decode cX9_open 1 = .ok (.invokevirtual 175, 3) := by decide +kernel
theorem dX9_open_4 : decode cX9_open 4 = .ok (.iconst 0, 1) := by decide +kernel
theorem dX9_open_5 : decode cX9_open 5 = .ok (.istore_n 1, 1) := by decide +kernel
theorem dX9_open_6 : decode cX9_open 6 = .ok (.iconst 0, 1) := by decide +kernel
theorem dX9_open_7 : decode cX9_open 7 = .ok (.istore_n 2, 1) := by decide +kernel
theorem dX9_open_8 : decode cX9_open 8 = .ok (.iload_n 2, 1) := by decide +kernel
theorem dX9_open_9 : decode cX9_open 9 = .ok (.aload_n 0, 1) := by decide +kernel
theorem dX9_open_10 : decode cX9_open 10 = .ok (.getfield 76, 3) := by decide +kernel
theorem dX9_open_13 : decode cX9_open 13 = .ok (.if_icmp .ge 21, 3) := by decide +kernel
theorem dX9_open_16 : decode cX9_open 16 = .ok (.aload_n 0, 1) := by decide +kernel
theorem dX9_open_17 : decode cX9_open 17 = .ok (.getfield 42, 3) := by decide +kernel
theorem dX9_open_20 : decode cX9_open 20 = .ok (.iload_n 2, 1) := by decide +kernel
theorem dX9_open_21 : decode cX9_open 21 = .ok (.iaload, 1) := by decide +kernel
theorem dX9_open_22 : decode cX9_open 22 = .ok (.ifCond .eq 6, 3) := by decide +kernel
theorem dX9_open_25 : decode cX9_open 25 = .ok (.iinc 1 1, 3) := by decide +kernel
theorem dX9_open_28 : decode cX9_open 28 = .ok (.iinc 2 1, 3) := by decide +kernel
theorem dX9_open_31 : decode cX9_open 31 = .ok (.goto (-23), 3) := by decide +kernel
theorem dX9_open_34 : decode cX9_open 34 = .ok (.iload_n 1, 1) := by decide +kernel
theorem dX9_open_35 : decode cX9_open 35 = .ok (.ireturn, 1) := by decide +kernel
def fX9_open_L8 (u_people : Int32) (u_balance : (Nat → Int32)) : Nat → Int32 → Int32 → Option (Int32 × (Nat → Int32))
  | 0, _, _ => none
  | n + 1, x1, x2 => if u_people ≤ x2 then (some (x1, u_balance)) else (gA x2 6 (if (u_balance (x2).toNatClampNeg) = 0 then (fX9_open_L8 u_people u_balance n x1 (x2 + 1)) else (fX9_open_L8 u_people u_balance n (x1 + 1) (x2 + 1))))
def fX9_open (u_people : Int32) (u_owes : (Nat → Int32)) (u_balance : (Nat → Int32)) : Option (Int32 × (Nat → Int32)) := (fX9_balances u_people u_owes u_balance).bind (fun z1 => fX9_open_L8 u_people z1 400 0 0)
set_option maxRecDepth 20000 in
theorem LX9_open_8 {p : Program} {l : Launch} {e : Env} {R : Room} {s : State} {m : MethodId} {args : Array Value} {below : List Frame} {meth : Method} {c : Code} {Q : State → Prop} {D : va_G} {C : Nat → ClassId} {A : Nat → Prop} (cx : CX p m c s args RX9 cX9_open 3 D C A R 2) {q_ q_owes q_denies q_debt q_cut q_sight q_event q_book q_text q_path q_ring q_balance q_left q_sum q_parts q_group q_payment q_then q_image q_tapeSort q_tapeSize q_items : Nat} {u_people : Int32} {u_debts : Int32} {u_cuts : Int32} {u_seen : Int32} {u_events : Int32} {u_inBook : Int32} {u_texted : Int32} {u_rule : Int32} {u_rings : Int32} {u_size : Int32} {u_least : Int32} {u_worth : Int64} {u_groups : Int32} {u_paid : Int32} {u_imaged : Int32} {u_owes : (Nat → Int32)} {u_balance : (Nat → Int32)} {z : (Int32 × (Nat → Int32))} (hret : RT p l e R s m args below meth c Q D A cX9_open (some .int) [(q_, .inr (9, [.int u_people, .ref q_owes, .ref q_denies, .int u_debts, .ref q_debt, .int u_cuts, .ref q_cut, .int u_seen, .ref q_sight, .int u_events, .ref q_event, .int u_inBook, .ref q_book, .int u_texted, .ref q_text, .ref q_path, .int u_rule, .int u_rings, .int u_size, .int u_least, .long u_worth, .ref q_ring, .ref q_balance, .ref q_left, .ref q_sum, .ref q_parts, .int u_groups, .ref q_group, .int u_paid, .ref q_payment, .ref q_then, .int u_imaged, .ref q_image, .ref q_tapeSort, .ref q_tapeSize, .ref q_items])), (q_owes, .inl (C 0, 36, .inl u_owes)), (q_balance, .inl (C 0, 6, .inl z.2))] (some (.int z.1))) :
    ∀ (n : Nat) (x1 : Int32) (x2 : Int32) (H : Heap) (locs : List Loc) (ls : Array Slot), fX9_open_L8 u_people u_balance n x1 x2 = some z → HW D A s.heap H locs [(q_, .inr (9, [.int u_people, .ref q_owes, .ref q_denies, .int u_debts, .ref q_debt, .int u_cuts, .ref q_cut, .int u_seen, .ref q_sight, .int u_events, .ref q_event, .int u_inBook, .ref q_book, .int u_texted, .ref q_text, .ref q_path, .int u_rule, .int u_rings, .int u_size, .int u_least, .long u_worth, .ref q_ring, .ref q_balance, .ref q_left, .ref q_sum, .ref q_parts, .int u_groups, .ref q_group, .int u_paid, .ref q_payment, .ref q_then, .int u_imaged, .ref q_image, .ref q_tapeSort, .ref q_tapeSize, .ref q_items])), (q_owes, .inl (C 0, 36, .inl u_owes)), (q_balance, .inl (C 0, 6, .inl u_balance))] → lv_has ls 3 [(0, .ref q_), (1, .int x1), (2, .int x2)] → W p l e R s m args below meth c H locs 0 0 Q (F0 m 8 ls []) := by
  have hx := cx.1
  have hb := cx.2.1
  intro n
  induction n with
  | zero => intro x1 x2 H locs ls hF; cases hF
  | succ n ih =>
    intro x1 x2 H locs ls hF hw hl
    rw [fX9_open_L8.eq_2] at hF
    refine lv_iload_n hx hb dX9_open_8 rfl (lv_at hl 2 rfl) ?_
    refine lv_aload_n hx hb dX9_open_9 rfl (lv_at hl 0 rfl) ?_
    refine r_get (ci := 9) (v := .int u_people) cx hw iX9 0 0 rfl rfl (by decide) wf_X9_76 rfl dX9_open_10 ?_
    refine lv_icmp_ge (tgt := 34) hx hb dX9_open_13 (by decide) (fun c2 => ?_) (fun c2 => ?_)
    · replace hF := oi_t c2 hF
      refine lv_iload_n hx hb dX9_open_34 rfl (lv_at hl 1 rfl) ?_
      obtain rfl := Option.some.inj hF
      exact rt_i hret hw rfl dX9_open_35
    · replace hF := oi_f c2 hF
      refine lv_aload_n hx hb dX9_open_16 rfl (lv_at hl 0 rfl) ?_
      refine r_get (ci := 9) (v := .ref q_balance) cx hw iX9 0 22 rfl rfl (by decide) wf_X9_42 rfl dX9_open_17 ?_
      refine lv_iload_n hx hb dX9_open_20 rfl (lv_at hl 2 rfl) ?_
      obtain ⟨g3, hF⟩ := gA_s hF
      refine r_iald cx hw 2 rfl g3 dX9_open_21 ?_
      refine lv_if_eq (tgt := 28) hx hb dX9_open_22 (by decide) (fun c4 => ?_) (fun c4 => ?_)
      · replace hF := oi_t c4 hF
        refine lv_iinc (v := x2 + 1) (lv' := [(2, .int (x2 + 1)), (0, .ref q_), (1, .int x1)]) hx hb dX9_open_28 hl (k := 2) rfl rfl (by decide) rfl (fun ls hl => ?_)
        refine lv_goto (tgt := 8) hx hb dX9_open_31 (by decide) ?_
        exact ih x1 (x2 + 1) H locs ls hF hw (lv_sub hl [1, 2, 0] rfl)
      · replace hF := oi_f c4 hF
        refine lv_iinc (v := x1 + 1) (lv' := [(1, .int (x1 + 1)), (0, .ref q_), (2, .int x2)]) hx hb dX9_open_25 hl (k := 1) rfl rfl (by decide) rfl (fun ls hl => ?_)
        refine lv_iinc (v := x2 + 1) (lv' := [(2, .int (x2 + 1)), (1, .int (x1 + 1)), (0, .ref q_)]) hx hb dX9_open_28 hl (k := 2) rfl rfl (by decide) rfl (fun ls hl => ?_)
        refine lv_goto (tgt := 8) hx hb dX9_open_31 (by decide) ?_
        exact ih (x1 + 1) (x2 + 1) H locs ls hF hw (lv_sub hl [2, 1, 0] rfl)
set_option maxRecDepth 20000 in
theorem CX9_open (l : Launch) (D : va_G) (C : Nat → ClassId) (q_ q_owes q_denies q_debt q_cut q_sight q_event q_book q_text q_path q_ring q_balance q_left q_sum q_parts q_group q_payment q_then q_image q_tapeSort q_tapeSize q_items : Nat) (u_people : Int32) (u_debts : Int32) (u_cuts : Int32) (u_seen : Int32) (u_events : Int32) (u_inBook : Int32) (u_texted : Int32) (u_rule : Int32) (u_rings : Int32) (u_size : Int32) (u_least : Int32) (u_worth : Int64) (u_groups : Int32) (u_paid : Int32) (u_imaged : Int32) (u_owes : (Nat → Int32)) (u_balance : (Nat → Int32)) (z : (Int32 × (Nat → Int32))) (hF : fX9_open u_people u_owes u_balance = some z) : Ct l yX9_open cX9_open 3 (some .int) 2 D C [.ref q_] [(q_, .inr (9, [.int u_people, .ref q_owes, .ref q_denies, .int u_debts, .ref q_debt, .int u_cuts, .ref q_cut, .int u_seen, .ref q_sight, .int u_events, .ref q_event, .int u_inBook, .ref q_book, .int u_texted, .ref q_text, .ref q_path, .int u_rule, .int u_rings, .int u_size, .int u_least, .long u_worth, .ref q_ring, .ref q_balance, .ref q_left, .ref q_sum, .ref q_parts, .int u_groups, .ref q_group, .int u_paid, .ref q_payment, .ref q_then, .int u_imaged, .ref q_image, .ref q_tapeSort, .ref q_tapeSize, .ref q_items])), (q_owes, .inl (C 0, 36, .inl u_owes)), (q_balance, .inl (C 0, 6, .inl u_balance))] [(q_, .inr (9, [.int u_people, .ref q_owes, .ref q_denies, .int u_debts, .ref q_debt, .int u_cuts, .ref q_cut, .int u_seen, .ref q_sight, .int u_events, .ref q_event, .int u_inBook, .ref q_book, .int u_texted, .ref q_text, .ref q_path, .int u_rule, .int u_rings, .int u_size, .int u_least, .long u_worth, .ref q_ring, .ref q_balance, .ref q_left, .ref q_sum, .ref q_parts, .int u_groups, .ref q_group, .int u_paid, .ref q_payment, .ref q_then, .int u_imaged, .ref q_image, .ref q_tapeSort, .ref q_tapeSize, .ref q_items])), (q_owes, .inl (C 0, 36, .inl u_owes)), (q_balance, .inl (C 0, 6, .inl z.2))] (some (.int z.1)) := by
  refine Ct_of (by decide) (Nat.le_of_ble_eq_true rfl) ?_
  intro p e R s m args below meth c A Q H locs ls cx hw hl hret
  have cx : CX p m c s args RX9 cX9_open 3 D C A R 2 := cx
  have hx := cx.1
  have hb := cx.2.1
  have hl : lv_has ls 3 [(0, .ref q_)] := hl
  rw [fX9_open.eq_1] at hF
  refine lv_aload_n hx hb dX9_open_0 rfl (lv_at hl 0 rfl) ?_
  obtain ⟨z1, hz1, hF⟩ := ob hF
  refine cV (wr := []) (w2 := [(q_, .inr (9, [.int u_people, .ref q_owes, .ref q_denies, .int u_debts, .ref q_debt, .int u_cuts, .ref q_cut, .int u_seen, .ref q_sight, .int u_events, .ref q_event, .int u_inBook, .ref q_book, .int u_texted, .ref q_text, .ref q_path, .int u_rule, .int u_rings, .int u_size, .int u_least, .long u_worth, .ref q_ring, .ref q_balance, .ref q_left, .ref q_sum, .ref q_parts, .int u_groups, .ref q_group, .int u_paid, .ref q_payment, .ref q_then, .int u_imaged, .ref q_image, .ref q_tapeSort, .ref q_tapeSize, .ref q_items])), (q_owes, .inl (C 0, 36, .inl u_owes)), (q_balance, .inl (C 0, 6, .inl z1))]) (st2 := []) cx (CX9_balances l D C q_ q_owes q_denies q_debt q_cut q_sight q_event q_book q_text q_path q_ring q_balance q_left q_sum q_parts q_group q_payment q_then q_image q_tapeSort q_tapeSize q_items u_people u_debts u_cuts u_seen u_events u_inBook u_texted u_rule u_rings u_size u_least u_worth u_groups u_paid u_imaged u_owes u_balance z1 hz1) lk_X9_175 my_X9_balances ml_X9_balances ⟨by decide, by decide⟩ hw [0, 1, 2] [] [0, 1, 2] rfl rfl (by decide) rfl rfl rfl rfl (Nat.le_of_ble_eq_true rfl) dX9_open_1 rfl (fun H locs hw => ?_) hl.1
  refine lv_iconst (v := 0) hx hb dX9_open_4 (by decide) ?_
  refine lv_istore_n (lv' := [(1, .int 0), (0, .ref q_)]) hx hb dX9_open_5 rfl hl (by decide) rfl (fun ls hl => ?_)
  refine lv_iconst (v := 0) hx hb dX9_open_6 (by decide) ?_
  refine lv_istore_n (lv' := [(2, .int 0), (1, .int 0), (0, .ref q_)]) hx hb dX9_open_7 rfl hl (by decide) rfl (fun ls hl => ?_)
  refine LX9_open_8 cx hret 400 0 0 H locs ls hF hw (lv_sub hl [2, 1, 0] rfl)
theorem lk_X9_205 : Cond.methodLink RX9 205 yX9_above ∈ gdt := gdt_of 1127 (by decide +kernel) (by decide +kernel)
theorem my_X9_above : (yX9_above.cls ≠ "java/lang/invoke/MethodHandle" ∧ yX9_above.cls ≠ "java/lang/invoke/VarHandle") ∧ Cond.instanceMethod yX9_above ∈ gdt ∧ Cond.selects yX9_above.cls yX9_above yX9_above ∈ gdt ∧ Cond.initialized yX9_above.cls ∈ gdt ∧ Cond.code yX9_above cX9_above 3 (some .int) ∈ gdt := ⟨⟨by decide +kernel, by decide +kernel⟩, gdt_of 1129 (by decide +kernel) (by decide +kernel), gdt_of 55 (by decide +kernel) (by decide +kernel), gdt_of 77 (by decide +kernel) (by decide +kernel), gdt_of 1130 (by decide +kernel) (by decide +kernel)⟩
theorem ml_X9_above : (parseMethodDescriptor yX9_above.desc).map (fun d => d.parameters.length) = some 0 := by decide +kernel
theorem dX9_net_0 : decode cX9_net 0 = .ok (.aload_n 0, 1) := by decide +kernel
theorem dX9_net_1 : decode cX9_net 1 = .ok (.invokevirtual 175, 3) := by decide +kernel
theorem dX9_net_4 : decode cX9_net 4 = .ok (.iconst 0, 1) := by decide +kernel
theorem dX9_net_5 : decode cX9_net 5 = .ok (.istore_n 1, 1) := by decide +kernel
theorem dX9_net_6 : decode cX9_net 6 = .ok (.iload_n 1, 1) := by decide +kernel
theorem dX9_net_7 : decode cX9_net 7 = .ok (.bipush 6, 2) := by decide +kernel
theorem dX9_net_9 : decode cX9_net 9 = .ok (.if_icmp .ge 21, 3) := by decide +kernel
theorem dX9_net_12 : decode cX9_net 12 = .ok (.aload_n 0, 1) := by decide +kernel
theorem dX9_net_13 : decode cX9_net 13 = .ok (.getfield 45, 3) := by decide +kernel
theorem dX9_net_16 : decode cX9_net 16 = .ok (.iload_n 1, 1) := by decide +kernel
theorem dX9_net_17 : decode cX9_net 17 = .ok (.aload_n 0, 1) := by decide +kernel
theorem dX9_net_18 : decode cX9_net 18 = .ok (.getfield 42, 3) := by decide +kernel
theorem dX9_net_21 : decode cX9_net 21 = .ok (.iload_n 1, 1) := by decide +kernel
theorem dX9_net_22 : decode cX9_net 22 = .ok (.iaload, 1) := by decide +kernel
theorem dX9_net_23 : decode cX9_net 23 = .ok (.iastore, 1) := by decide +kernel
theorem dX9_net_24 : decode cX9_net 24 = .ok (.iinc 1 1, 3) := by decide +kernel
theorem dX9_net_27 : decode cX9_net 27 = .ok (.goto (-21), 3) := by decide +kernel
theorem dX9_net_30 : decode cX9_net 30 = .ok (.aload_n 0, 1) := by decide +kernel
theorem dX9_net_31 : decode cX9_net 31 = .ok (.invokevirtual 205, 3) := by decide +kernel
theorem dX9_net_34 : decode cX9_net 34 = .ok (.ireturn, 1) := by decide +kernel
def fX9_net_L6 (k30 : (Nat → Int32) → Option (Int32 × (Nat → Int32) × (Nat → Int32))) (u_balance : (Nat → Int32)) : Nat → Int32 → (Nat → Int32) → Option (Int32 × (Nat → Int32) × (Nat → Int32))
  | 0, _, _ => none
  | n + 1, x1, u_left => if 6 ≤ x1 then (k30 u_left) else (gA x1 6 (gA x1 6 (fX9_net_L6 k30 u_balance n (x1 + 1) (upd u_left (x1 : Int32).toNatClampNeg (u_balance (x1).toNatClampNeg)))))
def fX9_net (u_people : Int32) (u_owes : (Nat → Int32)) (u_balance : (Nat → Int32)) (u_left : (Nat → Int32)) : Option (Int32 × (Nat → Int32) × (Nat → Int32)) := (fX9_balances u_people u_owes u_balance).bind (fun z1 => fX9_net_L6 (fun (u_left_5 : (Nat → Int32)) => (fX9_above u_people u_left_5).bind (fun z6 => some (z6, z1, u_left_5))) z1 400 0 u_left)
set_option maxRecDepth 20000 in
theorem LX9_net_6 {p : Program} {l : Launch} {e : Env} {R : Room} {s : State} {m : MethodId} {args : Array Value} {below : List Frame} {meth : Method} {c : Code} {Q : State → Prop} {D : va_G} {C : Nat → ClassId} {A : Nat → Prop} (cx : CX p m c s args RX9 cX9_net 2 D C A R 2) {q_ q_owes q_denies q_debt q_cut q_sight q_event q_book q_text q_path q_ring q_balance q_left q_sum q_parts q_group q_payment q_then q_image q_tapeSort q_tapeSize q_items : Nat} {u_people : Int32} {u_debts : Int32} {u_cuts : Int32} {u_seen : Int32} {u_events : Int32} {u_inBook : Int32} {u_texted : Int32} {u_rule : Int32} {u_rings : Int32} {u_size : Int32} {u_least : Int32} {u_worth : Int64} {u_groups : Int32} {u_paid : Int32} {u_imaged : Int32} {u_owes : (Nat → Int32)} {u_balance : (Nat → Int32)} {z : (Int32 × (Nat → Int32) × (Nat → Int32))} (hret : RT p l e R s m args below meth c Q D A cX9_net (some .int) [(q_, .inr (9, [.int u_people, .ref q_owes, .ref q_denies, .int u_debts, .ref q_debt, .int u_cuts, .ref q_cut, .int u_seen, .ref q_sight, .int u_events, .ref q_event, .int u_inBook, .ref q_book, .int u_texted, .ref q_text, .ref q_path, .int u_rule, .int u_rings, .int u_size, .int u_least, .long u_worth, .ref q_ring, .ref q_balance, .ref q_left, .ref q_sum, .ref q_parts, .int u_groups, .ref q_group, .int u_paid, .ref q_payment, .ref q_then, .int u_imaged, .ref q_image, .ref q_tapeSort, .ref q_tapeSize, .ref q_items])), (q_owes, .inl (C 0, 36, .inl u_owes)), (q_balance, .inl (C 0, 6, .inl z.2.1)), (q_left, .inl (C 0, 6, .inl z.2.2))] (some (.int z.1))) {k30 : (Nat → Int32) → Option (Int32 × (Nat → Int32) × (Nat → Int32))} (hk30 : ∀ (u_left : (Nat → Int32)) (H : Heap) (locs : List Loc) (ls : Array Slot), k30 u_left = some z → HW D A s.heap H locs [(q_, .inr (9, [.int u_people, .ref q_owes, .ref q_denies, .int u_debts, .ref q_debt, .int u_cuts, .ref q_cut, .int u_seen, .ref q_sight, .int u_events, .ref q_event, .int u_inBook, .ref q_book, .int u_texted, .ref q_text, .ref q_path, .int u_rule, .int u_rings, .int u_size, .int u_least, .long u_worth, .ref q_ring, .ref q_balance, .ref q_left, .ref q_sum, .ref q_parts, .int u_groups, .ref q_group, .int u_paid, .ref q_payment, .ref q_then, .int u_imaged, .ref q_image, .ref q_tapeSort, .ref q_tapeSize, .ref q_items])), (q_owes, .inl (C 0, 36, .inl u_owes)), (q_balance, .inl (C 0, 6, .inl u_balance)), (q_left, .inl (C 0, 6, .inl u_left))] → lv_has ls 2 [(0, .ref q_)] → W p l e R s m args below meth c H locs 0 0 Q (F0 m 30 ls [])) :
    ∀ (n : Nat) (x1 : Int32) (u_left : (Nat → Int32)) (H : Heap) (locs : List Loc) (ls : Array Slot), fX9_net_L6 k30 u_balance n x1 u_left = some z → HW D A s.heap H locs [(q_, .inr (9, [.int u_people, .ref q_owes, .ref q_denies, .int u_debts, .ref q_debt, .int u_cuts, .ref q_cut, .int u_seen, .ref q_sight, .int u_events, .ref q_event, .int u_inBook, .ref q_book, .int u_texted, .ref q_text, .ref q_path, .int u_rule, .int u_rings, .int u_size, .int u_least, .long u_worth, .ref q_ring, .ref q_balance, .ref q_left, .ref q_sum, .ref q_parts, .int u_groups, .ref q_group, .int u_paid, .ref q_payment, .ref q_then, .int u_imaged, .ref q_image, .ref q_tapeSort, .ref q_tapeSize, .ref q_items])), (q_owes, .inl (C 0, 36, .inl u_owes)), (q_balance, .inl (C 0, 6, .inl u_balance)), (q_left, .inl (C 0, 6, .inl u_left))] → lv_has ls 2 [(0, .ref q_), (1, .int x1)] → W p l e R s m args below meth c H locs 0 0 Q (F0 m 6 ls []) := by
  have hx := cx.1
  have hb := cx.2.1
  intro n
  induction n with
  | zero => intro x1 u_left H locs ls hF; cases hF
  | succ n ih =>
    intro x1 u_left H locs ls hF hw hl
    rw [fX9_net_L6.eq_2] at hF
    refine lv_iload_n hx hb dX9_net_6 rfl (lv_at hl 1 rfl) ?_
    refine lv_bipush (v := 6) hx hb dX9_net_7 (by decide) ?_
    refine lv_icmp_ge (tgt := 30) hx hb dX9_net_9 (by decide) (fun c2 => ?_) (fun c2 => ?_)
    · replace hF := oi_t c2 hF
      exact hk30 u_left H locs ls hF hw (lv_sub hl [0] rfl)
    · replace hF := oi_f c2 hF
      refine lv_aload_n hx hb dX9_net_12 rfl (lv_at hl 0 rfl) ?_
      refine r_get (ci := 9) (v := .ref q_left) cx hw iX9 0 23 rfl rfl (by decide) wf_X9_45 rfl dX9_net_13 ?_
      refine lv_iload_n hx hb dX9_net_16 rfl (lv_at hl 1 rfl) ?_
      refine lv_aload_n hx hb dX9_net_17 rfl (lv_at hl 0 rfl) ?_
      refine r_get (ci := 9) (v := .ref q_balance) cx hw iX9 0 22 rfl rfl (by decide) wf_X9_42 rfl dX9_net_18 ?_
      refine lv_iload_n hx hb dX9_net_21 rfl (lv_at hl 1 rfl) ?_
      obtain ⟨g3, hF⟩ := gA_s hF
      refine r_iald cx hw 2 rfl g3 dX9_net_22 ?_
      obtain ⟨g4, hF⟩ := gA_s hF
      refine r_iast (w2 := [(q_, .inr (9, [.int u_people, .ref q_owes, .ref q_denies, .int u_debts, .ref q_debt, .int u_cuts, .ref q_cut, .int u_seen, .ref q_sight, .int u_events, .ref q_event, .int u_inBook, .ref q_book, .int u_texted, .ref q_text, .ref q_path, .int u_rule, .int u_rings, .int u_size, .int u_least, .long u_worth, .ref q_ring, .ref q_balance, .ref q_left, .ref q_sum, .ref q_parts, .int u_groups, .ref q_group, .int u_paid, .ref q_payment, .ref q_then, .int u_imaged, .ref q_image, .ref q_tapeSort, .ref q_tapeSize, .ref q_items])), (q_owes, .inl (C 0, 36, .inl u_owes)), (q_balance, .inl (C 0, 6, .inl u_balance)), (q_left, .inl (C 0, 6, .inl (upd u_left (x1 : Int32).toNatClampNeg (u_balance (x1).toNatClampNeg))))]) cx hw 3 rfl g4 dX9_net_23 rfl (fun H locs hw => ?_)
      refine lv_iinc (v := x1 + 1) (lv' := [(1, .int (x1 + 1)), (0, .ref q_)]) hx hb dX9_net_24 hl (k := 1) rfl rfl (by decide) rfl (fun ls hl => ?_)
      refine lv_goto (tgt := 6) hx hb dX9_net_27 (by decide) ?_
      exact ih (x1 + 1) (upd u_left (x1 : Int32).toNatClampNeg (u_balance (x1).toNatClampNeg)) H locs ls hF hw (lv_sub hl [1, 0] rfl)
set_option maxRecDepth 20000 in
theorem CX9_net (l : Launch) (D : va_G) (C : Nat → ClassId) (q_ q_owes q_denies q_debt q_cut q_sight q_event q_book q_text q_path q_ring q_balance q_left q_sum q_parts q_group q_payment q_then q_image q_tapeSort q_tapeSize q_items : Nat) (u_people : Int32) (u_debts : Int32) (u_cuts : Int32) (u_seen : Int32) (u_events : Int32) (u_inBook : Int32) (u_texted : Int32) (u_rule : Int32) (u_rings : Int32) (u_size : Int32) (u_least : Int32) (u_worth : Int64) (u_groups : Int32) (u_paid : Int32) (u_imaged : Int32) (u_owes : (Nat → Int32)) (u_balance : (Nat → Int32)) (u_left : (Nat → Int32)) (z : (Int32 × (Nat → Int32) × (Nat → Int32))) (hF : fX9_net u_people u_owes u_balance u_left = some z) : Ct l yX9_net cX9_net 2 (some .int) 2 D C [.ref q_] [(q_, .inr (9, [.int u_people, .ref q_owes, .ref q_denies, .int u_debts, .ref q_debt, .int u_cuts, .ref q_cut, .int u_seen, .ref q_sight, .int u_events, .ref q_event, .int u_inBook, .ref q_book, .int u_texted, .ref q_text, .ref q_path, .int u_rule, .int u_rings, .int u_size, .int u_least, .long u_worth, .ref q_ring, .ref q_balance, .ref q_left, .ref q_sum, .ref q_parts, .int u_groups, .ref q_group, .int u_paid, .ref q_payment, .ref q_then, .int u_imaged, .ref q_image, .ref q_tapeSort, .ref q_tapeSize, .ref q_items])), (q_owes, .inl (C 0, 36, .inl u_owes)), (q_balance, .inl (C 0, 6, .inl u_balance)), (q_left, .inl (C 0, 6, .inl u_left))] [(q_, .inr (9, [.int u_people, .ref q_owes, .ref q_denies, .int u_debts, .ref q_debt, .int u_cuts, .ref q_cut, .int u_seen, .ref q_sight, .int u_events, .ref q_event, .int u_inBook, .ref q_book, .int u_texted, .ref q_text, .ref q_path, .int u_rule, .int u_rings, .int u_size, .int u_least, .long u_worth, .ref q_ring, .ref q_balance, .ref q_left, .ref q_sum, .ref q_parts, .int u_groups, .ref q_group, .int u_paid, .ref q_payment, .ref q_then, .int u_imaged, .ref q_image, .ref q_tapeSort, .ref q_tapeSize, .ref q_items])), (q_owes, .inl (C 0, 36, .inl u_owes)), (q_balance, .inl (C 0, 6, .inl z.2.1)), (q_left, .inl (C 0, 6, .inl z.2.2))] (some (.int z.1)) := by
  refine Ct_of (by decide) (Nat.le_of_ble_eq_true rfl) ?_
  intro p e R s m args below meth c A Q H locs ls cx hw hl hret
  have cx : CX p m c s args RX9 cX9_net 2 D C A R 2 := cx
  have hx := cx.1
  have hb := cx.2.1
  have hl : lv_has ls 2 [(0, .ref q_)] := hl
  rw [fX9_net.eq_1] at hF
  refine lv_aload_n hx hb dX9_net_0 rfl (lv_at hl 0 rfl) ?_
  obtain ⟨z1, hz1, hF⟩ := ob hF
  refine cV (wr := [(q_left, .inl (C 0, 6, .inl u_left))]) (w2 := [(q_, .inr (9, [.int u_people, .ref q_owes, .ref q_denies, .int u_debts, .ref q_debt, .int u_cuts, .ref q_cut, .int u_seen, .ref q_sight, .int u_events, .ref q_event, .int u_inBook, .ref q_book, .int u_texted, .ref q_text, .ref q_path, .int u_rule, .int u_rings, .int u_size, .int u_least, .long u_worth, .ref q_ring, .ref q_balance, .ref q_left, .ref q_sum, .ref q_parts, .int u_groups, .ref q_group, .int u_paid, .ref q_payment, .ref q_then, .int u_imaged, .ref q_image, .ref q_tapeSort, .ref q_tapeSize, .ref q_items])), (q_owes, .inl (C 0, 36, .inl u_owes)), (q_balance, .inl (C 0, 6, .inl z1)), (q_left, .inl (C 0, 6, .inl u_left))]) (st2 := []) cx (CX9_balances l D C q_ q_owes q_denies q_debt q_cut q_sight q_event q_book q_text q_path q_ring q_balance q_left q_sum q_parts q_group q_payment q_then q_image q_tapeSort q_tapeSize q_items u_people u_debts u_cuts u_seen u_events u_inBook u_texted u_rule u_rings u_size u_least u_worth u_groups u_paid u_imaged u_owes u_balance z1 hz1) lk_X9_175 my_X9_balances ml_X9_balances ⟨by decide, by decide⟩ hw [0, 1, 2] [3] [1, 2, 3, 0] rfl rfl (by decide) rfl rfl rfl rfl (Nat.le_of_ble_eq_true rfl) dX9_net_1 rfl (fun H locs hw => ?_) hl.1
  refine lv_iconst (v := 0) hx hb dX9_net_4 (by decide) ?_
  refine lv_istore_n (lv' := [(1, .int 0), (0, .ref q_)]) hx hb dX9_net_5 rfl hl (by decide) rfl (fun ls hl => ?_)
  refine LX9_net_6 cx hret (fun u_left_5 H locs ls hF hw hl => ?_) 400 0 u_left H locs ls hF hw (lv_sub hl [1, 0] rfl)
  · refine lv_aload_n hx hb dX9_net_30 rfl (lv_at hl 0 rfl) ?_
    obtain ⟨z6, hz6, hF⟩ := ob hF
    refine cV (wr := [(q_owes, .inl (C 0, 36, .inl u_owes)), (q_balance, .inl (C 0, 6, .inl z1))]) (w2 := [(q_, .inr (9, [.int u_people, .ref q_owes, .ref q_denies, .int u_debts, .ref q_debt, .int u_cuts, .ref q_cut, .int u_seen, .ref q_sight, .int u_events, .ref q_event, .int u_inBook, .ref q_book, .int u_texted, .ref q_text, .ref q_path, .int u_rule, .int u_rings, .int u_size, .int u_least, .long u_worth, .ref q_ring, .ref q_balance, .ref q_left, .ref q_sum, .ref q_parts, .int u_groups, .ref q_group, .int u_paid, .ref q_payment, .ref q_then, .int u_imaged, .ref q_image, .ref q_tapeSort, .ref q_tapeSize, .ref q_items])), (q_owes, .inl (C 0, 36, .inl u_owes)), (q_balance, .inl (C 0, 6, .inl z1)), (q_left, .inl (C 0, 6, .inl u_left_5))]) (st2 := [.int z6]) cx (CX9_above l D C q_ q_owes q_denies q_debt q_cut q_sight q_event q_book q_text q_path q_ring q_balance q_left q_sum q_parts q_group q_payment q_then q_image q_tapeSort q_tapeSize q_items u_people u_debts u_cuts u_seen u_events u_inBook u_texted u_rule u_rings u_size u_least u_worth u_groups u_paid u_imaged u_left_5 z6 hz6) lk_X9_205 my_X9_above ml_X9_above ⟨by decide, by decide⟩ hw [0, 3] [1, 2] [2, 0, 1, 3] rfl rfl (by decide) rfl rfl rfl rfl (Nat.le_of_ble_eq_true rfl) dX9_net_31 rfl (fun H locs hw => ?_) hl.1
    obtain rfl := Option.some.inj hF
    exact rt_i hret hw rfl dX9_net_34
theorem dX9_kept_0 : decode cX9_kept 0 = .ok (.aload_n 0, 1) := by decide +kernel
theorem dX9_kept_1 : decode cX9_kept 1 = .ok (.invokevirtual 192, 3) := by decide +kernel
theorem dX9_kept_4 : decode cX9_kept 4 = .ok (.iconst 0, 1) := by decide +kernel
theorem dX9_kept_5 : decode cX9_kept 5 = .ok (.istore_n 1, 1) := by decide +kernel
theorem dX9_kept_6 : decode cX9_kept 6 = .ok (.iconst 0, 1) := by decide +kernel
theorem dX9_kept_7 : decode cX9_kept 7 = .ok (.istore_n 2, 1) := by decide +kernel
theorem dX9_kept_8 : decode cX9_kept 8 = .ok (.iload_n 2, 1) := by decide +kernel
theorem dX9_kept_9 : decode cX9_kept 9 = .ok (.aload_n 0, 1) := by decide +kernel
theorem dX9_kept_10 : decode cX9_kept 10 = .ok (.getfield 186, 3) := by decide +kernel
theorem dX9_kept_13 : decode cX9_kept 13 = .ok (.if_icmp .ge 42, 3) := by decide +kernel
theorem dX9_kept_16 : decode cX9_kept 16 = .ok (.aload_n 0, 1) := by decide +kernel
theorem dX9_kept_17 : decode cX9_kept 17 = .ok (.getfield 15, 3) := by decide +kernel
theorem dX9_kept_20 : decode cX9_kept 20 = .ok (.bipush 6, 2) := by decide +kernel
theorem dX9_kept_22 : decode cX9_kept 22 = .ok (.aload_n 0, 1) := by decide +kernel
theorem dX9_kept_23 : decode cX9_kept 23 = .ok (.getfield 57, 3) := by decide +kernel
theorem dX9_kept_26 : decode cX9_kept 26 = .ok (.iconst 3, 1) := by decide +kernel
theorem dX9_kept_27 : decode cX9_kept 27 = .ok (.iload_n 2, 1) := by decide +kernel
theorem dX9_kept_28 : decode cX9_kept 28 = .ok (.imul, 1) := by decide +kernel
theorem dX9_kept_29 : decode cX9_kept 29 = .ok (.iaload, 1) := by decide +kernel
theorem dX9_kept_30 : decode cX9_kept 30 = .ok (.imul, 1) := by decide +kernel
theorem dX9_kept_31 : decode cX9_kept 31 = .ok (.aload_n 0, 1) := by decide +kernel
theorem dX9_kept_32 : decode cX9_kept 32 = .ok (.getfield 57, 3) := by decide +kernel
theorem dX9_kept_35 : decode cX9_kept 35 = .ok (.iconst 3, 1) := by decide +kernel
theorem dX9_kept_36 : decode cX9_kept 36 = .ok (.iload_n 2, 1) := by decide +kernel
theorem dX9_kept_37 : decode cX9_kept 37 = .ok (.imul, 1) := by decide +kernel
theorem dX9_kept_38 : decode cX9_kept 38 = .ok (.iconst 1, 1) := by decide +kernel
theorem dX9_kept_39 : decode cX9_kept 39 = .ok (.iadd, 1) := by decide +kernel
theorem dX9_kept_40 : decode cX9_kept 40 = .ok (.iaload, 1) := by decide +kernel
theorem dX9_kept_41 : decode cX9_kept 41 = .ok (.iadd, 1) := by decide +kernel
theorem dX9_kept_42 : decode cX9_kept 42 = .ok (.iaload, 1) := by decide +kernel
theorem dX9_kept_43 : decode cX9_kept 43 = .ok (.ifCond .ne 6, 3) := by decide +kernel
theorem dX9_kept_46 : decode cX9_kept 46 = .ok (.iinc 1 1, 3) := by decide +kernel
theorem dX9_kept_49 : decode cX9_kept 49 = .ok (.iinc 2 1, 3) := by decide +kernel
theorem dX9_kept_52 : decode cX9_kept 52 = .ok (.goto (-44), 3) := by decide +kernel
theorem dX9_kept_55 : decode cX9_kept 55 = .ok (.iload_n 1, 1) := by decide +kernel
theorem dX9_kept_56 : decode cX9_kept 56 = .ok (.ireturn, 1) := by decide +kernel
def fX9_kept_L8 (u_groups : Int32) (u_paid : Int32) (u_denies : (Nat → Int32)) (u_balance : (Nat → Int32)) (u_left : (Nat → Int32)) (u_sum : (Nat → Int32)) (u_parts : (Nat → Int32)) (u_group : (Nat → Int32)) (u_payment : (Nat → Int32)) : Nat → Int32 → Int32 → Option (Int32 × Int32 × Int32 × (Nat → Int32) × (Nat → Int32) × (Nat → Int32) × (Nat → Int32) × (Nat → Int32) × (Nat → Int32))
  | 0, _, _ => none
  | n + 1, x1, x2 => if u_paid ≤ x2 then (some (x1, u_groups, u_paid, u_balance, u_left, u_sum, u_parts, u_group, u_payment)) else (gA (3 * x2) 30 (gA ((3 * x2) + 1) 30 (gA ((6 * (u_payment (3 * x2).toNatClampNeg)) + (u_payment ((3 * x2) + 1).toNatClampNeg)) 36 (if (u_denies ((6 * (u_payment (3 * x2).toNatClampNeg)) + (u_payment ((3 * x2) + 1).toNatClampNeg)).toNatClampNeg) = 0 then (fX9_kept_L8 u_groups u_paid u_denies u_balance u_left u_sum u_parts u_group u_payment n (x1 + 1) (x2 + 1)) else (fX9_kept_L8 u_groups u_paid u_denies u_balance u_left u_sum u_parts u_group u_payment n x1 (x2 + 1))))))
def fX9_kept (u_people : Int32) (u_owes : (Nat → Int32)) (u_denies : (Nat → Int32)) (u_balance : (Nat → Int32)) (u_left : (Nat → Int32)) (u_sum : (Nat → Int32)) (u_parts : (Nat → Int32)) (u_group : (Nat → Int32)) (u_payment : (Nat → Int32)) : Option (Int32 × Int32 × Int32 × (Nat → Int32) × (Nat → Int32) × (Nat → Int32) × (Nat → Int32) × (Nat → Int32) × (Nat → Int32)) := (fX9_payments u_people u_owes u_balance u_left u_sum u_parts u_group u_payment).bind (fun z1 => fX9_kept_L8 z1.1 z1.2.1 u_denies z1.2.2.1 z1.2.2.2.1 z1.2.2.2.2.1 z1.2.2.2.2.2.1 z1.2.2.2.2.2.2.1 z1.2.2.2.2.2.2.2 400 0 0)
set_option maxRecDepth 20000 in
theorem LX9_kept_8 {p : Program} {l : Launch} {e : Env} {R : Room} {s : State} {m : MethodId} {args : Array Value} {below : List Frame} {meth : Method} {c : Code} {Q : State → Prop} {D : va_G} {C : Nat → ClassId} {A : Nat → Prop} (cx : CX p m c s args RX9 cX9_kept 3 D C A R 4) {q_ q_owes q_denies q_debt q_cut q_sight q_event q_book q_text q_path q_ring q_balance q_left q_sum q_parts q_group q_payment q_then q_image q_tapeSort q_tapeSize q_items : Nat} {u_people : Int32} {u_debts : Int32} {u_cuts : Int32} {u_seen : Int32} {u_events : Int32} {u_inBook : Int32} {u_texted : Int32} {u_rule : Int32} {u_rings : Int32} {u_size : Int32} {u_least : Int32} {u_worth : Int64} {u_groups : Int32} {u_paid : Int32} {u_imaged : Int32} {u_owes : (Nat → Int32)} {u_denies : (Nat → Int32)} {u_balance : (Nat → Int32)} {u_left : (Nat → Int32)} {u_sum : (Nat → Int32)} {u_parts : (Nat → Int32)} {u_group : (Nat → Int32)} {u_payment : (Nat → Int32)} {z : (Int32 × Int32 × Int32 × (Nat → Int32) × (Nat → Int32) × (Nat → Int32) × (Nat → Int32) × (Nat → Int32) × (Nat → Int32))} (hret : RT p l e R s m args below meth c Q D A cX9_kept (some .int) [(q_, .inr (9, [.int u_people, .ref q_owes, .ref q_denies, .int u_debts, .ref q_debt, .int u_cuts, .ref q_cut, .int u_seen, .ref q_sight, .int u_events, .ref q_event, .int u_inBook, .ref q_book, .int u_texted, .ref q_text, .ref q_path, .int u_rule, .int u_rings, .int u_size, .int u_least, .long u_worth, .ref q_ring, .ref q_balance, .ref q_left, .ref q_sum, .ref q_parts, .int z.2.1, .ref q_group, .int z.2.2.1, .ref q_payment, .ref q_then, .int u_imaged, .ref q_image, .ref q_tapeSort, .ref q_tapeSize, .ref q_items])), (q_owes, .inl (C 0, 36, .inl u_owes)), (q_denies, .inl (C 0, 36, .inl u_denies)), (q_balance, .inl (C 0, 6, .inl z.2.2.2.1)), (q_left, .inl (C 0, 6, .inl z.2.2.2.2.1)), (q_sum, .inl (C 0, 64, .inl z.2.2.2.2.2.1)), (q_parts, .inl (C 0, 64, .inl z.2.2.2.2.2.2.1)), (q_group, .inl (C 0, 3, .inl z.2.2.2.2.2.2.2.1)), (q_payment, .inl (C 0, 30, .inl z.2.2.2.2.2.2.2.2))] (some (.int z.1))) :
    ∀ (n : Nat) (x1 : Int32) (x2 : Int32) (H : Heap) (locs : List Loc) (ls : Array Slot), fX9_kept_L8 u_groups u_paid u_denies u_balance u_left u_sum u_parts u_group u_payment n x1 x2 = some z → HW D A s.heap H locs [(q_, .inr (9, [.int u_people, .ref q_owes, .ref q_denies, .int u_debts, .ref q_debt, .int u_cuts, .ref q_cut, .int u_seen, .ref q_sight, .int u_events, .ref q_event, .int u_inBook, .ref q_book, .int u_texted, .ref q_text, .ref q_path, .int u_rule, .int u_rings, .int u_size, .int u_least, .long u_worth, .ref q_ring, .ref q_balance, .ref q_left, .ref q_sum, .ref q_parts, .int u_groups, .ref q_group, .int u_paid, .ref q_payment, .ref q_then, .int u_imaged, .ref q_image, .ref q_tapeSort, .ref q_tapeSize, .ref q_items])), (q_owes, .inl (C 0, 36, .inl u_owes)), (q_denies, .inl (C 0, 36, .inl u_denies)), (q_balance, .inl (C 0, 6, .inl u_balance)), (q_left, .inl (C 0, 6, .inl u_left)), (q_sum, .inl (C 0, 64, .inl u_sum)), (q_parts, .inl (C 0, 64, .inl u_parts)), (q_group, .inl (C 0, 3, .inl u_group)), (q_payment, .inl (C 0, 30, .inl u_payment))] → lv_has ls 3 [(0, .ref q_), (1, .int x1), (2, .int x2)] → W p l e R s m args below meth c H locs 0 0 Q (F0 m 8 ls []) := by
  have hx := cx.1
  have hb := cx.2.1
  intro n
  induction n with
  | zero => intro x1 x2 H locs ls hF; cases hF
  | succ n ih =>
    intro x1 x2 H locs ls hF hw hl
    rw [fX9_kept_L8.eq_2] at hF
    refine lv_iload_n hx hb dX9_kept_8 rfl (lv_at hl 2 rfl) ?_
    refine lv_aload_n hx hb dX9_kept_9 rfl (lv_at hl 0 rfl) ?_
    refine r_get (ci := 9) (v := .int u_paid) cx hw iX9 0 28 rfl rfl (by decide) wf_X9_186 rfl dX9_kept_10 ?_
    refine lv_icmp_ge (tgt := 55) hx hb dX9_kept_13 (by decide) (fun c2 => ?_) (fun c2 => ?_)
    · replace hF := oi_t c2 hF
      refine lv_iload_n hx hb dX9_kept_55 rfl (lv_at hl 1 rfl) ?_
      obtain rfl := Option.some.inj hF
      exact rt_i hret hw rfl dX9_kept_56
    · replace hF := oi_f c2 hF
      refine lv_aload_n hx hb dX9_kept_16 rfl (lv_at hl 0 rfl) ?_
      refine r_get (ci := 9) (v := .ref q_denies) cx hw iX9 0 2 rfl rfl (by decide) wf_X9_15 rfl dX9_kept_17 ?_
      refine lv_bipush (v := 6) hx hb dX9_kept_20 (by decide) ?_
      refine lv_aload_n hx hb dX9_kept_22 rfl (lv_at hl 0 rfl) ?_
      refine r_get (ci := 9) (v := .ref q_payment) cx hw iX9 0 29 rfl rfl (by decide) wf_X9_57 rfl dX9_kept_23 ?_
      refine lv_iconst (v := 3) hx hb dX9_kept_26 (by decide) ?_
      refine lv_iload_n hx hb dX9_kept_27 rfl (lv_at hl 2 rfl) ?_
      refine lv_imul hx hb dX9_kept_28 ?_
      obtain ⟨g3, hF⟩ := gA_s hF
      refine r_iald cx hw 8 rfl g3 dX9_kept_29 ?_
      refine lv_imul hx hb dX9_kept_30 ?_
      refine lv_aload_n hx hb dX9_kept_31 rfl (lv_at hl 0 rfl) ?_
      refine r_get (ci := 9) (v := .ref q_payment) cx hw iX9 0 29 rfl rfl (by decide) wf_X9_57 rfl dX9_kept_32 ?_
      refine lv_iconst (v := 3) hx hb dX9_kept_35 (by decide) ?_
      refine lv_iload_n hx hb dX9_kept_36 rfl (lv_at hl 2 rfl) ?_
      refine lv_imul hx hb dX9_kept_37 ?_
      refine lv_iconst (v := 1) hx hb dX9_kept_38 (by decide) ?_
      refine lv_iadd hx hb dX9_kept_39 ?_
      obtain ⟨g4, hF⟩ := gA_s hF
      refine r_iald cx hw 8 rfl g4 dX9_kept_40 ?_
      refine lv_iadd hx hb dX9_kept_41 ?_
      obtain ⟨g5, hF⟩ := gA_s hF
      refine r_iald cx hw 2 rfl g5 dX9_kept_42 ?_
      refine lv_if_ne (tgt := 49) hx hb dX9_kept_43 (by decide) (fun c6 => ?_) (fun c6 => ?_)
      · replace hF := oi_f c6 hF
        refine lv_iinc (v := x2 + 1) (lv' := [(2, .int (x2 + 1)), (0, .ref q_), (1, .int x1)]) hx hb dX9_kept_49 hl (k := 2) rfl rfl (by decide) rfl (fun ls hl => ?_)
        refine lv_goto (tgt := 8) hx hb dX9_kept_52 (by decide) ?_
        exact ih x1 (x2 + 1) H locs ls hF hw (lv_sub hl [1, 2, 0] rfl)
      · replace hF := oi_t c6 hF
        refine lv_iinc (v := x1 + 1) (lv' := [(1, .int (x1 + 1)), (0, .ref q_), (2, .int x2)]) hx hb dX9_kept_46 hl (k := 1) rfl rfl (by decide) rfl (fun ls hl => ?_)
        refine lv_iinc (v := x2 + 1) (lv' := [(2, .int (x2 + 1)), (1, .int (x1 + 1)), (0, .ref q_)]) hx hb dX9_kept_49 hl (k := 2) rfl rfl (by decide) rfl (fun ls hl => ?_)
        refine lv_goto (tgt := 8) hx hb dX9_kept_52 (by decide) ?_
        exact ih (x1 + 1) (x2 + 1) H locs ls hF hw (lv_sub hl [2, 1, 0] rfl)
set_option maxRecDepth 20000 in
theorem CX9_kept (l : Launch) (D : va_G) (C : Nat → ClassId) (q_ q_owes q_denies q_debt q_cut q_sight q_event q_book q_text q_path q_ring q_balance q_left q_sum q_parts q_group q_payment q_then q_image q_tapeSort q_tapeSize q_items : Nat) (u_people : Int32) (u_debts : Int32) (u_cuts : Int32) (u_seen : Int32) (u_events : Int32) (u_inBook : Int32) (u_texted : Int32) (u_rule : Int32) (u_rings : Int32) (u_size : Int32) (u_least : Int32) (u_worth : Int64) (u_groups : Int32) (u_paid : Int32) (u_imaged : Int32) (u_owes : (Nat → Int32)) (u_denies : (Nat → Int32)) (u_balance : (Nat → Int32)) (u_left : (Nat → Int32)) (u_sum : (Nat → Int32)) (u_parts : (Nat → Int32)) (u_group : (Nat → Int32)) (u_payment : (Nat → Int32)) (z : (Int32 × Int32 × Int32 × (Nat → Int32) × (Nat → Int32) × (Nat → Int32) × (Nat → Int32) × (Nat → Int32) × (Nat → Int32))) (hF : fX9_kept u_people u_owes u_denies u_balance u_left u_sum u_parts u_group u_payment = some z) : Ct l yX9_kept cX9_kept 3 (some .int) 4 D C [.ref q_] [(q_, .inr (9, [.int u_people, .ref q_owes, .ref q_denies, .int u_debts, .ref q_debt, .int u_cuts, .ref q_cut, .int u_seen, .ref q_sight, .int u_events, .ref q_event, .int u_inBook, .ref q_book, .int u_texted, .ref q_text, .ref q_path, .int u_rule, .int u_rings, .int u_size, .int u_least, .long u_worth, .ref q_ring, .ref q_balance, .ref q_left, .ref q_sum, .ref q_parts, .int u_groups, .ref q_group, .int u_paid, .ref q_payment, .ref q_then, .int u_imaged, .ref q_image, .ref q_tapeSort, .ref q_tapeSize, .ref q_items])), (q_owes, .inl (C 0, 36, .inl u_owes)), (q_denies, .inl (C 0, 36, .inl u_denies)), (q_balance, .inl (C 0, 6, .inl u_balance)), (q_left, .inl (C 0, 6, .inl u_left)), (q_sum, .inl (C 0, 64, .inl u_sum)), (q_parts, .inl (C 0, 64, .inl u_parts)), (q_group, .inl (C 0, 3, .inl u_group)), (q_payment, .inl (C 0, 30, .inl u_payment))] [(q_, .inr (9, [.int u_people, .ref q_owes, .ref q_denies, .int u_debts, .ref q_debt, .int u_cuts, .ref q_cut, .int u_seen, .ref q_sight, .int u_events, .ref q_event, .int u_inBook, .ref q_book, .int u_texted, .ref q_text, .ref q_path, .int u_rule, .int u_rings, .int u_size, .int u_least, .long u_worth, .ref q_ring, .ref q_balance, .ref q_left, .ref q_sum, .ref q_parts, .int z.2.1, .ref q_group, .int z.2.2.1, .ref q_payment, .ref q_then, .int u_imaged, .ref q_image, .ref q_tapeSort, .ref q_tapeSize, .ref q_items])), (q_owes, .inl (C 0, 36, .inl u_owes)), (q_denies, .inl (C 0, 36, .inl u_denies)), (q_balance, .inl (C 0, 6, .inl z.2.2.2.1)), (q_left, .inl (C 0, 6, .inl z.2.2.2.2.1)), (q_sum, .inl (C 0, 64, .inl z.2.2.2.2.2.1)), (q_parts, .inl (C 0, 64, .inl z.2.2.2.2.2.2.1)), (q_group, .inl (C 0, 3, .inl z.2.2.2.2.2.2.2.1)), (q_payment, .inl (C 0, 30, .inl z.2.2.2.2.2.2.2.2))] (some (.int z.1)) := by
  refine Ct_of (by decide) (Nat.le_of_ble_eq_true rfl) ?_
  intro p e R s m args below meth c A Q H locs ls cx hw hl hret
  have cx : CX p m c s args RX9 cX9_kept 3 D C A R 4 := cx
  have hx := cx.1
  have hb := cx.2.1
  have hl : lv_has ls 3 [(0, .ref q_)] := hl
  rw [fX9_kept.eq_1] at hF
  refine lv_aload_n hx hb dX9_kept_0 rfl (lv_at hl 0 rfl) ?_
  obtain ⟨z1, hz1, hF⟩ := ob hF
  refine cV (wr := [(q_denies, .inl (C 0, 36, .inl u_denies))]) (w2 := [(q_, .inr (9, [.int u_people, .ref q_owes, .ref q_denies, .int u_debts, .ref q_debt, .int u_cuts, .ref q_cut, .int u_seen, .ref q_sight, .int u_events, .ref q_event, .int u_inBook, .ref q_book, .int u_texted, .ref q_text, .ref q_path, .int u_rule, .int u_rings, .int u_size, .int u_least, .long u_worth, .ref q_ring, .ref q_balance, .ref q_left, .ref q_sum, .ref q_parts, .int z1.1, .ref q_group, .int z1.2.1, .ref q_payment, .ref q_then, .int u_imaged, .ref q_image, .ref q_tapeSort, .ref q_tapeSize, .ref q_items])), (q_owes, .inl (C 0, 36, .inl u_owes)), (q_denies, .inl (C 0, 36, .inl u_denies)), (q_balance, .inl (C 0, 6, .inl z1.2.2.1)), (q_left, .inl (C 0, 6, .inl z1.2.2.2.1)), (q_sum, .inl (C 0, 64, .inl z1.2.2.2.2.1)), (q_parts, .inl (C 0, 64, .inl z1.2.2.2.2.2.1)), (q_group, .inl (C 0, 3, .inl z1.2.2.2.2.2.2.1)), (q_payment, .inl (C 0, 30, .inl z1.2.2.2.2.2.2.2))]) (st2 := []) cx (CX9_payments l D C q_ q_owes q_denies q_debt q_cut q_sight q_event q_book q_text q_path q_ring q_balance q_left q_sum q_parts q_group q_payment q_then q_image q_tapeSort q_tapeSize q_items u_people u_debts u_cuts u_seen u_events u_inBook u_texted u_rule u_rings u_size u_least u_worth u_groups u_paid u_imaged u_owes u_balance u_left u_sum u_parts u_group u_payment z1 hz1) lk_X9_192 my_X9_payments ml_X9_payments ⟨by decide, by decide⟩ hw [0, 1, 3, 4, 5, 6, 7, 8] [2] [1, 2, 0, 3, 4, 5, 6, 7, 8] rfl rfl (by decide) rfl rfl rfl rfl (Nat.le_of_ble_eq_true rfl) dX9_kept_1 rfl (fun H locs hw => ?_) hl.1
  refine lv_iconst (v := 0) hx hb dX9_kept_4 (by decide) ?_
  refine lv_istore_n (lv' := [(1, .int 0), (0, .ref q_)]) hx hb dX9_kept_5 rfl hl (by decide) rfl (fun ls hl => ?_)
  refine lv_iconst (v := 0) hx hb dX9_kept_6 (by decide) ?_
  refine lv_istore_n (lv' := [(2, .int 0), (1, .int 0), (0, .ref q_)]) hx hb dX9_kept_7 rfl hl (by decide) rfl (fun ls hl => ?_)
  refine LX9_kept_8 cx hret 400 0 0 H locs ls hF hw (lv_sub hl [2, 1, 0] rfl)
theorem dX9_fewest_0 : decode cX9_fewest 0 = .ok (.aload_n 0, 1) := by decide +kernel
theorem dX9_fewest_1 : decode cX9_fewest 1 = .ok (.invokevirtual 192, 3) := by decide +kernel
theorem dX9_fewest_4 : decode cX9_fewest 4 = .ok (.aload_n 0, 1) := by decide +kernel
theorem dX9_fewest_5 : decode cX9_fewest 5 = .ok (.getfield 186, 3) := by decide +kernel
theorem dX9_fewest_8 : decode cX9_fewest 8 = .ok (.ireturn, 1) := by decide +kernel
def fX9_fewest (u_people : Int32) (u_owes : (Nat → Int32)) (u_balance : (Nat → Int32)) (u_left : (Nat → Int32)) (u_sum : (Nat → Int32)) (u_parts : (Nat → Int32)) (u_group : (Nat → Int32)) (u_payment : (Nat → Int32)) : Option (Int32 × Int32 × Int32 × (Nat → Int32) × (Nat → Int32) × (Nat → Int32) × (Nat → Int32) × (Nat → Int32) × (Nat → Int32)) := (fX9_payments u_people u_owes u_balance u_left u_sum u_parts u_group u_payment).bind (fun z1 => some (z1.2.1, z1.1, z1.2.1, z1.2.2.1, z1.2.2.2.1, z1.2.2.2.2.1, z1.2.2.2.2.2.1, z1.2.2.2.2.2.2.1, z1.2.2.2.2.2.2.2))
set_option maxRecDepth 20000 in
theorem CX9_fewest (l : Launch) (D : va_G) (C : Nat → ClassId) (q_ q_owes q_denies q_debt q_cut q_sight q_event q_book q_text q_path q_ring q_balance q_left q_sum q_parts q_group q_payment q_then q_image q_tapeSort q_tapeSize q_items : Nat) (u_people : Int32) (u_debts : Int32) (u_cuts : Int32) (u_seen : Int32) (u_events : Int32) (u_inBook : Int32) (u_texted : Int32) (u_rule : Int32) (u_rings : Int32) (u_size : Int32) (u_least : Int32) (u_worth : Int64) (u_groups : Int32) (u_paid : Int32) (u_imaged : Int32) (u_owes : (Nat → Int32)) (u_balance : (Nat → Int32)) (u_left : (Nat → Int32)) (u_sum : (Nat → Int32)) (u_parts : (Nat → Int32)) (u_group : (Nat → Int32)) (u_payment : (Nat → Int32)) (z : (Int32 × Int32 × Int32 × (Nat → Int32) × (Nat → Int32) × (Nat → Int32) × (Nat → Int32) × (Nat → Int32) × (Nat → Int32))) (hF : fX9_fewest u_people u_owes u_balance u_left u_sum u_parts u_group u_payment = some z) : Ct l yX9_fewest cX9_fewest 1 (some .int) 4 D C [.ref q_] [(q_, .inr (9, [.int u_people, .ref q_owes, .ref q_denies, .int u_debts, .ref q_debt, .int u_cuts, .ref q_cut, .int u_seen, .ref q_sight, .int u_events, .ref q_event, .int u_inBook, .ref q_book, .int u_texted, .ref q_text, .ref q_path, .int u_rule, .int u_rings, .int u_size, .int u_least, .long u_worth, .ref q_ring, .ref q_balance, .ref q_left, .ref q_sum, .ref q_parts, .int u_groups, .ref q_group, .int u_paid, .ref q_payment, .ref q_then, .int u_imaged, .ref q_image, .ref q_tapeSort, .ref q_tapeSize, .ref q_items])), (q_owes, .inl (C 0, 36, .inl u_owes)), (q_balance, .inl (C 0, 6, .inl u_balance)), (q_left, .inl (C 0, 6, .inl u_left)), (q_sum, .inl (C 0, 64, .inl u_sum)), (q_parts, .inl (C 0, 64, .inl u_parts)), (q_group, .inl (C 0, 3, .inl u_group)), (q_payment, .inl (C 0, 30, .inl u_payment))] [(q_, .inr (9, [.int u_people, .ref q_owes, .ref q_denies, .int u_debts, .ref q_debt, .int u_cuts, .ref q_cut, .int u_seen, .ref q_sight, .int u_events, .ref q_event, .int u_inBook, .ref q_book, .int u_texted, .ref q_text, .ref q_path, .int u_rule, .int u_rings, .int u_size, .int u_least, .long u_worth, .ref q_ring, .ref q_balance, .ref q_left, .ref q_sum, .ref q_parts, .int z.2.1, .ref q_group, .int z.2.2.1, .ref q_payment, .ref q_then, .int u_imaged, .ref q_image, .ref q_tapeSort, .ref q_tapeSize, .ref q_items])), (q_owes, .inl (C 0, 36, .inl u_owes)), (q_balance, .inl (C 0, 6, .inl z.2.2.2.1)), (q_left, .inl (C 0, 6, .inl z.2.2.2.2.1)), (q_sum, .inl (C 0, 64, .inl z.2.2.2.2.2.1)), (q_parts, .inl (C 0, 64, .inl z.2.2.2.2.2.2.1)), (q_group, .inl (C 0, 3, .inl z.2.2.2.2.2.2.2.1)), (q_payment, .inl (C 0, 30, .inl z.2.2.2.2.2.2.2.2))] (some (.int z.1)) := by
  refine Ct_of (by decide) (Nat.le_of_ble_eq_true rfl) ?_
  intro p e R s m args below meth c A Q H locs ls cx hw hl hret
  have cx : CX p m c s args RX9 cX9_fewest 1 D C A R 4 := cx
  have hx := cx.1
  have hb := cx.2.1
  have hl : lv_has ls 1 [(0, .ref q_)] := hl
  rw [fX9_fewest.eq_1] at hF
  refine lv_aload_n hx hb dX9_fewest_0 rfl (lv_at hl 0 rfl) ?_
  obtain ⟨z1, hz1, hF⟩ := ob hF
  refine cV (wr := []) (w2 := [(q_, .inr (9, [.int u_people, .ref q_owes, .ref q_denies, .int u_debts, .ref q_debt, .int u_cuts, .ref q_cut, .int u_seen, .ref q_sight, .int u_events, .ref q_event, .int u_inBook, .ref q_book, .int u_texted, .ref q_text, .ref q_path, .int u_rule, .int u_rings, .int u_size, .int u_least, .long u_worth, .ref q_ring, .ref q_balance, .ref q_left, .ref q_sum, .ref q_parts, .int z1.1, .ref q_group, .int z1.2.1, .ref q_payment, .ref q_then, .int u_imaged, .ref q_image, .ref q_tapeSort, .ref q_tapeSize, .ref q_items])), (q_owes, .inl (C 0, 36, .inl u_owes)), (q_balance, .inl (C 0, 6, .inl z1.2.2.1)), (q_left, .inl (C 0, 6, .inl z1.2.2.2.1)), (q_sum, .inl (C 0, 64, .inl z1.2.2.2.2.1)), (q_parts, .inl (C 0, 64, .inl z1.2.2.2.2.2.1)), (q_group, .inl (C 0, 3, .inl z1.2.2.2.2.2.2.1)), (q_payment, .inl (C 0, 30, .inl z1.2.2.2.2.2.2.2))]) (st2 := []) cx (CX9_payments l D C q_ q_owes q_denies q_debt q_cut q_sight q_event q_book q_text q_path q_ring q_balance q_left q_sum q_parts q_group q_payment q_then q_image q_tapeSort q_tapeSize q_items u_people u_debts u_cuts u_seen u_events u_inBook u_texted u_rule u_rings u_size u_least u_worth u_groups u_paid u_imaged u_owes u_balance u_left u_sum u_parts u_group u_payment z1 hz1) lk_X9_192 my_X9_payments ml_X9_payments ⟨by decide, by decide⟩ hw [0, 1, 2, 3, 4, 5, 6, 7] [] [0, 1, 2, 3, 4, 5, 6, 7] rfl rfl (by decide) rfl rfl rfl rfl (Nat.le_of_ble_eq_true rfl) dX9_fewest_1 rfl (fun H locs hw => ?_) hl.1
  refine lv_aload_n hx hb dX9_fewest_4 rfl (lv_at hl 0 rfl) ?_
  refine r_get (ci := 9) (v := .int z1.2.1) cx hw iX9 0 28 rfl rfl (by decide) wf_X9_186 rfl dX9_fewest_5 ?_
  obtain rfl := Option.some.inj hF
  exact rt_i hret hw rfl dX9_fewest_8
theorem lk_X9_208 : Cond.methodLink RX9 208 yX9_total ∈ gdt := gdt_of 1119 (by decide +kernel) (by decide +kernel)
theorem lk_X9_211 : Cond.methodLink RX9 211 yX9_net ∈ gdt := gdt_of 1123 (by decide +kernel) (by decide +kernel)
theorem lk_X9_214 : Cond.methodLink RX9 214 yX9_open ∈ gdt := gdt_of 1131 (by decide +kernel) (by decide +kernel)
theorem lk_X9_217 : Cond.methodLink RX9 217 yX9_fewest ∈ gdt := gdt_of 1135 (by decide +kernel) (by decide +kernel)
theorem lk_X9_220 : Cond.methodLink RX9 220 yX9_kept ∈ gdt := gdt_of 1139 (by decide +kernel) (by decide +kernel)
theorem my_X9_total : (yX9_total.cls ≠ "java/lang/invoke/MethodHandle" ∧ yX9_total.cls ≠ "java/lang/invoke/VarHandle") ∧ Cond.instanceMethod yX9_total ∈ gdt ∧ Cond.selects yX9_total.cls yX9_total yX9_total ∈ gdt ∧ Cond.initialized yX9_total.cls ∈ gdt ∧ Cond.code yX9_total cX9_total 3 (some .int) ∈ gdt := ⟨⟨by decide +kernel, by decide +kernel⟩, gdt_of 1121 (by decide +kernel) (by decide +kernel), gdt_of 53 (by decide +kernel) (by decide +kernel), gdt_of 77 (by decide +kernel) (by decide +kernel), gdt_of 1122 (by decide +kernel) (by decide +kernel)⟩
theorem ml_X9_total : (parseMethodDescriptor yX9_total.desc).map (fun d => d.parameters.length) = some 0 := by decide +kernel
theorem my_X9_net : (yX9_net.cls ≠ "java/lang/invoke/MethodHandle" ∧ yX9_net.cls ≠ "java/lang/invoke/VarHandle") ∧ Cond.instanceMethod yX9_net ∈ gdt ∧ Cond.selects yX9_net.cls yX9_net yX9_net ∈ gdt ∧ Cond.initialized yX9_net.cls ∈ gdt ∧ Cond.code yX9_net cX9_net 2 (some .int) ∈ gdt := ⟨⟨by decide +kernel, by decide +kernel⟩, gdt_of 1125 (by decide +kernel) (by decide +kernel), gdt_of 54 (by decide +kernel) (by decide +kernel), gdt_of 77 (by decide +kernel) (by decide +kernel), gdt_of 1126 (by decide +kernel) (by decide +kernel)⟩
theorem ml_X9_net : (parseMethodDescriptor yX9_net.desc).map (fun d => d.parameters.length) = some 0 := by decide +kernel
theorem my_X9_open : (yX9_open.cls ≠ "java/lang/invoke/MethodHandle" ∧ yX9_open.cls ≠ "java/lang/invoke/VarHandle") ∧ Cond.instanceMethod yX9_open ∈ gdt ∧ Cond.selects yX9_open.cls yX9_open yX9_open ∈ gdt ∧ Cond.initialized yX9_open.cls ∈ gdt ∧ Cond.code yX9_open cX9_open 3 (some .int) ∈ gdt := ⟨⟨by decide +kernel, by decide +kernel⟩, gdt_of 1133 (by decide +kernel) (by decide +kernel), gdt_of 56 (by decide +kernel) (by decide +kernel), gdt_of 77 (by decide +kernel) (by decide +kernel), gdt_of 1134 (by decide +kernel) (by decide +kernel)⟩
theorem ml_X9_open : (parseMethodDescriptor yX9_open.desc).map (fun d => d.parameters.length) = some 0 := by decide +kernel
theorem my_X9_fewest : (yX9_fewest.cls ≠ "java/lang/invoke/MethodHandle" ∧ yX9_fewest.cls ≠ "java/lang/invoke/VarHandle") ∧ Cond.instanceMethod yX9_fewest ∈ gdt ∧ Cond.selects yX9_fewest.cls yX9_fewest yX9_fewest ∈ gdt ∧ Cond.initialized yX9_fewest.cls ∈ gdt ∧ Cond.code yX9_fewest cX9_fewest 1 (some .int) ∈ gdt := ⟨⟨by decide +kernel, by decide +kernel⟩, gdt_of 1137 (by decide +kernel) (by decide +kernel), gdt_of 57 (by decide +kernel) (by decide +kernel), gdt_of 77 (by decide +kernel) (by decide +kernel), gdt_of 1138 (by decide +kernel) (by decide +kernel)⟩
theorem ml_X9_fewest : (parseMethodDescriptor yX9_fewest.desc).map (fun d => d.parameters.length) = some 0 := by decide +kernel
theorem my_X9_kept : (yX9_kept.cls ≠ "java/lang/invoke/MethodHandle" ∧ yX9_kept.cls ≠ "java/lang/invoke/VarHandle") ∧ Cond.instanceMethod yX9_kept ∈ gdt ∧ Cond.selects yX9_kept.cls yX9_kept yX9_kept ∈ gdt ∧ Cond.initialized yX9_kept.cls ∈ gdt ∧ Cond.code yX9_kept cX9_kept 3 (some .int) ∈ gdt := ⟨⟨by decide +kernel, by decide +kernel⟩, gdt_of 1141 (by decide +kernel) (by decide +kernel), gdt_of 58 (by decide +kernel) (by decide +kernel), gdt_of 77 (by decide +kernel) (by decide +kernel), gdt_of 1142 (by decide +kernel) (by decide +kernel)⟩
theorem ml_X9_kept : (parseMethodDescriptor yX9_kept.desc).map (fun d => d.parameters.length) = some 0 := by decide +kernel
theorem dX9_told_0 : decode cX9_told 0 = .ok (.iload_n 1, 1) := by decide +kernel
theorem dX9_told_1 : decode cX9_told 1 = .ok (.tableswitch 141 0 11 #[63, 68, 73, 84, 89, 94, 99, 104, 113, 118, 123, 132], 63) := by decide +kernel
theorem dX9_told_64 : decode cX9_told 64 = .ok (.aload_n 0, 1) := by decide +kernel
theorem dX9_told_65 : decode cX9_told 65 = .ok (.getfield 76, 3) := by decide +kernel
theorem dX9_told_68 : decode cX9_told 68 = .ok (.ireturn, 1) := by decide +kernel
theorem dX9_told_69 : decode cX9_told 69 = .ok (.aload_n 0, 1) := by decide +kernel
theorem dX9_told_70 : decode cX9_told 70 = .ok (.getfield 88, 3) := by decide +kernel
theorem dX9_told_73 : decode cX9_told 73 = .ok (.ireturn, 1) := by decide +kernel
theorem dX9_told_74 : decode cX9_told 74 = .ok (.aload_n 0, 1) := by decide +kernel
theorem dX9_told_75 : decode cX9_told 75 = .ok (.iconst 0, 1) := by decide +kernel
theorem dX9_told_76 : decode cX9_told 76 = .ok (.invokevirtual 165, 3) := by decide +kernel
theorem dX9_told_79 : decode cX9_told 79 = .ok (.pop, 1) := by decide +kernel
theorem dX9_told_80 : decode cX9_told 80 = .ok (.aload_n 0, 1) := by decide +kernel
theorem dX9_told_81 : decode cX9_told 81 = .ok (.getfield 136, 3) := by decide +kernel
theorem dX9_told_84 : decode cX9_told 84 = .ok (.ireturn, 1) := by decide +kernel
theorem dX9_told_85 : decode cX9_told 85 = .ok (.aload_n 0, 1) := by decide +kernel
theorem dX9_told_86 : decode cX9_told 86 = .ok (.getfield 168, 3) := by decide +kernel
theorem dX9_told_89 : decode cX9_told 89 = .ok (.ireturn, 1) := by decide +kernel
theorem dX9_told_90 : decode cX9_told 90 = .ok (.aload_n 0, 1) := by decide +kernel
theorem dX9_told_91 : decode cX9_told 91 = .ok (.invokevirtual 208, 3) := by decide +kernel
theorem dX9_told_94 : decode cX9_told 94 = .ok (.ireturn, 1) := by decide +kernel
theorem dX9_told_95 : decode cX9_told 95 = .ok (.aload_n 0, 1) := by decide +kernel
theorem dX9_told_96 : decode cX9_told 96 = .ok (.invokevirtual 211, 3) := by decide +kernel
theorem dX9_told_99 : decode cX9_told 99 = .ok (.ireturn, 1) := by decide +kernel
theorem dX9_told_100 : decode cX9_told 100 = .ok (.aload_n 0, 1) := by decide +kernel
theorem dX9_told_101 : decode cX9_told 101 = .ok (.invokevirtual 214, 3) := by decide +kernel
theorem dX9_told_104 : decode cX9_told 104 = .ok (.ireturn, 1) := by decide +kernel
theorem dX9_told_105 : decode cX9_told 105 = .ok (.aload_n 0, 1) := by decide +kernel
theorem dX9_told_106 : decode cX9_told 106 = .ok (.invokevirtual 184, 3) := by decide +kernel
theorem dX9_told_109 : decode cX9_told 109 = .ok (.aload_n 0, 1) := by decide +kernel
theorem dX9_told_110 : decode cX9_told 110 = .ok (.getfield 181, 3) := by decide +kernel
theorem dX9_told_113 : decode cX9_told 113 = .ok (.ireturn, 1) := by decide +kernel
theorem dX9_told_114 : decode cX9_told 114 = .ok (.aload_n 0, 1) := by decide +kernel
theorem dX9_told_115 : decode cX9_told 115 = .ok (.invokevirtual 217, 3) := by decide +kernel
theorem dX9_told_118 : decode cX9_told 118 = .ok (.ireturn, 1) := by decide +kernel
theorem dX9_told_119 : decode cX9_told 119 = .ok (.aload_n 0, 1) := by decide +kernel
theorem dX9_told_120 : decode cX9_told 120 = .ok (.invokevirtual 220, 3) := by decide +kernel
theorem dX9_told_123 : decode cX9_told 123 = .ok (.ireturn, 1) := by decide +kernel
theorem dX9_told_124 : decode cX9_told 124 = .ok (.aload_n 0, 1) := by decide +kernel
theorem dX9_told_125 : decode cX9_told 125 = .ok (.invokevirtual 198, 3) := by decide +kernel
theorem dX9_told_128 : decode cX9_told 128 = .ok (.aload_n 0, 1) := by decide +kernel
theorem dX9_told_129 : decode cX9_told 129 = .ok (.getfield 186, 3) := by decide +kernel
theorem dX9_told_132 : decode cX9_told 132 = .ok (.ireturn, 1) := by decide +kernel
theorem dX9_told_133 : decode cX9_told 133 = .ok (.aload_n 0, 1) := by decide +kernel
theorem dX9_told_134 : decode cX9_told 134 = .ok (.invokevirtual 198, 3) := by decide +kernel
theorem dX9_told_137 : decode cX9_told 137 = .ok (.aload_n 0, 1) := by decide +kernel
theorem dX9_told_138 : decode cX9_told 138 = .ok (.invokevirtual 205, 3) := by decide +kernel
theorem dX9_told_141 : decode cX9_told 141 = .ok (.ireturn, 1) := by decide +kernel
theorem dX9_told_142 : decode cX9_told 142 = .ok (.iconst (-1), 1) := by decide +kernel
theorem dX9_told_143 : decode cX9_told 143 = .ok (.ireturn, 1) := by decide +kernel
def fX9_told (u_people : Int32) (u_debts : Int32) (u_cuts : Int32) (u_seen : Int32) (u_events : Int32) (u_inBook : Int32) (u_texted : Int32) (u_rule : Int32) (u_rings : Int32) (u_size : Int32) (u_least : Int32) (u_worth : Int64) (u_groups : Int32) (u_paid : Int32) (u_imaged : Int32) (u_owes : (Nat → Int32)) (u_denies : (Nat → Int32)) (u_debt : (Nat → Int32)) (u_path : (Nat → Int32)) (u_ring : (Nat → Int32)) (u_balance : (Nat → Int32)) (u_left : (Nat → Int32)) (u_sum : (Nat → Int32)) (u_parts : (Nat → Int32)) (u_group : (Nat → Int32)) (u_payment : (Nat → Int32)) (x1 : Int32) : Option (Int32 × Int32 × Int32 × Int32 × Int32 × Int64 × Int32 × Int32 × (Nat → Int32) × (Nat → Int32) × (Nat → Int32) × (Nat → Int32) × (Nat → Int32) × (Nat → Int32) × (Nat → Int32) × (Nat → Int32)) := if x1 = 0 then (some (u_people, u_rule, u_rings, u_size, u_least, u_worth, u_groups, u_paid, u_path, u_ring, u_balance, u_left, u_sum, u_parts, u_group, u_payment)) else (if x1 = 1 then (some (u_debts, u_rule, u_rings, u_size, u_least, u_worth, u_groups, u_paid, u_path, u_ring, u_balance, u_left, u_sum, u_parts, u_group, u_payment)) else (if x1 = 2 then ((fX9_takes u_people u_debts u_cuts u_seen u_events u_inBook u_texted u_least u_groups u_paid u_imaged u_owes u_denies u_path u_ring 0).bind (fun z4 => some (z4.2.2.1, z4.2.1, z4.2.2.1, z4.2.2.2.1, z4.2.2.2.2.1, z4.2.2.2.2.2.1, u_groups, u_paid, z4.2.2.2.2.2.2.1, z4.2.2.2.2.2.2.2, u_balance, u_left, u_sum, u_parts, u_group, u_payment))) else (if x1 = 3 then (some (u_cuts, u_rule, u_rings, u_size, u_least, u_worth, u_groups, u_paid, u_path, u_ring, u_balance, u_left, u_sum, u_parts, u_group, u_payment)) else (if x1 = 4 then ((fX9_total u_debts u_owes u_debt).bind (fun z7 => some (z7, u_rule, u_rings, u_size, u_least, u_worth, u_groups, u_paid, u_path, u_ring, u_balance, u_left, u_sum, u_parts, u_group, u_payment))) else (if x1 = 5 then ((fX9_net u_people u_owes u_balance u_left).bind (fun z9 => some (z9.1, u_rule, u_rings, u_size, u_least, u_worth, u_groups, u_paid, u_path, u_ring, z9.2.1, z9.2.2, u_sum, u_parts, u_group, u_payment))) else (if x1 = 6 then ((fX9_open u_people u_owes u_balance).bind (fun z11 => some (z11.1, u_rule, u_rings, u_size, u_least, u_worth, u_groups, u_paid, u_path, u_ring, z11.2, u_left, u_sum, u_parts, u_group, u_payment))) else (if x1 = 7 then ((fX9_groups u_people u_owes u_balance u_sum u_parts u_group).bind (fun z13 => some (z13.1, u_rule, u_rings, u_size, u_least, u_worth, z13.1, u_paid, u_path, u_ring, z13.2.1, u_left, z13.2.2.1, z13.2.2.2.1, z13.2.2.2.2, u_payment))) else (if x1 = 8 then ((fX9_fewest u_people u_owes u_balance u_left u_sum u_parts u_group u_payment).bind (fun z15 => some (z15.1, u_rule, u_rings, u_size, u_least, u_worth, z15.2.1, z15.2.2.1, u_path, u_ring, z15.2.2.2.1, z15.2.2.2.2.1, z15.2.2.2.2.2.1, z15.2.2.2.2.2.2.1, z15.2.2.2.2.2.2.2.1, z15.2.2.2.2.2.2.2.2))) else (if x1 = 9 then ((fX9_kept u_people u_owes u_denies u_balance u_left u_sum u_parts u_group u_payment).bind (fun z17 => some (z17.1, u_rule, u_rings, u_size, u_least, u_worth, z17.2.1, z17.2.2.1, u_path, u_ring, z17.2.2.2.1, z17.2.2.2.2.1, z17.2.2.2.2.2.1, z17.2.2.2.2.2.2.1, z17.2.2.2.2.2.2.2.1, z17.2.2.2.2.2.2.2.2))) else (if x1 = 10 then ((fX9_willing u_people u_owes u_denies u_balance u_left u_payment).bind (fun z19 => some (z19.1, u_rule, u_rings, u_size, u_least, u_worth, u_groups, z19.1, u_path, u_ring, z19.2.1, z19.2.2.1, u_sum, u_parts, u_group, z19.2.2.2))) else (if x1 = 11 then ((fX9_willing u_people u_owes u_denies u_balance u_left u_payment).bind (fun z21 => (fX9_above u_people z21.2.2.1).bind (fun z22 => some (z22, u_rule, u_rings, u_size, u_least, u_worth, u_groups, z21.1, u_path, u_ring, z21.2.1, z21.2.2.1, u_sum, u_parts, u_group, z21.2.2.2)))) else (some ((-1), u_rule, u_rings, u_size, u_least, u_worth, u_groups, u_paid, u_path, u_ring, u_balance, u_left, u_sum, u_parts, u_group, u_payment)))))))))))))
set_option maxRecDepth 20000 in
theorem CX9_told (l : Launch) (D : va_G) (C : Nat → ClassId) (q_ q_owes q_denies q_debt q_cut q_sight q_event q_book q_text q_path q_ring q_balance q_left q_sum q_parts q_group q_payment q_then q_image q_tapeSort q_tapeSize q_items : Nat) (u_people : Int32) (u_debts : Int32) (u_cuts : Int32) (u_seen : Int32) (u_events : Int32) (u_inBook : Int32) (u_texted : Int32) (u_rule : Int32) (u_rings : Int32) (u_size : Int32) (u_least : Int32) (u_worth : Int64) (u_groups : Int32) (u_paid : Int32) (u_imaged : Int32) (u_owes : (Nat → Int32)) (u_denies : (Nat → Int32)) (u_debt : (Nat → Int32)) (u_path : (Nat → Int32)) (u_ring : (Nat → Int32)) (u_balance : (Nat → Int32)) (u_left : (Nat → Int32)) (u_sum : (Nat → Int32)) (u_parts : (Nat → Int32)) (u_group : (Nat → Int32)) (u_payment : (Nat → Int32)) (x1 : Int32) (z : (Int32 × Int32 × Int32 × Int32 × Int32 × Int64 × Int32 × Int32 × (Nat → Int32) × (Nat → Int32) × (Nat → Int32) × (Nat → Int32) × (Nat → Int32) × (Nat → Int32) × (Nat → Int32) × (Nat → Int32))) (hF : fX9_told u_people u_debts u_cuts u_seen u_events u_inBook u_texted u_rule u_rings u_size u_least u_worth u_groups u_paid u_imaged u_owes u_denies u_debt u_path u_ring u_balance u_left u_sum u_parts u_group u_payment x1 = some z) : Ct l yX9_told cX9_told 2 (some .int) 13 D C [.ref q_, .int x1] [(q_, .inr (9, [.int u_people, .ref q_owes, .ref q_denies, .int u_debts, .ref q_debt, .int u_cuts, .ref q_cut, .int u_seen, .ref q_sight, .int u_events, .ref q_event, .int u_inBook, .ref q_book, .int u_texted, .ref q_text, .ref q_path, .int u_rule, .int u_rings, .int u_size, .int u_least, .long u_worth, .ref q_ring, .ref q_balance, .ref q_left, .ref q_sum, .ref q_parts, .int u_groups, .ref q_group, .int u_paid, .ref q_payment, .ref q_then, .int u_imaged, .ref q_image, .ref q_tapeSort, .ref q_tapeSize, .ref q_items])), (q_owes, .inl (C 0, 36, .inl u_owes)), (q_denies, .inl (C 0, 36, .inl u_denies)), (q_debt, .inl (C 0, 30, .inl u_debt)), (q_path, .inl (C 0, 6, .inl u_path)), (q_ring, .inl (C 0, 6, .inl u_ring)), (q_balance, .inl (C 0, 6, .inl u_balance)), (q_left, .inl (C 0, 6, .inl u_left)), (q_sum, .inl (C 0, 64, .inl u_sum)), (q_parts, .inl (C 0, 64, .inl u_parts)), (q_group, .inl (C 0, 3, .inl u_group)), (q_payment, .inl (C 0, 30, .inl u_payment))] [(q_, .inr (9, [.int u_people, .ref q_owes, .ref q_denies, .int u_debts, .ref q_debt, .int u_cuts, .ref q_cut, .int u_seen, .ref q_sight, .int u_events, .ref q_event, .int u_inBook, .ref q_book, .int u_texted, .ref q_text, .ref q_path, .int z.2.1, .int z.2.2.1, .int z.2.2.2.1, .int z.2.2.2.2.1, .long z.2.2.2.2.2.1, .ref q_ring, .ref q_balance, .ref q_left, .ref q_sum, .ref q_parts, .int z.2.2.2.2.2.2.1, .ref q_group, .int z.2.2.2.2.2.2.2.1, .ref q_payment, .ref q_then, .int u_imaged, .ref q_image, .ref q_tapeSort, .ref q_tapeSize, .ref q_items])), (q_owes, .inl (C 0, 36, .inl u_owes)), (q_denies, .inl (C 0, 36, .inl u_denies)), (q_debt, .inl (C 0, 30, .inl u_debt)), (q_path, .inl (C 0, 6, .inl z.2.2.2.2.2.2.2.2.1)), (q_ring, .inl (C 0, 6, .inl z.2.2.2.2.2.2.2.2.2.1)), (q_balance, .inl (C 0, 6, .inl z.2.2.2.2.2.2.2.2.2.2.1)), (q_left, .inl (C 0, 6, .inl z.2.2.2.2.2.2.2.2.2.2.2.1)), (q_sum, .inl (C 0, 64, .inl z.2.2.2.2.2.2.2.2.2.2.2.2.1)), (q_parts, .inl (C 0, 64, .inl z.2.2.2.2.2.2.2.2.2.2.2.2.2.1)), (q_group, .inl (C 0, 3, .inl z.2.2.2.2.2.2.2.2.2.2.2.2.2.2.1)), (q_payment, .inl (C 0, 30, .inl z.2.2.2.2.2.2.2.2.2.2.2.2.2.2.2))] (some (.int z.1)) := by
  refine Ct_of (by decide) (Nat.le_of_ble_eq_true rfl) ?_
  intro p e R s m args below meth c A Q H locs ls cx hw hl hret
  have cx : CX p m c s args RX9 cX9_told 2 D C A R 13 := cx
  have hx := cx.1
  have hb := cx.2.1
  have hl : lv_has ls 2 [(0, .ref q_), (1, .int x1)] := hl
  rw [fX9_told.eq_1] at hF
  refine lv_iload_n hx hb dX9_told_0 rfl (lv_at hl 1 rfl) ?_
  by_cases c1 : x1 = 0
  · replace hF := oi_t c1 hF
    refine lv_tableIn (tgt := 64) (off := 63) hx hb dX9_told_1 (by rw [c1]; decide) (by rw [c1]; decide) (by rw [c1]; decide +kernel) (by decide) ?_
    refine lv_aload_n hx hb dX9_told_64 rfl (lv_at hl 0 rfl) ?_
    refine r_get (ci := 9) (v := .int u_people) cx hw iX9 0 0 rfl rfl (by decide) wf_X9_76 rfl dX9_told_65 ?_
    obtain rfl := Option.some.inj hF
    exact rt_i hret hw rfl dX9_told_68
  replace hF := oi_f c1 hF
  by_cases c2 : x1 = 1
  · replace hF := oi_t c2 hF
    refine lv_tableIn (tgt := 69) (off := 68) hx hb dX9_told_1 (by rw [c2]; decide) (by rw [c2]; decide) (by rw [c2]; decide +kernel) (by decide) ?_
    refine lv_aload_n hx hb dX9_told_69 rfl (lv_at hl 0 rfl) ?_
    refine r_get (ci := 9) (v := .int u_debts) cx hw iX9 0 3 rfl rfl (by decide) wf_X9_88 rfl dX9_told_70 ?_
    obtain rfl := Option.some.inj hF
    exact rt_i hret hw rfl dX9_told_73
  replace hF := oi_f c2 hF
  by_cases c3 : x1 = 2
  · replace hF := oi_t c3 hF
    refine lv_tableIn (tgt := 74) (off := 73) hx hb dX9_told_1 (by rw [c3]; decide) (by rw [c3]; decide) (by rw [c3]; decide +kernel) (by decide) ?_
    refine lv_aload_n hx hb dX9_told_74 rfl (lv_at hl 0 rfl) ?_
    refine lv_iconst (v := 0) hx hb dX9_told_75 (by decide) ?_
    obtain ⟨z4, hz4, hF⟩ := ob hF
    refine cV (wr := [(q_debt, .inl (C 0, 30, .inl u_debt)), (q_balance, .inl (C 0, 6, .inl u_balance)), (q_left, .inl (C 0, 6, .inl u_left)), (q_sum, .inl (C 0, 64, .inl u_sum)), (q_parts, .inl (C 0, 64, .inl u_parts)), (q_group, .inl (C 0, 3, .inl u_group)), (q_payment, .inl (C 0, 30, .inl u_payment))]) (w2 := [(q_, .inr (9, [.int u_people, .ref q_owes, .ref q_denies, .int u_debts, .ref q_debt, .int u_cuts, .ref q_cut, .int u_seen, .ref q_sight, .int u_events, .ref q_event, .int u_inBook, .ref q_book, .int u_texted, .ref q_text, .ref q_path, .int z4.2.1, .int z4.2.2.1, .int z4.2.2.2.1, .int z4.2.2.2.2.1, .long z4.2.2.2.2.2.1, .ref q_ring, .ref q_balance, .ref q_left, .ref q_sum, .ref q_parts, .int u_groups, .ref q_group, .int u_paid, .ref q_payment, .ref q_then, .int u_imaged, .ref q_image, .ref q_tapeSort, .ref q_tapeSize, .ref q_items])), (q_owes, .inl (C 0, 36, .inl u_owes)), (q_denies, .inl (C 0, 36, .inl u_denies)), (q_debt, .inl (C 0, 30, .inl u_debt)), (q_path, .inl (C 0, 6, .inl z4.2.2.2.2.2.2.1)), (q_ring, .inl (C 0, 6, .inl z4.2.2.2.2.2.2.2)), (q_balance, .inl (C 0, 6, .inl u_balance)), (q_left, .inl (C 0, 6, .inl u_left)), (q_sum, .inl (C 0, 64, .inl u_sum)), (q_parts, .inl (C 0, 64, .inl u_parts)), (q_group, .inl (C 0, 3, .inl u_group)), (q_payment, .inl (C 0, 30, .inl u_payment))]) (st2 := [.int z4.1]) cx (CX9_takes l D C q_ q_owes q_denies q_debt q_cut q_sight q_event q_book q_text q_path q_ring q_balance q_left q_sum q_parts q_group q_payment q_then q_image q_tapeSort q_tapeSize q_items u_people u_debts u_cuts u_seen u_events u_inBook u_texted u_rule u_rings u_size u_least u_worth u_groups u_paid u_imaged u_owes u_denies u_path u_ring 0 z4 hz4) lk_X9_165 my_X9_takes ml_X9_takes ⟨by decide, by decide⟩ hw [0, 1, 2, 4, 5] [3, 6, 7, 8, 9, 10, 11] [7, 8, 9, 0, 10, 11, 1, 2, 3, 4, 5, 6] rfl rfl (by decide) rfl rfl rfl rfl (Nat.le_of_ble_eq_true rfl) dX9_told_76 rfl (fun H locs hw => ?_) hl.1
    refine lv_pop hx hb dX9_told_79 rfl ?_
    refine lv_aload_n hx hb dX9_told_80 rfl (lv_at hl 0 rfl) ?_
    refine r_get (ci := 9) (v := .int z4.2.2.1) cx hw iX9 0 17 rfl rfl (by decide) wf_X9_136 rfl dX9_told_81 ?_
    obtain rfl := Option.some.inj hF
    exact rt_i hret hw rfl dX9_told_84
  replace hF := oi_f c3 hF
  by_cases c5 : x1 = 3
  · replace hF := oi_t c5 hF
    refine lv_tableIn (tgt := 85) (off := 84) hx hb dX9_told_1 (by rw [c5]; decide) (by rw [c5]; decide) (by rw [c5]; decide +kernel) (by decide) ?_
    refine lv_aload_n hx hb dX9_told_85 rfl (lv_at hl 0 rfl) ?_
    refine r_get (ci := 9) (v := .int u_cuts) cx hw iX9 0 5 rfl rfl (by decide) wf_X9_168 rfl dX9_told_86 ?_
    obtain rfl := Option.some.inj hF
    exact rt_i hret hw rfl dX9_told_89
  replace hF := oi_f c5 hF
  by_cases c6 : x1 = 4
  · replace hF := oi_t c6 hF
    refine lv_tableIn (tgt := 90) (off := 89) hx hb dX9_told_1 (by rw [c6]; decide) (by rw [c6]; decide) (by rw [c6]; decide +kernel) (by decide) ?_
    refine lv_aload_n hx hb dX9_told_90 rfl (lv_at hl 0 rfl) ?_
    obtain ⟨z7, hz7, hF⟩ := ob hF
    refine cV (wr := [(q_denies, .inl (C 0, 36, .inl u_denies)), (q_path, .inl (C 0, 6, .inl u_path)), (q_ring, .inl (C 0, 6, .inl u_ring)), (q_balance, .inl (C 0, 6, .inl u_balance)), (q_left, .inl (C 0, 6, .inl u_left)), (q_sum, .inl (C 0, 64, .inl u_sum)), (q_parts, .inl (C 0, 64, .inl u_parts)), (q_group, .inl (C 0, 3, .inl u_group)), (q_payment, .inl (C 0, 30, .inl u_payment))]) (w2 := [(q_, .inr (9, [.int u_people, .ref q_owes, .ref q_denies, .int u_debts, .ref q_debt, .int u_cuts, .ref q_cut, .int u_seen, .ref q_sight, .int u_events, .ref q_event, .int u_inBook, .ref q_book, .int u_texted, .ref q_text, .ref q_path, .int u_rule, .int u_rings, .int u_size, .int u_least, .long u_worth, .ref q_ring, .ref q_balance, .ref q_left, .ref q_sum, .ref q_parts, .int u_groups, .ref q_group, .int u_paid, .ref q_payment, .ref q_then, .int u_imaged, .ref q_image, .ref q_tapeSort, .ref q_tapeSize, .ref q_items])), (q_owes, .inl (C 0, 36, .inl u_owes)), (q_denies, .inl (C 0, 36, .inl u_denies)), (q_debt, .inl (C 0, 30, .inl u_debt)), (q_path, .inl (C 0, 6, .inl u_path)), (q_ring, .inl (C 0, 6, .inl u_ring)), (q_balance, .inl (C 0, 6, .inl u_balance)), (q_left, .inl (C 0, 6, .inl u_left)), (q_sum, .inl (C 0, 64, .inl u_sum)), (q_parts, .inl (C 0, 64, .inl u_parts)), (q_group, .inl (C 0, 3, .inl u_group)), (q_payment, .inl (C 0, 30, .inl u_payment))]) (st2 := [.int z7]) cx (CX9_total l D C q_ q_owes q_denies q_debt q_cut q_sight q_event q_book q_text q_path q_ring q_balance q_left q_sum q_parts q_group q_payment q_then q_image q_tapeSort q_tapeSize q_items u_people u_debts u_cuts u_seen u_events u_inBook u_texted u_rule u_rings u_size u_least u_worth u_groups u_paid u_imaged u_owes u_debt z7 hz7) lk_X9_208 my_X9_total ml_X9_total ⟨by decide, by decide⟩ hw [0, 1, 3] [2, 4, 5, 6, 7, 8, 9, 10, 11] [9, 10, 0, 11, 1, 2, 3, 4, 5, 6, 7, 8] rfl rfl (by decide) rfl rfl rfl rfl (Nat.le_of_ble_eq_true rfl) dX9_told_91 rfl (fun H locs hw => ?_) hl.1
    obtain rfl := Option.some.inj hF
    exact rt_i hret hw rfl dX9_told_94
  replace hF := oi_f c6 hF
  by_cases c8 : x1 = 5
  · replace hF := oi_t c8 hF
    refine lv_tableIn (tgt := 95) (off := 94) hx hb dX9_told_1 (by rw [c8]; decide) (by rw [c8]; decide) (by rw [c8]; decide +kernel) (by decide) ?_
    refine lv_aload_n hx hb dX9_told_95 rfl (lv_at hl 0 rfl) ?_
    obtain ⟨z9, hz9, hF⟩ := ob hF
    refine cV (wr := [(q_denies, .inl (C 0, 36, .inl u_denies)), (q_debt, .inl (C 0, 30, .inl u_debt)), (q_path, .inl (C 0, 6, .inl u_path)), (q_ring, .inl (C 0, 6, .inl u_ring)), (q_sum, .inl (C 0, 64, .inl u_sum)), (q_parts, .inl (C 0, 64, .inl u_parts)), (q_group, .inl (C 0, 3, .inl u_group)), (q_payment, .inl (C 0, 30, .inl u_payment))]) (w2 := [(q_, .inr (9, [.int u_people, .ref q_owes, .ref q_denies, .int u_debts, .ref q_debt, .int u_cuts, .ref q_cut, .int u_seen, .ref q_sight, .int u_events, .ref q_event, .int u_inBook, .ref q_book, .int u_texted, .ref q_text, .ref q_path, .int u_rule, .int u_rings, .int u_size, .int u_least, .long u_worth, .ref q_ring, .ref q_balance, .ref q_left, .ref q_sum, .ref q_parts, .int u_groups, .ref q_group, .int u_paid, .ref q_payment, .ref q_then, .int u_imaged, .ref q_image, .ref q_tapeSort, .ref q_tapeSize, .ref q_items])), (q_owes, .inl (C 0, 36, .inl u_owes)), (q_denies, .inl (C 0, 36, .inl u_denies)), (q_debt, .inl (C 0, 30, .inl u_debt)), (q_path, .inl (C 0, 6, .inl u_path)), (q_ring, .inl (C 0, 6, .inl u_ring)), (q_balance, .inl (C 0, 6, .inl z9.2.1)), (q_left, .inl (C 0, 6, .inl z9.2.2)), (q_sum, .inl (C 0, 64, .inl u_sum)), (q_parts, .inl (C 0, 64, .inl u_parts)), (q_group, .inl (C 0, 3, .inl u_group)), (q_payment, .inl (C 0, 30, .inl u_payment))]) (st2 := [.int z9.1]) cx (CX9_net l D C q_ q_owes q_denies q_debt q_cut q_sight q_event q_book q_text q_path q_ring q_balance q_left q_sum q_parts q_group q_payment q_then q_image q_tapeSort q_tapeSize q_items u_people u_debts u_cuts u_seen u_events u_inBook u_texted u_rule u_rings u_size u_least u_worth u_groups u_paid u_imaged u_owes u_balance u_left z9 hz9) lk_X9_211 my_X9_net ml_X9_net ⟨by decide, by decide⟩ hw [0, 1, 6, 7] [2, 3, 4, 5, 8, 9, 10, 11] [8, 9, 0, 1, 2, 3, 10, 11, 4, 5, 6, 7] rfl rfl (by decide) rfl rfl rfl rfl (Nat.le_of_ble_eq_true rfl) dX9_told_96 rfl (fun H locs hw => ?_) hl.1
    obtain rfl := Option.some.inj hF
    exact rt_i hret hw rfl dX9_told_99
  replace hF := oi_f c8 hF
  by_cases c10 : x1 = 6
  · replace hF := oi_t c10 hF
    refine lv_tableIn (tgt := 100) (off := 99) hx hb dX9_told_1 (by rw [c10]; decide) (by rw [c10]; decide) (by rw [c10]; decide +kernel) (by decide) ?_
    refine lv_aload_n hx hb dX9_told_100 rfl (lv_at hl 0 rfl) ?_
    obtain ⟨z11, hz11, hF⟩ := ob hF
    refine cV (wr := [(q_denies, .inl (C 0, 36, .inl u_denies)), (q_debt, .inl (C 0, 30, .inl u_debt)), (q_path, .inl (C 0, 6, .inl u_path)), (q_ring, .inl (C 0, 6, .inl u_ring)), (q_left, .inl (C 0, 6, .inl u_left)), (q_sum, .inl (C 0, 64, .inl u_sum)), (q_parts, .inl (C 0, 64, .inl u_parts)), (q_group, .inl (C 0, 3, .inl u_group)), (q_payment, .inl (C 0, 30, .inl u_payment))]) (w2 := [(q_, .inr (9, [.int u_people, .ref q_owes, .ref q_denies, .int u_debts, .ref q_debt, .int u_cuts, .ref q_cut, .int u_seen, .ref q_sight, .int u_events, .ref q_event, .int u_inBook, .ref q_book, .int u_texted, .ref q_text, .ref q_path, .int u_rule, .int u_rings, .int u_size, .int u_least, .long u_worth, .ref q_ring, .ref q_balance, .ref q_left, .ref q_sum, .ref q_parts, .int u_groups, .ref q_group, .int u_paid, .ref q_payment, .ref q_then, .int u_imaged, .ref q_image, .ref q_tapeSort, .ref q_tapeSize, .ref q_items])), (q_owes, .inl (C 0, 36, .inl u_owes)), (q_denies, .inl (C 0, 36, .inl u_denies)), (q_debt, .inl (C 0, 30, .inl u_debt)), (q_path, .inl (C 0, 6, .inl u_path)), (q_ring, .inl (C 0, 6, .inl u_ring)), (q_balance, .inl (C 0, 6, .inl z11.2)), (q_left, .inl (C 0, 6, .inl u_left)), (q_sum, .inl (C 0, 64, .inl u_sum)), (q_parts, .inl (C 0, 64, .inl u_parts)), (q_group, .inl (C 0, 3, .inl u_group)), (q_payment, .inl (C 0, 30, .inl u_payment))]) (st2 := [.int z11.1]) cx (CX9_open l D C q_ q_owes q_denies q_debt q_cut q_sight q_event q_book q_text q_path q_ring q_balance q_left q_sum q_parts q_group q_payment q_then q_image q_tapeSort q_tapeSize q_items u_people u_debts u_cuts u_seen u_events u_inBook u_texted u_rule u_rings u_size u_least u_worth u_groups u_paid u_imaged u_owes u_balance z11 hz11) lk_X9_214 my_X9_open ml_X9_open ⟨by decide, by decide⟩ hw [0, 1, 6] [2, 3, 4, 5, 7, 8, 9, 10, 11] [9, 10, 0, 1, 2, 3, 11, 4, 5, 6, 7, 8] rfl rfl (by decide) rfl rfl rfl rfl (Nat.le_of_ble_eq_true rfl) dX9_told_101 rfl (fun H locs hw => ?_) hl.1
    obtain rfl := Option.some.inj hF
    exact rt_i hret hw rfl dX9_told_104
  replace hF := oi_f c10 hF
  by_cases c12 : x1 = 7
  · replace hF := oi_t c12 hF
    refine lv_tableIn (tgt := 105) (off := 104) hx hb dX9_told_1 (by rw [c12]; decide) (by rw [c12]; decide) (by rw [c12]; decide +kernel) (by decide) ?_
    refine lv_aload_n hx hb dX9_told_105 rfl (lv_at hl 0 rfl) ?_
    obtain ⟨z13, hz13, hF⟩ := ob hF
    refine cV (wr := [(q_denies, .inl (C 0, 36, .inl u_denies)), (q_debt, .inl (C 0, 30, .inl u_debt)), (q_path, .inl (C 0, 6, .inl u_path)), (q_ring, .inl (C 0, 6, .inl u_ring)), (q_left, .inl (C 0, 6, .inl u_left)), (q_payment, .inl (C 0, 30, .inl u_payment))]) (w2 := [(q_, .inr (9, [.int u_people, .ref q_owes, .ref q_denies, .int u_debts, .ref q_debt, .int u_cuts, .ref q_cut, .int u_seen, .ref q_sight, .int u_events, .ref q_event, .int u_inBook, .ref q_book, .int u_texted, .ref q_text, .ref q_path, .int u_rule, .int u_rings, .int u_size, .int u_least, .long u_worth, .ref q_ring, .ref q_balance, .ref q_left, .ref q_sum, .ref q_parts, .int z13.1, .ref q_group, .int u_paid, .ref q_payment, .ref q_then, .int u_imaged, .ref q_image, .ref q_tapeSort, .ref q_tapeSize, .ref q_items])), (q_owes, .inl (C 0, 36, .inl u_owes)), (q_denies, .inl (C 0, 36, .inl u_denies)), (q_debt, .inl (C 0, 30, .inl u_debt)), (q_path, .inl (C 0, 6, .inl u_path)), (q_ring, .inl (C 0, 6, .inl u_ring)), (q_balance, .inl (C 0, 6, .inl z13.2.1)), (q_left, .inl (C 0, 6, .inl u_left)), (q_sum, .inl (C 0, 64, .inl z13.2.2.1)), (q_parts, .inl (C 0, 64, .inl z13.2.2.2.1)), (q_group, .inl (C 0, 3, .inl z13.2.2.2.2)), (q_payment, .inl (C 0, 30, .inl u_payment))]) (st2 := []) cx (CX9_groups l D C q_ q_owes q_denies q_debt q_cut q_sight q_event q_book q_text q_path q_ring q_balance q_left q_sum q_parts q_group q_payment q_then q_image q_tapeSort q_tapeSize q_items u_people u_debts u_cuts u_seen u_events u_inBook u_texted u_rule u_rings u_size u_least u_worth u_groups u_paid u_imaged u_owes u_balance u_sum u_parts u_group z13 hz13) lk_X9_184 my_X9_groups ml_X9_groups ⟨by decide, by decide⟩ hw [0, 1, 6, 8, 9, 10] [2, 3, 4, 5, 7, 11] [6, 7, 0, 1, 2, 3, 8, 4, 9, 10, 11, 5] rfl rfl (by decide) rfl rfl rfl rfl (Nat.le_of_ble_eq_true rfl) dX9_told_106 rfl (fun H locs hw => ?_) hl.1
    refine lv_aload_n hx hb dX9_told_109 rfl (lv_at hl 0 rfl) ?_
    refine r_get (ci := 9) (v := .int z13.1) cx hw iX9 0 26 rfl rfl (by decide) wf_X9_181 rfl dX9_told_110 ?_
    obtain rfl := Option.some.inj hF
    exact rt_i hret hw rfl dX9_told_113
  replace hF := oi_f c12 hF
  by_cases c14 : x1 = 8
  · replace hF := oi_t c14 hF
    refine lv_tableIn (tgt := 114) (off := 113) hx hb dX9_told_1 (by rw [c14]; decide) (by rw [c14]; decide) (by rw [c14]; decide +kernel) (by decide) ?_
    refine lv_aload_n hx hb dX9_told_114 rfl (lv_at hl 0 rfl) ?_
    obtain ⟨z15, hz15, hF⟩ := ob hF
    refine cV (wr := [(q_denies, .inl (C 0, 36, .inl u_denies)), (q_debt, .inl (C 0, 30, .inl u_debt)), (q_path, .inl (C 0, 6, .inl u_path)), (q_ring, .inl (C 0, 6, .inl u_ring))]) (w2 := [(q_, .inr (9, [.int u_people, .ref q_owes, .ref q_denies, .int u_debts, .ref q_debt, .int u_cuts, .ref q_cut, .int u_seen, .ref q_sight, .int u_events, .ref q_event, .int u_inBook, .ref q_book, .int u_texted, .ref q_text, .ref q_path, .int u_rule, .int u_rings, .int u_size, .int u_least, .long u_worth, .ref q_ring, .ref q_balance, .ref q_left, .ref q_sum, .ref q_parts, .int z15.2.1, .ref q_group, .int z15.2.2.1, .ref q_payment, .ref q_then, .int u_imaged, .ref q_image, .ref q_tapeSort, .ref q_tapeSize, .ref q_items])), (q_owes, .inl (C 0, 36, .inl u_owes)), (q_denies, .inl (C 0, 36, .inl u_denies)), (q_debt, .inl (C 0, 30, .inl u_debt)), (q_path, .inl (C 0, 6, .inl u_path)), (q_ring, .inl (C 0, 6, .inl u_ring)), (q_balance, .inl (C 0, 6, .inl z15.2.2.2.1)), (q_left, .inl (C 0, 6, .inl z15.2.2.2.2.1)), (q_sum, .inl (C 0, 64, .inl z15.2.2.2.2.2.1)), (q_parts, .inl (C 0, 64, .inl z15.2.2.2.2.2.2.1)), (q_group, .inl (C 0, 3, .inl z15.2.2.2.2.2.2.2.1)), (q_payment, .inl (C 0, 30, .inl z15.2.2.2.2.2.2.2.2))]) (st2 := [.int z15.1]) cx (CX9_fewest l D C q_ q_owes q_denies q_debt q_cut q_sight q_event q_book q_text q_path q_ring q_balance q_left q_sum q_parts q_group q_payment q_then q_image q_tapeSort q_tapeSize q_items u_people u_debts u_cuts u_seen u_events u_inBook u_texted u_rule u_rings u_size u_least u_worth u_groups u_paid u_imaged u_owes u_balance u_left u_sum u_parts u_group u_payment z15 hz15) lk_X9_217 my_X9_fewest ml_X9_fewest ⟨by decide, by decide⟩ hw [0, 1, 6, 7, 8, 9, 10, 11] [2, 3, 4, 5] [4, 5, 0, 1, 2, 3, 6, 7, 8, 9, 10, 11] rfl rfl (by decide) rfl rfl rfl rfl (Nat.le_of_ble_eq_true rfl) dX9_told_115 rfl (fun H locs hw => ?_) hl.1
    obtain rfl := Option.some.inj hF
    exact rt_i hret hw rfl dX9_told_118
  replace hF := oi_f c14 hF
  by_cases c16 : x1 = 9
  · replace hF := oi_t c16 hF
    refine lv_tableIn (tgt := 119) (off := 118) hx hb dX9_told_1 (by rw [c16]; decide) (by rw [c16]; decide) (by rw [c16]; decide +kernel) (by decide) ?_
    refine lv_aload_n hx hb dX9_told_119 rfl (lv_at hl 0 rfl) ?_
    obtain ⟨z17, hz17, hF⟩ := ob hF
    refine cV (wr := [(q_debt, .inl (C 0, 30, .inl u_debt)), (q_path, .inl (C 0, 6, .inl u_path)), (q_ring, .inl (C 0, 6, .inl u_ring))]) (w2 := [(q_, .inr (9, [.int u_people, .ref q_owes, .ref q_denies, .int u_debts, .ref q_debt, .int u_cuts, .ref q_cut, .int u_seen, .ref q_sight, .int u_events, .ref q_event, .int u_inBook, .ref q_book, .int u_texted, .ref q_text, .ref q_path, .int u_rule, .int u_rings, .int u_size, .int u_least, .long u_worth, .ref q_ring, .ref q_balance, .ref q_left, .ref q_sum, .ref q_parts, .int z17.2.1, .ref q_group, .int z17.2.2.1, .ref q_payment, .ref q_then, .int u_imaged, .ref q_image, .ref q_tapeSort, .ref q_tapeSize, .ref q_items])), (q_owes, .inl (C 0, 36, .inl u_owes)), (q_denies, .inl (C 0, 36, .inl u_denies)), (q_debt, .inl (C 0, 30, .inl u_debt)), (q_path, .inl (C 0, 6, .inl u_path)), (q_ring, .inl (C 0, 6, .inl u_ring)), (q_balance, .inl (C 0, 6, .inl z17.2.2.2.1)), (q_left, .inl (C 0, 6, .inl z17.2.2.2.2.1)), (q_sum, .inl (C 0, 64, .inl z17.2.2.2.2.2.1)), (q_parts, .inl (C 0, 64, .inl z17.2.2.2.2.2.2.1)), (q_group, .inl (C 0, 3, .inl z17.2.2.2.2.2.2.2.1)), (q_payment, .inl (C 0, 30, .inl z17.2.2.2.2.2.2.2.2))]) (st2 := [.int z17.1]) cx (CX9_kept l D C q_ q_owes q_denies q_debt q_cut q_sight q_event q_book q_text q_path q_ring q_balance q_left q_sum q_parts q_group q_payment q_then q_image q_tapeSort q_tapeSize q_items u_people u_debts u_cuts u_seen u_events u_inBook u_texted u_rule u_rings u_size u_least u_worth u_groups u_paid u_imaged u_owes u_denies u_balance u_left u_sum u_parts u_group u_payment z17 hz17) lk_X9_220 my_X9_kept ml_X9_kept ⟨by decide, by decide⟩ hw [0, 1, 2, 6, 7, 8, 9, 10, 11] [3, 4, 5] [3, 4, 5, 0, 1, 2, 6, 7, 8, 9, 10, 11] rfl rfl (by decide) rfl rfl rfl rfl (Nat.le_of_ble_eq_true rfl) dX9_told_120 rfl (fun H locs hw => ?_) hl.1
    obtain rfl := Option.some.inj hF
    exact rt_i hret hw rfl dX9_told_123
  replace hF := oi_f c16 hF
  by_cases c18 : x1 = 10
  · replace hF := oi_t c18 hF
    refine lv_tableIn (tgt := 124) (off := 123) hx hb dX9_told_1 (by rw [c18]; decide) (by rw [c18]; decide) (by rw [c18]; decide +kernel) (by decide) ?_
    refine lv_aload_n hx hb dX9_told_124 rfl (lv_at hl 0 rfl) ?_
    obtain ⟨z19, hz19, hF⟩ := ob hF
    refine cV (wr := [(q_debt, .inl (C 0, 30, .inl u_debt)), (q_path, .inl (C 0, 6, .inl u_path)), (q_ring, .inl (C 0, 6, .inl u_ring)), (q_sum, .inl (C 0, 64, .inl u_sum)), (q_parts, .inl (C 0, 64, .inl u_parts)), (q_group, .inl (C 0, 3, .inl u_group))]) (w2 := [(q_, .inr (9, [.int u_people, .ref q_owes, .ref q_denies, .int u_debts, .ref q_debt, .int u_cuts, .ref q_cut, .int u_seen, .ref q_sight, .int u_events, .ref q_event, .int u_inBook, .ref q_book, .int u_texted, .ref q_text, .ref q_path, .int u_rule, .int u_rings, .int u_size, .int u_least, .long u_worth, .ref q_ring, .ref q_balance, .ref q_left, .ref q_sum, .ref q_parts, .int u_groups, .ref q_group, .int z19.1, .ref q_payment, .ref q_then, .int u_imaged, .ref q_image, .ref q_tapeSort, .ref q_tapeSize, .ref q_items])), (q_owes, .inl (C 0, 36, .inl u_owes)), (q_denies, .inl (C 0, 36, .inl u_denies)), (q_debt, .inl (C 0, 30, .inl u_debt)), (q_path, .inl (C 0, 6, .inl u_path)), (q_ring, .inl (C 0, 6, .inl u_ring)), (q_balance, .inl (C 0, 6, .inl z19.2.1)), (q_left, .inl (C 0, 6, .inl z19.2.2.1)), (q_sum, .inl (C 0, 64, .inl u_sum)), (q_parts, .inl (C 0, 64, .inl u_parts)), (q_group, .inl (C 0, 3, .inl u_group)), (q_payment, .inl (C 0, 30, .inl z19.2.2.2))]) (st2 := []) cx (CX9_willing l D C q_ q_owes q_denies q_debt q_cut q_sight q_event q_book q_text q_path q_ring q_balance q_left q_sum q_parts q_group q_payment q_then q_image q_tapeSort q_tapeSize q_items u_people u_debts u_cuts u_seen u_events u_inBook u_texted u_rule u_rings u_size u_least u_worth u_groups u_paid u_imaged u_owes u_denies u_balance u_left u_payment z19 hz19) lk_X9_198 my_X9_willing ml_X9_willing ⟨by decide, by decide⟩ hw [0, 1, 2, 6, 7, 11] [3, 4, 5, 8, 9, 10] [6, 7, 8, 0, 1, 2, 9, 10, 3, 4, 5, 11] rfl rfl (by decide) rfl rfl rfl rfl (Nat.le_of_ble_eq_true rfl) dX9_told_125 rfl (fun H locs hw => ?_) hl.1
    refine lv_aload_n hx hb dX9_told_128 rfl (lv_at hl 0 rfl) ?_
    refine r_get (ci := 9) (v := .int z19.1) cx hw iX9 0 28 rfl rfl (by decide) wf_X9_186 rfl dX9_told_129 ?_
    obtain rfl := Option.some.inj hF
    exact rt_i hret hw rfl dX9_told_132
  replace hF := oi_f c18 hF
  by_cases c20 : x1 = 11
  · replace hF := oi_t c20 hF
    refine lv_tableIn (tgt := 133) (off := 132) hx hb dX9_told_1 (by rw [c20]; decide) (by rw [c20]; decide) (by rw [c20]; decide +kernel) (by decide) ?_
    refine lv_aload_n hx hb dX9_told_133 rfl (lv_at hl 0 rfl) ?_
    obtain ⟨z21, hz21, hF⟩ := ob hF
    refine cV (wr := [(q_debt, .inl (C 0, 30, .inl u_debt)), (q_path, .inl (C 0, 6, .inl u_path)), (q_ring, .inl (C 0, 6, .inl u_ring)), (q_sum, .inl (C 0, 64, .inl u_sum)), (q_parts, .inl (C 0, 64, .inl u_parts)), (q_group, .inl (C 0, 3, .inl u_group))]) (w2 := [(q_, .inr (9, [.int u_people, .ref q_owes, .ref q_denies, .int u_debts, .ref q_debt, .int u_cuts, .ref q_cut, .int u_seen, .ref q_sight, .int u_events, .ref q_event, .int u_inBook, .ref q_book, .int u_texted, .ref q_text, .ref q_path, .int u_rule, .int u_rings, .int u_size, .int u_least, .long u_worth, .ref q_ring, .ref q_balance, .ref q_left, .ref q_sum, .ref q_parts, .int u_groups, .ref q_group, .int z21.1, .ref q_payment, .ref q_then, .int u_imaged, .ref q_image, .ref q_tapeSort, .ref q_tapeSize, .ref q_items])), (q_owes, .inl (C 0, 36, .inl u_owes)), (q_denies, .inl (C 0, 36, .inl u_denies)), (q_debt, .inl (C 0, 30, .inl u_debt)), (q_path, .inl (C 0, 6, .inl u_path)), (q_ring, .inl (C 0, 6, .inl u_ring)), (q_balance, .inl (C 0, 6, .inl z21.2.1)), (q_left, .inl (C 0, 6, .inl z21.2.2.1)), (q_sum, .inl (C 0, 64, .inl u_sum)), (q_parts, .inl (C 0, 64, .inl u_parts)), (q_group, .inl (C 0, 3, .inl u_group)), (q_payment, .inl (C 0, 30, .inl z21.2.2.2))]) (st2 := []) cx (CX9_willing l D C q_ q_owes q_denies q_debt q_cut q_sight q_event q_book q_text q_path q_ring q_balance q_left q_sum q_parts q_group q_payment q_then q_image q_tapeSort q_tapeSize q_items u_people u_debts u_cuts u_seen u_events u_inBook u_texted u_rule u_rings u_size u_least u_worth u_groups u_paid u_imaged u_owes u_denies u_balance u_left u_payment z21 hz21) lk_X9_198 my_X9_willing ml_X9_willing ⟨by decide, by decide⟩ hw [0, 1, 2, 6, 7, 11] [3, 4, 5, 8, 9, 10] [6, 7, 8, 0, 1, 2, 9, 10, 3, 4, 5, 11] rfl rfl (by decide) rfl rfl rfl rfl (Nat.le_of_ble_eq_true rfl) dX9_told_134 rfl (fun H locs hw => ?_) hl.1
    refine lv_aload_n hx hb dX9_told_137 rfl (lv_at hl 0 rfl) ?_
    obtain ⟨z22, hz22, hF⟩ := ob hF
    refine cV (wr := [(q_owes, .inl (C 0, 36, .inl u_owes)), (q_denies, .inl (C 0, 36, .inl u_denies)), (q_debt, .inl (C 0, 30, .inl u_debt)), (q_path, .inl (C 0, 6, .inl u_path)), (q_ring, .inl (C 0, 6, .inl u_ring)), (q_balance, .inl (C 0, 6, .inl z21.2.1)), (q_sum, .inl (C 0, 64, .inl u_sum)), (q_parts, .inl (C 0, 64, .inl u_parts)), (q_group, .inl (C 0, 3, .inl u_group)), (q_payment, .inl (C 0, 30, .inl z21.2.2.2))]) (w2 := [(q_, .inr (9, [.int u_people, .ref q_owes, .ref q_denies, .int u_debts, .ref q_debt, .int u_cuts, .ref q_cut, .int u_seen, .ref q_sight, .int u_events, .ref q_event, .int u_inBook, .ref q_book, .int u_texted, .ref q_text, .ref q_path, .int u_rule, .int u_rings, .int u_size, .int u_least, .long u_worth, .ref q_ring, .ref q_balance, .ref q_left, .ref q_sum, .ref q_parts, .int u_groups, .ref q_group, .int z21.1, .ref q_payment, .ref q_then, .int u_imaged, .ref q_image, .ref q_tapeSort, .ref q_tapeSize, .ref q_items])), (q_owes, .inl (C 0, 36, .inl u_owes)), (q_denies, .inl (C 0, 36, .inl u_denies)), (q_debt, .inl (C 0, 30, .inl u_debt)), (q_path, .inl (C 0, 6, .inl u_path)), (q_ring, .inl (C 0, 6, .inl u_ring)), (q_balance, .inl (C 0, 6, .inl z21.2.1)), (q_left, .inl (C 0, 6, .inl z21.2.2.1)), (q_sum, .inl (C 0, 64, .inl u_sum)), (q_parts, .inl (C 0, 64, .inl u_parts)), (q_group, .inl (C 0, 3, .inl u_group)), (q_payment, .inl (C 0, 30, .inl z21.2.2.2))]) (st2 := [.int z22]) cx (CX9_above l D C q_ q_owes q_denies q_debt q_cut q_sight q_event q_book q_text q_path q_ring q_balance q_left q_sum q_parts q_group q_payment q_then q_image q_tapeSort q_tapeSize q_items u_people u_debts u_cuts u_seen u_events u_inBook u_texted u_rule u_rings u_size u_least u_worth u_groups z21.1 u_imaged z21.2.2.1 z22 hz22) lk_X9_205 my_X9_above ml_X9_above ⟨by decide, by decide⟩ hw [0, 7] [1, 2, 3, 4, 5, 6, 8, 9, 10, 11] [10, 0, 1, 2, 3, 4, 5, 11, 6, 7, 8, 9] rfl rfl (by decide) rfl rfl rfl rfl (Nat.le_of_ble_eq_true rfl) dX9_told_138 rfl (fun H locs hw => ?_) hl.1
    obtain rfl := Option.some.inj hF
    exact rt_i hret hw rfl dX9_told_141
  replace hF := oi_f c20 hF
  have t1 := ti_ne (n := 0) (by decide) c1
  have t2 := ti_ne (n := 1) (by decide) c2
  have t3 := ti_ne (n := 2) (by decide) c3
  have t5 := ti_ne (n := 3) (by decide) c5
  have t6 := ti_ne (n := 4) (by decide) c6
  have t8 := ti_ne (n := 5) (by decide) c8
  have t10 := ti_ne (n := 6) (by decide) c10
  have t12 := ti_ne (n := 7) (by decide) c12
  have t14 := ti_ne (n := 8) (by decide) c14
  have t16 := ti_ne (n := 9) (by decide) c16
  have t18 := ti_ne (n := 10) (by decide) c18
  have t20 := ti_ne (n := 11) (by decide) c20
  refine lv_tableOut (tgt := 142) hx hb dX9_told_1 (by omega) (by decide) ?_
  refine lv_iconst (v := (-1)) hx hb dX9_told_142 (by decide) ?_
  obtain rfl := Option.some.inj hF
  exact rt_i hret hw rfl dX9_told_143
theorem wf_X9_60 : Cond.fieldLink RX9 60 (TX9 30).1 (TX9 30).2.1 (TX9 30).2.2.1 ∈ gdt := gdt_of 870 (by decide +kernel) (by decide +kernel)
theorem dX9_keeps_0 : decode cX9_keeps 0 = .ok (.iconst 0, 1) := by decide +kernel
theorem dX9_keeps_1 : decode cX9_keeps 1 = .ok (.istore_n 1, 1) := by decide +kernel
theorem dX9_keeps_2 : decode cX9_keeps 2 = .ok (.iload_n 1, 1) := by decide +kernel
theorem dX9_keeps_3 : decode cX9_keeps 3 = .ok (.bipush 36, 2) := by decide +kernel
theorem dX9_keeps_5 : decode cX9_keeps 5 = .ok (.if_icmp .ge 21, 3) := by decide +kernel
theorem dX9_keeps_8 : decode cX9_keeps 8 = .ok (.aload_n 0, 1) := by decide +kernel
theorem dX9_keeps_9 : decode cX9_keeps 9 = .ok (.getfield 60, 3) := by decide +kernel
theorem dX9_keeps_12 : decode cX9_keeps 12 = .ok (.iload_n 1, 1) := by decide +kernel
theorem dX9_keeps_13 : decode cX9_keeps 13 = .ok (.aload_n 0, 1) := by decide +kernel
theorem dX9_keeps_14 : decode cX9_keeps 14 = .ok (.getfield 9, 3) := by decide +kernel
theorem dX9_keeps_17 : decode cX9_keeps 17 = .ok (.iload_n 1, 1) := by decide +kernel
theorem dX9_keeps_18 : decode cX9_keeps 18 = .ok (.iaload, 1) := by decide +kernel
theorem dX9_keeps_19 : decode cX9_keeps 19 = .ok (.iastore, 1) := by decide +kernel
theorem dX9_keeps_20 : decode cX9_keeps 20 = .ok (.iinc 1 1, 3) := by decide +kernel
theorem dX9_keeps_23 : decode cX9_keeps 23 = .ok (.goto (-21), 3) := by decide +kernel
theorem dX9_keeps_26 : decode cX9_keeps 26 = .ok (.iconst 0, 1) := by decide +kernel
theorem dX9_keeps_27 : decode cX9_keeps 27 = .ok (.istore_n 1, 1) := by decide +kernel
theorem dX9_keeps_28 : decode cX9_keeps 28 = .ok (.iload_n 1, 1) := by decide +kernel
theorem dX9_keeps_29 : decode cX9_keeps 29 = .ok (.bipush 30, 2) := by decide +kernel
theorem dX9_keeps_31 : decode cX9_keeps 31 = .ok (.if_icmp .ge 24, 3) := by decide +kernel
theorem dX9_keeps_34 : decode cX9_keeps 34 = .ok (.aload_n 0, 1) := by decide +kernel
theorem dX9_keeps_35 : decode cX9_keeps 35 = .ok (.getfield 60, 3) := by decide +kernel
theorem dX9_keeps_38 : decode cX9_keeps 38 = .ok (.bipush 36, 2) := by decide +kernel
theorem dX9_keeps_40 : decode cX9_keeps 40 = .ok (.iload_n 1, 1) := by decide +kernel
theorem dX9_keeps_41 : decode cX9_keeps 41 = .ok (.iadd, 1) := by decide +kernel
theorem dX9_keeps_42 : decode cX9_keeps 42 = .ok (.aload_n 0, 1) := by decide +kernel
theorem dX9_keeps_43 : decode cX9_keeps 43 = .ok (.getfield 18, 3) := by decide +kernel
theorem dX9_keeps_46 : decode cX9_keeps 46 = .ok (.iload_n 1, 1) := by decide +kernel
theorem dX9_keeps_47 : decode cX9_keeps 47 = .ok (.iaload, 1) := by decide +kernel
theorem dX9_keeps_48 : decode cX9_keeps 48 = .ok (.iastore, 1) := by decide +kernel
theorem dX9_keeps_49 : decode cX9_keeps 49 = .ok (.iinc 1 1, 3) := by decide +kernel
theorem dX9_keeps_52 : decode cX9_keeps 52 = .ok (.goto (-24), 3) := by decide +kernel
theorem dX9_keeps_55 : decode cX9_keeps 55 = .ok (.aload_n 0, 1) := by decide +kernel
theorem dX9_keeps_56 : decode cX9_keeps 56 = .ok (.getfield 60, 3) := by decide +kernel
theorem dX9_keeps_59 : decode cX9_keeps 59 = .ok (.bipush 66, 2) := by decide +kernel
theorem dX9_keeps_61 : decode cX9_keeps 61 = .ok (.aload_n 0, 1) := by decide +kernel
theorem dX9_keeps_62 : decode cX9_keeps 62 = .ok (.getfield 88, 3) := by decide +kernel
theorem dX9_keeps_65 : decode cX9_keeps 65 = .ok (.iastore, 1) := by decide +kernel
theorem dX9_keeps_66 : decode cX9_keeps 66 = .ok (.return_, 1) := by decide +kernel
def fX9_keeps_L2 (k26 : (Nat → Int32) → Option (Nat → Int32)) (u_owes : (Nat → Int32)) : Nat → Int32 → (Nat → Int32) → Option (Nat → Int32)
  | 0, _, _ => none
  | n + 1, x1, u_then => if 36 ≤ x1 then (k26 u_then) else (gA x1 36 (gA x1 67 (fX9_keeps_L2 k26 u_owes n (x1 + 1) (upd u_then (x1 : Int32).toNatClampNeg (u_owes (x1).toNatClampNeg)))))
def fX9_keeps_L28 (k55 : (Nat → Int32) → Option (Nat → Int32)) (u_debt : (Nat → Int32)) : Nat → Int32 → (Nat → Int32) → Option (Nat → Int32)
  | 0, _, _ => none
  | n + 1, x1, u_then => if 30 ≤ x1 then (k55 u_then) else (gA x1 30 (gA (36 + x1) 67 (fX9_keeps_L28 k55 u_debt n (x1 + 1) (upd u_then (36 + x1 : Int32).toNatClampNeg (u_debt (x1).toNatClampNeg)))))
def fX9_keeps (u_debts : Int32) (u_owes : (Nat → Int32)) (u_debt : (Nat → Int32)) (u_then : (Nat → Int32)) : Option (Nat → Int32) := fX9_keeps_L2 (fun (u_then_4 : (Nat → Int32)) => fX9_keeps_L28 (fun (u_then_8 : (Nat → Int32)) => gA 66 67 (some (upd u_then_8 (66 : Int32).toNatClampNeg u_debts))) u_debt 400 0 u_then_4) u_owes 400 0 u_then
set_option maxRecDepth 20000 in
theorem LX9_keeps_2 {p : Program} {l : Launch} {e : Env} {R : Room} {s : State} {m : MethodId} {args : Array Value} {below : List Frame} {meth : Method} {c : Code} {Q : State → Prop} {D : va_G} {C : Nat → ClassId} {A : Nat → Prop} (cx : CX p m c s args RX9 cX9_keeps 2 D C A R 1) {q_ q_owes q_denies q_debt q_cut q_sight q_event q_book q_text q_path q_ring q_balance q_left q_sum q_parts q_group q_payment q_then q_image q_tapeSort q_tapeSize q_items : Nat} {u_people : Int32} {u_debts : Int32} {u_cuts : Int32} {u_seen : Int32} {u_events : Int32} {u_inBook : Int32} {u_texted : Int32} {u_rule : Int32} {u_rings : Int32} {u_size : Int32} {u_least : Int32} {u_worth : Int64} {u_groups : Int32} {u_paid : Int32} {u_imaged : Int32} {u_owes : (Nat → Int32)} {u_debt : (Nat → Int32)} {z : (Nat → Int32)} (hret : RT p l e R s m args below meth c Q D A cX9_keeps none [(q_, .inr (9, [.int u_people, .ref q_owes, .ref q_denies, .int u_debts, .ref q_debt, .int u_cuts, .ref q_cut, .int u_seen, .ref q_sight, .int u_events, .ref q_event, .int u_inBook, .ref q_book, .int u_texted, .ref q_text, .ref q_path, .int u_rule, .int u_rings, .int u_size, .int u_least, .long u_worth, .ref q_ring, .ref q_balance, .ref q_left, .ref q_sum, .ref q_parts, .int u_groups, .ref q_group, .int u_paid, .ref q_payment, .ref q_then, .int u_imaged, .ref q_image, .ref q_tapeSort, .ref q_tapeSize, .ref q_items])), (q_owes, .inl (C 0, 36, .inl u_owes)), (q_debt, .inl (C 0, 30, .inl u_debt)), (q_then, .inl (C 0, 67, .inl z))] none) {k26 : (Nat → Int32) → Option (Nat → Int32)} (hk26 : ∀ (u_then : (Nat → Int32)) (H : Heap) (locs : List Loc) (ls : Array Slot), k26 u_then = some z → HW D A s.heap H locs [(q_, .inr (9, [.int u_people, .ref q_owes, .ref q_denies, .int u_debts, .ref q_debt, .int u_cuts, .ref q_cut, .int u_seen, .ref q_sight, .int u_events, .ref q_event, .int u_inBook, .ref q_book, .int u_texted, .ref q_text, .ref q_path, .int u_rule, .int u_rings, .int u_size, .int u_least, .long u_worth, .ref q_ring, .ref q_balance, .ref q_left, .ref q_sum, .ref q_parts, .int u_groups, .ref q_group, .int u_paid, .ref q_payment, .ref q_then, .int u_imaged, .ref q_image, .ref q_tapeSort, .ref q_tapeSize, .ref q_items])), (q_owes, .inl (C 0, 36, .inl u_owes)), (q_debt, .inl (C 0, 30, .inl u_debt)), (q_then, .inl (C 0, 67, .inl u_then))] → lv_has ls 2 [(0, .ref q_)] → W p l e R s m args below meth c H locs 0 0 Q (F0 m 26 ls [])) :
    ∀ (n : Nat) (x1 : Int32) (u_then : (Nat → Int32)) (H : Heap) (locs : List Loc) (ls : Array Slot), fX9_keeps_L2 k26 u_owes n x1 u_then = some z → HW D A s.heap H locs [(q_, .inr (9, [.int u_people, .ref q_owes, .ref q_denies, .int u_debts, .ref q_debt, .int u_cuts, .ref q_cut, .int u_seen, .ref q_sight, .int u_events, .ref q_event, .int u_inBook, .ref q_book, .int u_texted, .ref q_text, .ref q_path, .int u_rule, .int u_rings, .int u_size, .int u_least, .long u_worth, .ref q_ring, .ref q_balance, .ref q_left, .ref q_sum, .ref q_parts, .int u_groups, .ref q_group, .int u_paid, .ref q_payment, .ref q_then, .int u_imaged, .ref q_image, .ref q_tapeSort, .ref q_tapeSize, .ref q_items])), (q_owes, .inl (C 0, 36, .inl u_owes)), (q_debt, .inl (C 0, 30, .inl u_debt)), (q_then, .inl (C 0, 67, .inl u_then))] → lv_has ls 2 [(0, .ref q_), (1, .int x1)] → W p l e R s m args below meth c H locs 0 0 Q (F0 m 2 ls []) := by
  have hx := cx.1
  have hb := cx.2.1
  intro n
  induction n with
  | zero => intro x1 u_then H locs ls hF; cases hF
  | succ n ih =>
    intro x1 u_then H locs ls hF hw hl
    rw [fX9_keeps_L2.eq_2] at hF
    refine lv_iload_n hx hb dX9_keeps_2 rfl (lv_at hl 1 rfl) ?_
    refine lv_bipush (v := 36) hx hb dX9_keeps_3 (by decide) ?_
    refine lv_icmp_ge (tgt := 26) hx hb dX9_keeps_5 (by decide) (fun c1 => ?_) (fun c1 => ?_)
    · replace hF := oi_t c1 hF
      exact hk26 u_then H locs ls hF hw (lv_sub hl [0] rfl)
    · replace hF := oi_f c1 hF
      refine lv_aload_n hx hb dX9_keeps_8 rfl (lv_at hl 0 rfl) ?_
      refine r_get (ci := 9) (v := .ref q_then) cx hw iX9 0 30 rfl rfl (by decide) wf_X9_60 rfl dX9_keeps_9 ?_
      refine lv_iload_n hx hb dX9_keeps_12 rfl (lv_at hl 1 rfl) ?_
      refine lv_aload_n hx hb dX9_keeps_13 rfl (lv_at hl 0 rfl) ?_
      refine r_get (ci := 9) (v := .ref q_owes) cx hw iX9 0 1 rfl rfl (by decide) wf_X9_9 rfl dX9_keeps_14 ?_
      refine lv_iload_n hx hb dX9_keeps_17 rfl (lv_at hl 1 rfl) ?_
      obtain ⟨g2, hF⟩ := gA_s hF
      refine r_iald cx hw 1 rfl g2 dX9_keeps_18 ?_
      obtain ⟨g3, hF⟩ := gA_s hF
      refine r_iast (w2 := [(q_, .inr (9, [.int u_people, .ref q_owes, .ref q_denies, .int u_debts, .ref q_debt, .int u_cuts, .ref q_cut, .int u_seen, .ref q_sight, .int u_events, .ref q_event, .int u_inBook, .ref q_book, .int u_texted, .ref q_text, .ref q_path, .int u_rule, .int u_rings, .int u_size, .int u_least, .long u_worth, .ref q_ring, .ref q_balance, .ref q_left, .ref q_sum, .ref q_parts, .int u_groups, .ref q_group, .int u_paid, .ref q_payment, .ref q_then, .int u_imaged, .ref q_image, .ref q_tapeSort, .ref q_tapeSize, .ref q_items])), (q_owes, .inl (C 0, 36, .inl u_owes)), (q_debt, .inl (C 0, 30, .inl u_debt)), (q_then, .inl (C 0, 67, .inl (upd u_then (x1 : Int32).toNatClampNeg (u_owes (x1).toNatClampNeg))))]) cx hw 3 rfl g3 dX9_keeps_19 rfl (fun H locs hw => ?_)
      refine lv_iinc (v := x1 + 1) (lv' := [(1, .int (x1 + 1)), (0, .ref q_)]) hx hb dX9_keeps_20 hl (k := 1) rfl rfl (by decide) rfl (fun ls hl => ?_)
      refine lv_goto (tgt := 2) hx hb dX9_keeps_23 (by decide) ?_
      exact ih (x1 + 1) (upd u_then (x1 : Int32).toNatClampNeg (u_owes (x1).toNatClampNeg)) H locs ls hF hw (lv_sub hl [1, 0] rfl)
set_option maxRecDepth 20000 in
theorem LX9_keeps_28 {p : Program} {l : Launch} {e : Env} {R : Room} {s : State} {m : MethodId} {args : Array Value} {below : List Frame} {meth : Method} {c : Code} {Q : State → Prop} {D : va_G} {C : Nat → ClassId} {A : Nat → Prop} (cx : CX p m c s args RX9 cX9_keeps 2 D C A R 1) {q_ q_owes q_denies q_debt q_cut q_sight q_event q_book q_text q_path q_ring q_balance q_left q_sum q_parts q_group q_payment q_then q_image q_tapeSort q_tapeSize q_items : Nat} {u_people : Int32} {u_debts : Int32} {u_cuts : Int32} {u_seen : Int32} {u_events : Int32} {u_inBook : Int32} {u_texted : Int32} {u_rule : Int32} {u_rings : Int32} {u_size : Int32} {u_least : Int32} {u_worth : Int64} {u_groups : Int32} {u_paid : Int32} {u_imaged : Int32} {u_owes : (Nat → Int32)} {u_debt : (Nat → Int32)} {z : (Nat → Int32)} (hret : RT p l e R s m args below meth c Q D A cX9_keeps none [(q_, .inr (9, [.int u_people, .ref q_owes, .ref q_denies, .int u_debts, .ref q_debt, .int u_cuts, .ref q_cut, .int u_seen, .ref q_sight, .int u_events, .ref q_event, .int u_inBook, .ref q_book, .int u_texted, .ref q_text, .ref q_path, .int u_rule, .int u_rings, .int u_size, .int u_least, .long u_worth, .ref q_ring, .ref q_balance, .ref q_left, .ref q_sum, .ref q_parts, .int u_groups, .ref q_group, .int u_paid, .ref q_payment, .ref q_then, .int u_imaged, .ref q_image, .ref q_tapeSort, .ref q_tapeSize, .ref q_items])), (q_owes, .inl (C 0, 36, .inl u_owes)), (q_debt, .inl (C 0, 30, .inl u_debt)), (q_then, .inl (C 0, 67, .inl z))] none) {k55 : (Nat → Int32) → Option (Nat → Int32)} (hk55 : ∀ (u_then : (Nat → Int32)) (H : Heap) (locs : List Loc) (ls : Array Slot), k55 u_then = some z → HW D A s.heap H locs [(q_, .inr (9, [.int u_people, .ref q_owes, .ref q_denies, .int u_debts, .ref q_debt, .int u_cuts, .ref q_cut, .int u_seen, .ref q_sight, .int u_events, .ref q_event, .int u_inBook, .ref q_book, .int u_texted, .ref q_text, .ref q_path, .int u_rule, .int u_rings, .int u_size, .int u_least, .long u_worth, .ref q_ring, .ref q_balance, .ref q_left, .ref q_sum, .ref q_parts, .int u_groups, .ref q_group, .int u_paid, .ref q_payment, .ref q_then, .int u_imaged, .ref q_image, .ref q_tapeSort, .ref q_tapeSize, .ref q_items])), (q_owes, .inl (C 0, 36, .inl u_owes)), (q_debt, .inl (C 0, 30, .inl u_debt)), (q_then, .inl (C 0, 67, .inl u_then))] → lv_has ls 2 [(0, .ref q_)] → W p l e R s m args below meth c H locs 0 0 Q (F0 m 55 ls [])) :
    ∀ (n : Nat) (x1 : Int32) (u_then : (Nat → Int32)) (H : Heap) (locs : List Loc) (ls : Array Slot), fX9_keeps_L28 k55 u_debt n x1 u_then = some z → HW D A s.heap H locs [(q_, .inr (9, [.int u_people, .ref q_owes, .ref q_denies, .int u_debts, .ref q_debt, .int u_cuts, .ref q_cut, .int u_seen, .ref q_sight, .int u_events, .ref q_event, .int u_inBook, .ref q_book, .int u_texted, .ref q_text, .ref q_path, .int u_rule, .int u_rings, .int u_size, .int u_least, .long u_worth, .ref q_ring, .ref q_balance, .ref q_left, .ref q_sum, .ref q_parts, .int u_groups, .ref q_group, .int u_paid, .ref q_payment, .ref q_then, .int u_imaged, .ref q_image, .ref q_tapeSort, .ref q_tapeSize, .ref q_items])), (q_owes, .inl (C 0, 36, .inl u_owes)), (q_debt, .inl (C 0, 30, .inl u_debt)), (q_then, .inl (C 0, 67, .inl u_then))] → lv_has ls 2 [(0, .ref q_), (1, .int x1)] → W p l e R s m args below meth c H locs 0 0 Q (F0 m 28 ls []) := by
  have hx := cx.1
  have hb := cx.2.1
  intro n
  induction n with
  | zero => intro x1 u_then H locs ls hF; cases hF
  | succ n ih =>
    intro x1 u_then H locs ls hF hw hl
    rw [fX9_keeps_L28.eq_2] at hF
    refine lv_iload_n hx hb dX9_keeps_28 rfl (lv_at hl 1 rfl) ?_
    refine lv_bipush (v := 30) hx hb dX9_keeps_29 (by decide) ?_
    refine lv_icmp_ge (tgt := 55) hx hb dX9_keeps_31 (by decide) (fun c5 => ?_) (fun c5 => ?_)
    · replace hF := oi_t c5 hF
      exact hk55 u_then H locs ls hF hw (lv_sub hl [0] rfl)
    · replace hF := oi_f c5 hF
      refine lv_aload_n hx hb dX9_keeps_34 rfl (lv_at hl 0 rfl) ?_
      refine r_get (ci := 9) (v := .ref q_then) cx hw iX9 0 30 rfl rfl (by decide) wf_X9_60 rfl dX9_keeps_35 ?_
      refine lv_bipush (v := 36) hx hb dX9_keeps_38 (by decide) ?_
      refine lv_iload_n hx hb dX9_keeps_40 rfl (lv_at hl 1 rfl) ?_
      refine lv_iadd hx hb dX9_keeps_41 ?_
      refine lv_aload_n hx hb dX9_keeps_42 rfl (lv_at hl 0 rfl) ?_
      refine r_get (ci := 9) (v := .ref q_debt) cx hw iX9 0 4 rfl rfl (by decide) wf_X9_18 rfl dX9_keeps_43 ?_
      refine lv_iload_n hx hb dX9_keeps_46 rfl (lv_at hl 1 rfl) ?_
      obtain ⟨g6, hF⟩ := gA_s hF
      refine r_iald cx hw 2 rfl g6 dX9_keeps_47 ?_
      obtain ⟨g7, hF⟩ := gA_s hF
      refine r_iast (w2 := [(q_, .inr (9, [.int u_people, .ref q_owes, .ref q_denies, .int u_debts, .ref q_debt, .int u_cuts, .ref q_cut, .int u_seen, .ref q_sight, .int u_events, .ref q_event, .int u_inBook, .ref q_book, .int u_texted, .ref q_text, .ref q_path, .int u_rule, .int u_rings, .int u_size, .int u_least, .long u_worth, .ref q_ring, .ref q_balance, .ref q_left, .ref q_sum, .ref q_parts, .int u_groups, .ref q_group, .int u_paid, .ref q_payment, .ref q_then, .int u_imaged, .ref q_image, .ref q_tapeSort, .ref q_tapeSize, .ref q_items])), (q_owes, .inl (C 0, 36, .inl u_owes)), (q_debt, .inl (C 0, 30, .inl u_debt)), (q_then, .inl (C 0, 67, .inl (upd u_then (36 + x1 : Int32).toNatClampNeg (u_debt (x1).toNatClampNeg))))]) cx hw 3 rfl g7 dX9_keeps_48 rfl (fun H locs hw => ?_)
      refine lv_iinc (v := x1 + 1) (lv' := [(1, .int (x1 + 1)), (0, .ref q_)]) hx hb dX9_keeps_49 hl (k := 1) rfl rfl (by decide) rfl (fun ls hl => ?_)
      refine lv_goto (tgt := 28) hx hb dX9_keeps_52 (by decide) ?_
      exact ih (x1 + 1) (upd u_then (36 + x1 : Int32).toNatClampNeg (u_debt (x1).toNatClampNeg)) H locs ls hF hw (lv_sub hl [1, 0] rfl)
set_option maxRecDepth 20000 in
theorem CX9_keeps (l : Launch) (D : va_G) (C : Nat → ClassId) (q_ q_owes q_denies q_debt q_cut q_sight q_event q_book q_text q_path q_ring q_balance q_left q_sum q_parts q_group q_payment q_then q_image q_tapeSort q_tapeSize q_items : Nat) (u_people : Int32) (u_debts : Int32) (u_cuts : Int32) (u_seen : Int32) (u_events : Int32) (u_inBook : Int32) (u_texted : Int32) (u_rule : Int32) (u_rings : Int32) (u_size : Int32) (u_least : Int32) (u_worth : Int64) (u_groups : Int32) (u_paid : Int32) (u_imaged : Int32) (u_owes : (Nat → Int32)) (u_debt : (Nat → Int32)) (u_then : (Nat → Int32)) (z : (Nat → Int32)) (hF : fX9_keeps u_debts u_owes u_debt u_then = some z) : Ct l yX9_keeps cX9_keeps 2 none 1 D C [.ref q_] [(q_, .inr (9, [.int u_people, .ref q_owes, .ref q_denies, .int u_debts, .ref q_debt, .int u_cuts, .ref q_cut, .int u_seen, .ref q_sight, .int u_events, .ref q_event, .int u_inBook, .ref q_book, .int u_texted, .ref q_text, .ref q_path, .int u_rule, .int u_rings, .int u_size, .int u_least, .long u_worth, .ref q_ring, .ref q_balance, .ref q_left, .ref q_sum, .ref q_parts, .int u_groups, .ref q_group, .int u_paid, .ref q_payment, .ref q_then, .int u_imaged, .ref q_image, .ref q_tapeSort, .ref q_tapeSize, .ref q_items])), (q_owes, .inl (C 0, 36, .inl u_owes)), (q_debt, .inl (C 0, 30, .inl u_debt)), (q_then, .inl (C 0, 67, .inl u_then))] [(q_, .inr (9, [.int u_people, .ref q_owes, .ref q_denies, .int u_debts, .ref q_debt, .int u_cuts, .ref q_cut, .int u_seen, .ref q_sight, .int u_events, .ref q_event, .int u_inBook, .ref q_book, .int u_texted, .ref q_text, .ref q_path, .int u_rule, .int u_rings, .int u_size, .int u_least, .long u_worth, .ref q_ring, .ref q_balance, .ref q_left, .ref q_sum, .ref q_parts, .int u_groups, .ref q_group, .int u_paid, .ref q_payment, .ref q_then, .int u_imaged, .ref q_image, .ref q_tapeSort, .ref q_tapeSize, .ref q_items])), (q_owes, .inl (C 0, 36, .inl u_owes)), (q_debt, .inl (C 0, 30, .inl u_debt)), (q_then, .inl (C 0, 67, .inl z))] none := by
  refine Ct_of (by decide) (Nat.le_of_ble_eq_true rfl) ?_
  intro p e R s m args below meth c A Q H locs ls cx hw hl hret
  have cx : CX p m c s args RX9 cX9_keeps 2 D C A R 1 := cx
  have hx := cx.1
  have hb := cx.2.1
  have hl : lv_has ls 2 [(0, .ref q_)] := hl
  rw [fX9_keeps.eq_1] at hF
  refine lv_iconst (v := 0) hx hb dX9_keeps_0 (by decide) ?_
  refine lv_istore_n (lv' := [(1, .int 0), (0, .ref q_)]) hx hb dX9_keeps_1 rfl hl (by decide) rfl (fun ls hl => ?_)
  refine LX9_keeps_2 cx hret (fun u_then_4 H locs ls hF hw hl => ?_) 400 0 u_then H locs ls hF hw (lv_sub hl [1, 0] rfl)
  · refine lv_iconst (v := 0) hx hb dX9_keeps_26 (by decide) ?_
    refine lv_istore_n (lv' := [(1, .int 0), (0, .ref q_)]) hx hb dX9_keeps_27 rfl hl (by decide) rfl (fun ls hl => ?_)
    refine LX9_keeps_28 cx hret (fun u_then_8 H locs ls hF hw hl => ?_) 400 0 u_then_4 H locs ls hF hw (lv_sub hl [1, 0] rfl)
    · refine lv_aload_n hx hb dX9_keeps_55 rfl (lv_at hl 0 rfl) ?_
      refine r_get (ci := 9) (v := .ref q_then) cx hw iX9 0 30 rfl rfl (by decide) wf_X9_60 rfl dX9_keeps_56 ?_
      refine lv_bipush (v := 66) hx hb dX9_keeps_59 (by decide) ?_
      refine lv_aload_n hx hb dX9_keeps_61 rfl (lv_at hl 0 rfl) ?_
      refine r_get (ci := 9) (v := .int u_debts) cx hw iX9 0 3 rfl rfl (by decide) wf_X9_88 rfl dX9_keeps_62 ?_
      obtain ⟨g9, hF⟩ := gA_s hF
      refine r_iast (w2 := [(q_, .inr (9, [.int u_people, .ref q_owes, .ref q_denies, .int u_debts, .ref q_debt, .int u_cuts, .ref q_cut, .int u_seen, .ref q_sight, .int u_events, .ref q_event, .int u_inBook, .ref q_book, .int u_texted, .ref q_text, .ref q_path, .int u_rule, .int u_rings, .int u_size, .int u_least, .long u_worth, .ref q_ring, .ref q_balance, .ref q_left, .ref q_sum, .ref q_parts, .int u_groups, .ref q_group, .int u_paid, .ref q_payment, .ref q_then, .int u_imaged, .ref q_image, .ref q_tapeSort, .ref q_tapeSize, .ref q_items])), (q_owes, .inl (C 0, 36, .inl u_owes)), (q_debt, .inl (C 0, 30, .inl u_debt)), (q_then, .inl (C 0, 67, .inl (upd u_then_8 (66 : Int32).toNatClampNeg u_debts)))]) cx hw 3 rfl g9 dX9_keeps_65 rfl (fun H locs hw => ?_)
      obtain rfl := Option.some.inj hF
      exact rt_v hret hw rfl dX9_keeps_66
theorem dX9_returns_0 : decode cX9_returns 0 = .ok (.iconst 0, 1) := by decide +kernel
theorem dX9_returns_1 : decode cX9_returns 1 = .ok (.istore_n 1, 1) := by decide +kernel
theorem dX9_returns_2 : decode cX9_returns 2 = .ok (.iload_n 1, 1) := by decide +kernel
theorem dX9_returns_3 : decode cX9_returns 3 = .ok (.bipush 36, 2) := by decide +kernel
theorem dX9_returns_5 : decode cX9_returns 5 = .ok (.if_icmp .ge 21, 3) := by decide +kernel
theorem dX9_returns_8 : decode cX9_returns 8 = .ok (.aload_n 0, 1) := by decide +kernel
theorem dX9_returns_9 : decode cX9_returns 9 = .ok (.getfield 9, 3) := by decide +kernel
theorem dX9_returns_12 : decode cX9_returns 12 = .ok (.iload_n 1, 1) := by decide +kernel
theorem dX9_returns_13 : decode cX9_returns 13 = .ok (.aload_n 0, 1) := by decide +kernel
theorem dX9_returns_14 : decode cX9_returns 14 = .ok (.getfield 60, 3) := by decide +kernel
theorem dX9_returns_17 : decode cX9_returns 17 = .ok (.iload_n 1, 1) := by decide +kernel
theorem dX9_returns_18 : decode cX9_returns 18 = .ok (.iaload, 1) := by decide +kernel
theorem dX9_returns_19 : decode cX9_returns 19 = .ok (.iastore, 1) := by decide +kernel
theorem dX9_returns_20 : decode cX9_returns 20 = .ok (.iinc 1 1, 3) := by decide +kernel
theorem dX9_returns_23 : decode cX9_returns 23 = .ok (.goto (-21), 3) := by decide +kernel
theorem dX9_returns_26 : decode cX9_returns 26 = .ok (.iconst 0, 1) := by decide +kernel
theorem dX9_returns_27 : decode cX9_returns 27 = .ok (.istore_n 1, 1) := by decide +kernel
theorem dX9_returns_28 : decode cX9_returns 28 = .ok (.iload_n 1, 1) := by decide +kernel
theorem dX9_returns_29 : decode cX9_returns 29 = .ok (.bipush 30, 2) := by decide +kernel
theorem dX9_returns_31 : decode cX9_returns 31 = .ok (.if_icmp .ge 24, 3) := by decide +kernel
theorem dX9_returns_34 : decode cX9_returns 34 = .ok (.aload_n 0, 1) := by decide +kernel
theorem dX9_returns_35 : decode cX9_returns 35 = .ok (.getfield 18, 3) := by decide +kernel
theorem dX9_returns_38 : decode cX9_returns 38 = .ok (.iload_n 1, 1) := by decide +kernel
theorem dX9_returns_39 : decode cX9_returns 39 = .ok (.aload_n 0, 1) := by decide +kernel
theorem dX9_returns_40 : decode cX9_returns 40 = .ok (.getfield 60, 3) := by decide +kernel
theorem dX9_returns_43 : decode cX9_returns 43 = .ok (.bipush 36, 2) := by decide +kernel
theorem dX9_returns_45 : decode cX9_returns 45 = .ok (.iload_n 1, 1) := by decide +kernel
theorem dX9_returns_46 : decode cX9_returns 46 = .ok (.iadd, 1) := by decide +kernel
theorem dX9_returns_47 : decode cX9_returns 47 = .ok (.iaload, 1) := by decide +kernel
theorem dX9_returns_48 : decode cX9_returns 48 = .ok (.iastore, 1) := by decide +kernel
theorem dX9_returns_49 : decode cX9_returns 49 = .ok (.iinc 1 1, 3) := by decide +kernel
theorem dX9_returns_52 : decode cX9_returns 52 = .ok (.goto (-24), 3) := by decide +kernel
theorem dX9_returns_55 : decode cX9_returns 55 = .ok (.aload_n 0, 1) := by decide +kernel
theorem dX9_returns_56 : decode cX9_returns 56 = .ok (.aload_n 0, 1) := by decide +kernel
theorem dX9_returns_57 : decode cX9_returns 57 = .ok (.getfield 60, 3) := by decide +kernel
theorem dX9_returns_60 : decode cX9_returns 60 = .ok (.bipush 66, 2) := by decide +kernel
theorem dX9_returns_62 : decode cX9_returns 62 = .ok (.iaload, 1) := by decide +kernel
theorem dX9_returns_63 : decode cX9_returns 63 = .ok (.putfield 88, 3) := by decide +kernel
theorem dX9_returns_66 : decode cX9_returns 66 = .ok (.return_, 1) := by decide +kernel
def fX9_returns_L2 (k26 : (Nat → Int32) → Option (Int32 × (Nat → Int32) × (Nat → Int32))) (u_then : (Nat → Int32)) : Nat → Int32 → (Nat → Int32) → Option (Int32 × (Nat → Int32) × (Nat → Int32))
  | 0, _, _ => none
  | n + 1, x1, u_owes => if 36 ≤ x1 then (k26 u_owes) else (gA x1 67 (gA x1 36 (fX9_returns_L2 k26 u_then n (x1 + 1) (upd u_owes (x1 : Int32).toNatClampNeg (u_then (x1).toNatClampNeg)))))
def fX9_returns_L28 (k55 : (Nat → Int32) → Option (Int32 × (Nat → Int32) × (Nat → Int32))) (u_then : (Nat → Int32)) : Nat → Int32 → (Nat → Int32) → Option (Int32 × (Nat → Int32) × (Nat → Int32))
  | 0, _, _ => none
  | n + 1, x1, u_debt => if 30 ≤ x1 then (k55 u_debt) else (gA (36 + x1) 67 (gA x1 30 (fX9_returns_L28 k55 u_then n (x1 + 1) (upd u_debt (x1 : Int32).toNatClampNeg (u_then (36 + x1).toNatClampNeg)))))
def fX9_returns (u_owes : (Nat → Int32)) (u_debt : (Nat → Int32)) (u_then : (Nat → Int32)) : Option (Int32 × (Nat → Int32) × (Nat → Int32)) := fX9_returns_L2 (fun (u_owes_4 : (Nat → Int32)) => fX9_returns_L28 (fun (u_debt_8 : (Nat → Int32)) => gA 66 67 (some (u_then (66 : Int32).toNatClampNeg, u_owes_4, u_debt_8))) u_then 400 0 u_debt) u_then 400 0 u_owes
set_option maxRecDepth 20000 in
theorem LX9_returns_2 {p : Program} {l : Launch} {e : Env} {R : Room} {s : State} {m : MethodId} {args : Array Value} {below : List Frame} {meth : Method} {c : Code} {Q : State → Prop} {D : va_G} {C : Nat → ClassId} {A : Nat → Prop} (cx : CX p m c s args RX9 cX9_returns 2 D C A R 1) {q_ q_owes q_denies q_debt q_cut q_sight q_event q_book q_text q_path q_ring q_balance q_left q_sum q_parts q_group q_payment q_then q_image q_tapeSort q_tapeSize q_items : Nat} {u_people : Int32} {u_debts : Int32} {u_cuts : Int32} {u_seen : Int32} {u_events : Int32} {u_inBook : Int32} {u_texted : Int32} {u_rule : Int32} {u_rings : Int32} {u_size : Int32} {u_least : Int32} {u_worth : Int64} {u_groups : Int32} {u_paid : Int32} {u_imaged : Int32} {u_debt : (Nat → Int32)} {u_then : (Nat → Int32)} {z : (Int32 × (Nat → Int32) × (Nat → Int32))} (hret : RT p l e R s m args below meth c Q D A cX9_returns none [(q_, .inr (9, [.int u_people, .ref q_owes, .ref q_denies, .int z.1, .ref q_debt, .int u_cuts, .ref q_cut, .int u_seen, .ref q_sight, .int u_events, .ref q_event, .int u_inBook, .ref q_book, .int u_texted, .ref q_text, .ref q_path, .int u_rule, .int u_rings, .int u_size, .int u_least, .long u_worth, .ref q_ring, .ref q_balance, .ref q_left, .ref q_sum, .ref q_parts, .int u_groups, .ref q_group, .int u_paid, .ref q_payment, .ref q_then, .int u_imaged, .ref q_image, .ref q_tapeSort, .ref q_tapeSize, .ref q_items])), (q_owes, .inl (C 0, 36, .inl z.2.1)), (q_debt, .inl (C 0, 30, .inl z.2.2)), (q_then, .inl (C 0, 67, .inl u_then))] none) {k26 : (Nat → Int32) → Option (Int32 × (Nat → Int32) × (Nat → Int32))} (hk26 : ∀ (u_owes : (Nat → Int32)) (H : Heap) (locs : List Loc) (ls : Array Slot), k26 u_owes = some z → HW D A s.heap H locs [(q_, .inr (9, [.int u_people, .ref q_owes, .ref q_denies, .int u_debts, .ref q_debt, .int u_cuts, .ref q_cut, .int u_seen, .ref q_sight, .int u_events, .ref q_event, .int u_inBook, .ref q_book, .int u_texted, .ref q_text, .ref q_path, .int u_rule, .int u_rings, .int u_size, .int u_least, .long u_worth, .ref q_ring, .ref q_balance, .ref q_left, .ref q_sum, .ref q_parts, .int u_groups, .ref q_group, .int u_paid, .ref q_payment, .ref q_then, .int u_imaged, .ref q_image, .ref q_tapeSort, .ref q_tapeSize, .ref q_items])), (q_owes, .inl (C 0, 36, .inl u_owes)), (q_debt, .inl (C 0, 30, .inl u_debt)), (q_then, .inl (C 0, 67, .inl u_then))] → lv_has ls 2 [(0, .ref q_)] → W p l e R s m args below meth c H locs 0 0 Q (F0 m 26 ls [])) :
    ∀ (n : Nat) (x1 : Int32) (u_owes : (Nat → Int32)) (H : Heap) (locs : List Loc) (ls : Array Slot), fX9_returns_L2 k26 u_then n x1 u_owes = some z → HW D A s.heap H locs [(q_, .inr (9, [.int u_people, .ref q_owes, .ref q_denies, .int u_debts, .ref q_debt, .int u_cuts, .ref q_cut, .int u_seen, .ref q_sight, .int u_events, .ref q_event, .int u_inBook, .ref q_book, .int u_texted, .ref q_text, .ref q_path, .int u_rule, .int u_rings, .int u_size, .int u_least, .long u_worth, .ref q_ring, .ref q_balance, .ref q_left, .ref q_sum, .ref q_parts, .int u_groups, .ref q_group, .int u_paid, .ref q_payment, .ref q_then, .int u_imaged, .ref q_image, .ref q_tapeSort, .ref q_tapeSize, .ref q_items])), (q_owes, .inl (C 0, 36, .inl u_owes)), (q_debt, .inl (C 0, 30, .inl u_debt)), (q_then, .inl (C 0, 67, .inl u_then))] → lv_has ls 2 [(0, .ref q_), (1, .int x1)] → W p l e R s m args below meth c H locs 0 0 Q (F0 m 2 ls []) := by
  have hx := cx.1
  have hb := cx.2.1
  intro n
  induction n with
  | zero => intro x1 u_owes H locs ls hF; cases hF
  | succ n ih =>
    intro x1 u_owes H locs ls hF hw hl
    rw [fX9_returns_L2.eq_2] at hF
    refine lv_iload_n hx hb dX9_returns_2 rfl (lv_at hl 1 rfl) ?_
    refine lv_bipush (v := 36) hx hb dX9_returns_3 (by decide) ?_
    refine lv_icmp_ge (tgt := 26) hx hb dX9_returns_5 (by decide) (fun c1 => ?_) (fun c1 => ?_)
    · replace hF := oi_t c1 hF
      exact hk26 u_owes H locs ls hF hw (lv_sub hl [0] rfl)
    · replace hF := oi_f c1 hF
      refine lv_aload_n hx hb dX9_returns_8 rfl (lv_at hl 0 rfl) ?_
      refine r_get (ci := 9) (v := .ref q_owes) cx hw iX9 0 1 rfl rfl (by decide) wf_X9_9 rfl dX9_returns_9 ?_
      refine lv_iload_n hx hb dX9_returns_12 rfl (lv_at hl 1 rfl) ?_
      refine lv_aload_n hx hb dX9_returns_13 rfl (lv_at hl 0 rfl) ?_
      refine r_get (ci := 9) (v := .ref q_then) cx hw iX9 0 30 rfl rfl (by decide) wf_X9_60 rfl dX9_returns_14 ?_
      refine lv_iload_n hx hb dX9_returns_17 rfl (lv_at hl 1 rfl) ?_
      obtain ⟨g2, hF⟩ := gA_s hF
      refine r_iald cx hw 3 rfl g2 dX9_returns_18 ?_
      obtain ⟨g3, hF⟩ := gA_s hF
      refine r_iast (w2 := [(q_, .inr (9, [.int u_people, .ref q_owes, .ref q_denies, .int u_debts, .ref q_debt, .int u_cuts, .ref q_cut, .int u_seen, .ref q_sight, .int u_events, .ref q_event, .int u_inBook, .ref q_book, .int u_texted, .ref q_text, .ref q_path, .int u_rule, .int u_rings, .int u_size, .int u_least, .long u_worth, .ref q_ring, .ref q_balance, .ref q_left, .ref q_sum, .ref q_parts, .int u_groups, .ref q_group, .int u_paid, .ref q_payment, .ref q_then, .int u_imaged, .ref q_image, .ref q_tapeSort, .ref q_tapeSize, .ref q_items])), (q_owes, .inl (C 0, 36, .inl (upd u_owes (x1 : Int32).toNatClampNeg (u_then (x1).toNatClampNeg)))), (q_debt, .inl (C 0, 30, .inl u_debt)), (q_then, .inl (C 0, 67, .inl u_then))]) cx hw 1 rfl g3 dX9_returns_19 rfl (fun H locs hw => ?_)
      refine lv_iinc (v := x1 + 1) (lv' := [(1, .int (x1 + 1)), (0, .ref q_)]) hx hb dX9_returns_20 hl (k := 1) rfl rfl (by decide) rfl (fun ls hl => ?_)
      refine lv_goto (tgt := 2) hx hb dX9_returns_23 (by decide) ?_
      exact ih (x1 + 1) (upd u_owes (x1 : Int32).toNatClampNeg (u_then (x1).toNatClampNeg)) H locs ls hF hw (lv_sub hl [1, 0] rfl)
set_option maxRecDepth 20000 in
theorem LX9_returns_28 {p : Program} {l : Launch} {e : Env} {R : Room} {s : State} {m : MethodId} {args : Array Value} {below : List Frame} {meth : Method} {c : Code} {Q : State → Prop} {D : va_G} {C : Nat → ClassId} {A : Nat → Prop} (cx : CX p m c s args RX9 cX9_returns 2 D C A R 1) {q_ q_owes q_denies q_debt q_cut q_sight q_event q_book q_text q_path q_ring q_balance q_left q_sum q_parts q_group q_payment q_then q_image q_tapeSort q_tapeSize q_items : Nat} {u_people : Int32} {u_debts : Int32} {u_cuts : Int32} {u_seen : Int32} {u_events : Int32} {u_inBook : Int32} {u_texted : Int32} {u_rule : Int32} {u_rings : Int32} {u_size : Int32} {u_least : Int32} {u_worth : Int64} {u_groups : Int32} {u_paid : Int32} {u_imaged : Int32} {u_owes : (Nat → Int32)} {u_then : (Nat → Int32)} {z : (Int32 × (Nat → Int32) × (Nat → Int32))} (hret : RT p l e R s m args below meth c Q D A cX9_returns none [(q_, .inr (9, [.int u_people, .ref q_owes, .ref q_denies, .int z.1, .ref q_debt, .int u_cuts, .ref q_cut, .int u_seen, .ref q_sight, .int u_events, .ref q_event, .int u_inBook, .ref q_book, .int u_texted, .ref q_text, .ref q_path, .int u_rule, .int u_rings, .int u_size, .int u_least, .long u_worth, .ref q_ring, .ref q_balance, .ref q_left, .ref q_sum, .ref q_parts, .int u_groups, .ref q_group, .int u_paid, .ref q_payment, .ref q_then, .int u_imaged, .ref q_image, .ref q_tapeSort, .ref q_tapeSize, .ref q_items])), (q_owes, .inl (C 0, 36, .inl z.2.1)), (q_debt, .inl (C 0, 30, .inl z.2.2)), (q_then, .inl (C 0, 67, .inl u_then))] none) {k55 : (Nat → Int32) → Option (Int32 × (Nat → Int32) × (Nat → Int32))} (hk55 : ∀ (u_debt : (Nat → Int32)) (H : Heap) (locs : List Loc) (ls : Array Slot), k55 u_debt = some z → HW D A s.heap H locs [(q_, .inr (9, [.int u_people, .ref q_owes, .ref q_denies, .int u_debts, .ref q_debt, .int u_cuts, .ref q_cut, .int u_seen, .ref q_sight, .int u_events, .ref q_event, .int u_inBook, .ref q_book, .int u_texted, .ref q_text, .ref q_path, .int u_rule, .int u_rings, .int u_size, .int u_least, .long u_worth, .ref q_ring, .ref q_balance, .ref q_left, .ref q_sum, .ref q_parts, .int u_groups, .ref q_group, .int u_paid, .ref q_payment, .ref q_then, .int u_imaged, .ref q_image, .ref q_tapeSort, .ref q_tapeSize, .ref q_items])), (q_owes, .inl (C 0, 36, .inl u_owes)), (q_debt, .inl (C 0, 30, .inl u_debt)), (q_then, .inl (C 0, 67, .inl u_then))] → lv_has ls 2 [(0, .ref q_)] → W p l e R s m args below meth c H locs 0 0 Q (F0 m 55 ls [])) :
    ∀ (n : Nat) (x1 : Int32) (u_debt : (Nat → Int32)) (H : Heap) (locs : List Loc) (ls : Array Slot), fX9_returns_L28 k55 u_then n x1 u_debt = some z → HW D A s.heap H locs [(q_, .inr (9, [.int u_people, .ref q_owes, .ref q_denies, .int u_debts, .ref q_debt, .int u_cuts, .ref q_cut, .int u_seen, .ref q_sight, .int u_events, .ref q_event, .int u_inBook, .ref q_book, .int u_texted, .ref q_text, .ref q_path, .int u_rule, .int u_rings, .int u_size, .int u_least, .long u_worth, .ref q_ring, .ref q_balance, .ref q_left, .ref q_sum, .ref q_parts, .int u_groups, .ref q_group, .int u_paid, .ref q_payment, .ref q_then, .int u_imaged, .ref q_image, .ref q_tapeSort, .ref q_tapeSize, .ref q_items])), (q_owes, .inl (C 0, 36, .inl u_owes)), (q_debt, .inl (C 0, 30, .inl u_debt)), (q_then, .inl (C 0, 67, .inl u_then))] → lv_has ls 2 [(0, .ref q_), (1, .int x1)] → W p l e R s m args below meth c H locs 0 0 Q (F0 m 28 ls []) := by
  have hx := cx.1
  have hb := cx.2.1
  intro n
  induction n with
  | zero => intro x1 u_debt H locs ls hF; cases hF
  | succ n ih =>
    intro x1 u_debt H locs ls hF hw hl
    rw [fX9_returns_L28.eq_2] at hF
    refine lv_iload_n hx hb dX9_returns_28 rfl (lv_at hl 1 rfl) ?_
    refine lv_bipush (v := 30) hx hb dX9_returns_29 (by decide) ?_
    refine lv_icmp_ge (tgt := 55) hx hb dX9_returns_31 (by decide) (fun c5 => ?_) (fun c5 => ?_)
    · replace hF := oi_t c5 hF
      exact hk55 u_debt H locs ls hF hw (lv_sub hl [0] rfl)
    · replace hF := oi_f c5 hF
      refine lv_aload_n hx hb dX9_returns_34 rfl (lv_at hl 0 rfl) ?_
      refine r_get (ci := 9) (v := .ref q_debt) cx hw iX9 0 4 rfl rfl (by decide) wf_X9_18 rfl dX9_returns_35 ?_
      refine lv_iload_n hx hb dX9_returns_38 rfl (lv_at hl 1 rfl) ?_
      refine lv_aload_n hx hb dX9_returns_39 rfl (lv_at hl 0 rfl) ?_
      refine r_get (ci := 9) (v := .ref q_then) cx hw iX9 0 30 rfl rfl (by decide) wf_X9_60 rfl dX9_returns_40 ?_
      refine lv_bipush (v := 36) hx hb dX9_returns_43 (by decide) ?_
      refine lv_iload_n hx hb dX9_returns_45 rfl (lv_at hl 1 rfl) ?_
      refine lv_iadd hx hb dX9_returns_46 ?_
      obtain ⟨g6, hF⟩ := gA_s hF
      refine r_iald cx hw 3 rfl g6 dX9_returns_47 ?_
      obtain ⟨g7, hF⟩ := gA_s hF
      refine r_iast (w2 := [(q_, .inr (9, [.int u_people, .ref q_owes, .ref q_denies, .int u_debts, .ref q_debt, .int u_cuts, .ref q_cut, .int u_seen, .ref q_sight, .int u_events, .ref q_event, .int u_inBook, .ref q_book, .int u_texted, .ref q_text, .ref q_path, .int u_rule, .int u_rings, .int u_size, .int u_least, .long u_worth, .ref q_ring, .ref q_balance, .ref q_left, .ref q_sum, .ref q_parts, .int u_groups, .ref q_group, .int u_paid, .ref q_payment, .ref q_then, .int u_imaged, .ref q_image, .ref q_tapeSort, .ref q_tapeSize, .ref q_items])), (q_owes, .inl (C 0, 36, .inl u_owes)), (q_debt, .inl (C 0, 30, .inl (upd u_debt (x1 : Int32).toNatClampNeg (u_then (36 + x1).toNatClampNeg)))), (q_then, .inl (C 0, 67, .inl u_then))]) cx hw 2 rfl g7 dX9_returns_48 rfl (fun H locs hw => ?_)
      refine lv_iinc (v := x1 + 1) (lv' := [(1, .int (x1 + 1)), (0, .ref q_)]) hx hb dX9_returns_49 hl (k := 1) rfl rfl (by decide) rfl (fun ls hl => ?_)
      refine lv_goto (tgt := 28) hx hb dX9_returns_52 (by decide) ?_
      exact ih (x1 + 1) (upd u_debt (x1 : Int32).toNatClampNeg (u_then (36 + x1).toNatClampNeg)) H locs ls hF hw (lv_sub hl [1, 0] rfl)
set_option maxRecDepth 20000 in
theorem CX9_returns (l : Launch) (D : va_G) (C : Nat → ClassId) (q_ q_owes q_denies q_debt q_cut q_sight q_event q_book q_text q_path q_ring q_balance q_left q_sum q_parts q_group q_payment q_then q_image q_tapeSort q_tapeSize q_items : Nat) (u_people : Int32) (u_debts : Int32) (u_cuts : Int32) (u_seen : Int32) (u_events : Int32) (u_inBook : Int32) (u_texted : Int32) (u_rule : Int32) (u_rings : Int32) (u_size : Int32) (u_least : Int32) (u_worth : Int64) (u_groups : Int32) (u_paid : Int32) (u_imaged : Int32) (u_owes : (Nat → Int32)) (u_debt : (Nat → Int32)) (u_then : (Nat → Int32)) (z : (Int32 × (Nat → Int32) × (Nat → Int32))) (hF : fX9_returns u_owes u_debt u_then = some z) : Ct l yX9_returns cX9_returns 2 none 1 D C [.ref q_] [(q_, .inr (9, [.int u_people, .ref q_owes, .ref q_denies, .int u_debts, .ref q_debt, .int u_cuts, .ref q_cut, .int u_seen, .ref q_sight, .int u_events, .ref q_event, .int u_inBook, .ref q_book, .int u_texted, .ref q_text, .ref q_path, .int u_rule, .int u_rings, .int u_size, .int u_least, .long u_worth, .ref q_ring, .ref q_balance, .ref q_left, .ref q_sum, .ref q_parts, .int u_groups, .ref q_group, .int u_paid, .ref q_payment, .ref q_then, .int u_imaged, .ref q_image, .ref q_tapeSort, .ref q_tapeSize, .ref q_items])), (q_owes, .inl (C 0, 36, .inl u_owes)), (q_debt, .inl (C 0, 30, .inl u_debt)), (q_then, .inl (C 0, 67, .inl u_then))] [(q_, .inr (9, [.int u_people, .ref q_owes, .ref q_denies, .int z.1, .ref q_debt, .int u_cuts, .ref q_cut, .int u_seen, .ref q_sight, .int u_events, .ref q_event, .int u_inBook, .ref q_book, .int u_texted, .ref q_text, .ref q_path, .int u_rule, .int u_rings, .int u_size, .int u_least, .long u_worth, .ref q_ring, .ref q_balance, .ref q_left, .ref q_sum, .ref q_parts, .int u_groups, .ref q_group, .int u_paid, .ref q_payment, .ref q_then, .int u_imaged, .ref q_image, .ref q_tapeSort, .ref q_tapeSize, .ref q_items])), (q_owes, .inl (C 0, 36, .inl z.2.1)), (q_debt, .inl (C 0, 30, .inl z.2.2)), (q_then, .inl (C 0, 67, .inl u_then))] none := by
  refine Ct_of (by decide) (Nat.le_of_ble_eq_true rfl) ?_
  intro p e R s m args below meth c A Q H locs ls cx hw hl hret
  have cx : CX p m c s args RX9 cX9_returns 2 D C A R 1 := cx
  have hx := cx.1
  have hb := cx.2.1
  have hl : lv_has ls 2 [(0, .ref q_)] := hl
  rw [fX9_returns.eq_1] at hF
  refine lv_iconst (v := 0) hx hb dX9_returns_0 (by decide) ?_
  refine lv_istore_n (lv' := [(1, .int 0), (0, .ref q_)]) hx hb dX9_returns_1 rfl hl (by decide) rfl (fun ls hl => ?_)
  refine LX9_returns_2 cx hret (fun u_owes_4 H locs ls hF hw hl => ?_) 400 0 u_owes H locs ls hF hw (lv_sub hl [1, 0] rfl)
  · refine lv_iconst (v := 0) hx hb dX9_returns_26 (by decide) ?_
    refine lv_istore_n (lv' := [(1, .int 0), (0, .ref q_)]) hx hb dX9_returns_27 rfl hl (by decide) rfl (fun ls hl => ?_)
    refine LX9_returns_28 cx hret (fun u_debt_8 H locs ls hF hw hl => ?_) 400 0 u_debt H locs ls hF hw (lv_sub hl [1, 0] rfl)
    · refine lv_aload_n hx hb dX9_returns_55 rfl (lv_at hl 0 rfl) ?_
      refine lv_aload_n hx hb dX9_returns_56 rfl (lv_at hl 0 rfl) ?_
      refine r_get (ci := 9) (v := .ref q_then) cx hw iX9 0 30 rfl rfl (by decide) wf_X9_60 rfl dX9_returns_57 ?_
      refine lv_bipush (v := 66) hx hb dX9_returns_60 (by decide) ?_
      obtain ⟨g9, hF⟩ := gA_s hF
      refine r_iald cx hw 3 rfl g9 dX9_returns_62 ?_
      refine r_put (ci := 9) (w2 := [(q_, .inr (9, [.int u_people, .ref q_owes, .ref q_denies, .int (u_then (66 : Int32).toNatClampNeg), .ref q_debt, .int u_cuts, .ref q_cut, .int u_seen, .ref q_sight, .int u_events, .ref q_event, .int u_inBook, .ref q_book, .int u_texted, .ref q_text, .ref q_path, .int u_rule, .int u_rings, .int u_size, .int u_least, .long u_worth, .ref q_ring, .ref q_balance, .ref q_left, .ref q_sum, .ref q_parts, .int u_groups, .ref q_group, .int u_paid, .ref q_payment, .ref q_then, .int u_imaged, .ref q_image, .ref q_tapeSort, .ref q_tapeSize, .ref q_items])), (q_owes, .inl (C 0, 36, .inl u_owes_4)), (q_debt, .inl (C 0, 30, .inl u_debt_8)), (q_then, .inl (C 0, 67, .inl u_then))]) cx hw iX9 tyX9_ok nmX9 0 3 rfl rfl (by decide) wf_X9_88 rfl rfl rfl rfl (Nat.le_of_ble_eq_true rfl) dX9_returns_63 rfl (fun H locs hw => ?_)
      obtain rfl := Option.some.inj hF
      exact rt_v hret hw rfl dX9_returns_66
theorem dX9_clears_0 : decode cX9_clears 0 = .ok (.iconst 0, 1) := by decide +kernel
theorem dX9_clears_1 : decode cX9_clears 1 = .ok (.istore_n 3, 1) := by decide +kernel
theorem dX9_clears_2 : decode cX9_clears 2 = .ok (.iload_n 3, 1) := by decide +kernel
theorem dX9_clears_3 : decode cX9_clears 3 = .ok (.aload_n 0, 1) := by decide +kernel
theorem dX9_clears_4 : decode cX9_clears 4 = .ok (.getfield 76, 3) := by decide +kernel
theorem dX9_clears_7 : decode cX9_clears 7 = .ok (.if_icmp .ge 38, 3) := by decide +kernel
theorem dX9_clears_10 : decode cX9_clears 10 = .ok (.iload_n 3, 1) := by decide +kernel
theorem dX9_clears_11 : decode cX9_clears 11 = .ok (.iload_n 1, 1) := by decide +kernel
theorem dX9_clears_12 : decode cX9_clears 12 = .ok (.if_icmp .eq 27, 3) := by decide +kernel
theorem dX9_clears_15 : decode cX9_clears 15 = .ok (.aload_n 0, 1) := by decide +kernel
theorem dX9_clears_16 : decode cX9_clears 16 = .ok (.iload_n 2, 1) := by decide +kernel
theorem dX9_clears_17 : decode cX9_clears 17 = .ok (.ifCond .eq 12, 3) := by decide +kernel
theorem dX9_clears_20 : decode cX9_clears 20 = .ok (.bipush 6, 2) := by decide +kernel
theorem dX9_clears_22 : decode cX9_clears 22 = .ok (.iload_n 3, 1) := by decide +kernel
theorem dX9_clears_23 : decode cX9_clears 23 = .ok (.imul, 1) := by decide +kernel
theorem dX9_clears_24 : decode cX9_clears 24 = .ok (.iload_n 1, 1) := by decide +kernel
theorem dX9_clears_25 : decode cX9_clears 25 = .ok (.iadd, 1) := by decide +kernel
theorem dX9_clears_26 : decode cX9_clears 26 = .ok (.goto 9, 3) := by decide +kernel
theorem dX9_clears_29 : decode cX9_clears 29 = .ok (.bipush 6, 2) := by decide +kernel
theorem dX9_clears_31 : decode cX9_clears 31 = .ok (.iload_n 1, 1) := by decide +kernel
theorem dX9_clears_32 : decode cX9_clears 32 = .ok (.imul, 1) := by decide +kernel
theorem dX9_clears_33 : decode cX9_clears 33 = .ok (.iload_n 3, 1) := by decide +kernel
theorem dX9_clears_34 : decode cX9_clears 34 = .ok (.iadd, 1) := by decide +kernel
theorem dX9_clears_35 : decode cX9_clears 35 = .ok (.iconst 0, 1) := by decide +kernel
theorem dX9_clears_36 : decode cX9_clears 36 = .ok (.invokevirtual 99, 3) := by decide +kernel
theorem dX9_clears_39 : decode cX9_clears 39 = .ok (.iinc 3 1, 3) := by decide +kernel
theorem dX9_clears_42 : decode cX9_clears 42 = .ok (.goto (-40), 3) := by decide +kernel
theorem dX9_clears_45 : decode cX9_clears 45 = .ok (.return_, 1) := by decide +kernel
def fX9_clears_L2 (u_people : Int32) (x1 : Int32) (x2 : Int32) : Nat → Int32 → Int32 → (Nat → Int32) → (Nat → Int32) → Option (Int32 × (Nat → Int32) × (Nat → Int32))
  | 0, _, _, _, _ => none
  | n + 1, x3, u_debts, u_owes, u_debt => if u_people ≤ x3 then (some (u_debts, u_owes, u_debt)) else (if x3 = x1 then (fX9_clears_L2 u_people x1 x2 n (x3 + 1) u_debts u_owes u_debt) else (if x2 = 0 then ((fX9_becomes u_debts u_owes u_debt ((6 * x1) + x3) 0).bind (fun z4 => fX9_clears_L2 u_people x1 x2 n (x3 + 1) z4.1 z4.2.1 z4.2.2)) else ((fX9_becomes u_debts u_owes u_debt ((6 * x3) + x1) 0).bind (fun z5 => fX9_clears_L2 u_people x1 x2 n (x3 + 1) z5.1 z5.2.1 z5.2.2))))
def fX9_clears (u_people : Int32) (u_debts : Int32) (u_owes : (Nat → Int32)) (u_debt : (Nat → Int32)) (x1 : Int32) (x2 : Int32) : Option (Int32 × (Nat → Int32) × (Nat → Int32)) := fX9_clears_L2 u_people x1 x2 400 0 u_debts u_owes u_debt
set_option maxRecDepth 20000 in
theorem LX9_clears_2 {p : Program} {l : Launch} {e : Env} {R : Room} {s : State} {m : MethodId} {args : Array Value} {below : List Frame} {meth : Method} {c : Code} {Q : State → Prop} {D : va_G} {C : Nat → ClassId} {A : Nat → Prop} (cx : CX p m c s args RX9 cX9_clears 4 D C A R 3) {q_ q_owes q_denies q_debt q_cut q_sight q_event q_book q_text q_path q_ring q_balance q_left q_sum q_parts q_group q_payment q_then q_image q_tapeSort q_tapeSize q_items : Nat} {u_people : Int32} {u_cuts : Int32} {u_seen : Int32} {u_events : Int32} {u_inBook : Int32} {u_texted : Int32} {u_rule : Int32} {u_rings : Int32} {u_size : Int32} {u_least : Int32} {u_worth : Int64} {u_groups : Int32} {u_paid : Int32} {u_imaged : Int32} {x1 : Int32} {x2 : Int32} {z : (Int32 × (Nat → Int32) × (Nat → Int32))} (hret : RT p l e R s m args below meth c Q D A cX9_clears none [(q_, .inr (9, [.int u_people, .ref q_owes, .ref q_denies, .int z.1, .ref q_debt, .int u_cuts, .ref q_cut, .int u_seen, .ref q_sight, .int u_events, .ref q_event, .int u_inBook, .ref q_book, .int u_texted, .ref q_text, .ref q_path, .int u_rule, .int u_rings, .int u_size, .int u_least, .long u_worth, .ref q_ring, .ref q_balance, .ref q_left, .ref q_sum, .ref q_parts, .int u_groups, .ref q_group, .int u_paid, .ref q_payment, .ref q_then, .int u_imaged, .ref q_image, .ref q_tapeSort, .ref q_tapeSize, .ref q_items])), (q_owes, .inl (C 0, 36, .inl z.2.1)), (q_debt, .inl (C 0, 30, .inl z.2.2))] none) :
    ∀ (n : Nat) (x3 : Int32) (u_debts : Int32) (u_owes : (Nat → Int32)) (u_debt : (Nat → Int32)) (H : Heap) (locs : List Loc) (ls : Array Slot), fX9_clears_L2 u_people x1 x2 n x3 u_debts u_owes u_debt = some z → HW D A s.heap H locs [(q_, .inr (9, [.int u_people, .ref q_owes, .ref q_denies, .int u_debts, .ref q_debt, .int u_cuts, .ref q_cut, .int u_seen, .ref q_sight, .int u_events, .ref q_event, .int u_inBook, .ref q_book, .int u_texted, .ref q_text, .ref q_path, .int u_rule, .int u_rings, .int u_size, .int u_least, .long u_worth, .ref q_ring, .ref q_balance, .ref q_left, .ref q_sum, .ref q_parts, .int u_groups, .ref q_group, .int u_paid, .ref q_payment, .ref q_then, .int u_imaged, .ref q_image, .ref q_tapeSort, .ref q_tapeSize, .ref q_items])), (q_owes, .inl (C 0, 36, .inl u_owes)), (q_debt, .inl (C 0, 30, .inl u_debt))] → lv_has ls 4 [(0, .ref q_), (1, .int x1), (2, .int x2), (3, .int x3)] → W p l e R s m args below meth c H locs 0 0 Q (F0 m 2 ls []) := by
  have hx := cx.1
  have hb := cx.2.1
  intro n
  induction n with
  | zero => intro x3 u_debts u_owes u_debt H locs ls hF; cases hF
  | succ n ih =>
    intro x3 u_debts u_owes u_debt H locs ls hF hw hl
    rw [fX9_clears_L2.eq_2] at hF
    refine lv_iload_n hx hb dX9_clears_2 rfl (lv_at hl 3 rfl) ?_
    refine lv_aload_n hx hb dX9_clears_3 rfl (lv_at hl 0 rfl) ?_
    refine r_get (ci := 9) (v := .int u_people) cx hw iX9 0 0 rfl rfl (by decide) wf_X9_76 rfl dX9_clears_4 ?_
    refine lv_icmp_ge (tgt := 45) hx hb dX9_clears_7 (by decide) (fun c1 => ?_) (fun c1 => ?_)
    · replace hF := oi_t c1 hF
      obtain rfl := Option.some.inj hF
      exact rt_v hret hw rfl dX9_clears_45
    · replace hF := oi_f c1 hF
      refine lv_iload_n hx hb dX9_clears_10 rfl (lv_at hl 3 rfl) ?_
      refine lv_iload_n hx hb dX9_clears_11 rfl (lv_at hl 1 rfl) ?_
      refine lv_icmp_eq (tgt := 39) hx hb dX9_clears_12 (by decide) (fun c2 => ?_) (fun c2 => ?_)
      · replace hF := oi_t c2 hF
        refine lv_iinc (v := x3 + 1) (lv' := [(3, .int (x3 + 1)), (0, .ref q_), (1, .int x1), (2, .int x2)]) hx hb dX9_clears_39 hl (k := 3) rfl rfl (by decide) rfl (fun ls hl => ?_)
        refine lv_goto (tgt := 2) hx hb dX9_clears_42 (by decide) ?_
        exact ih (x3 + 1) u_debts u_owes u_debt H locs ls hF hw (lv_sub hl [1, 2, 3, 0] rfl)
      · replace hF := oi_f c2 hF
        refine lv_aload_n hx hb dX9_clears_15 rfl (lv_at hl 0 rfl) ?_
        refine lv_iload_n hx hb dX9_clears_16 rfl (lv_at hl 2 rfl) ?_
        refine lv_if_eq (tgt := 29) hx hb dX9_clears_17 (by decide) (fun c3 => ?_) (fun c3 => ?_)
        · replace hF := oi_t c3 hF
          refine lv_bipush (v := 6) hx hb dX9_clears_29 (by decide) ?_
          refine lv_iload_n hx hb dX9_clears_31 rfl (lv_at hl 1 rfl) ?_
          refine lv_imul hx hb dX9_clears_32 ?_
          refine lv_iload_n hx hb dX9_clears_33 rfl (lv_at hl 3 rfl) ?_
          refine lv_iadd hx hb dX9_clears_34 ?_
          refine lv_iconst (v := 0) hx hb dX9_clears_35 (by decide) ?_
          obtain ⟨z4, hz4, hF⟩ := ob hF
          refine cV (wr := []) (w2 := [(q_, .inr (9, [.int u_people, .ref q_owes, .ref q_denies, .int z4.1, .ref q_debt, .int u_cuts, .ref q_cut, .int u_seen, .ref q_sight, .int u_events, .ref q_event, .int u_inBook, .ref q_book, .int u_texted, .ref q_text, .ref q_path, .int u_rule, .int u_rings, .int u_size, .int u_least, .long u_worth, .ref q_ring, .ref q_balance, .ref q_left, .ref q_sum, .ref q_parts, .int u_groups, .ref q_group, .int u_paid, .ref q_payment, .ref q_then, .int u_imaged, .ref q_image, .ref q_tapeSort, .ref q_tapeSize, .ref q_items])), (q_owes, .inl (C 0, 36, .inl z4.2.1)), (q_debt, .inl (C 0, 30, .inl z4.2.2))]) (st2 := []) cx (CX9_becomes l D C q_ q_owes q_denies q_debt q_cut q_sight q_event q_book q_text q_path q_ring q_balance q_left q_sum q_parts q_group q_payment q_then q_image q_tapeSort q_tapeSize q_items u_people u_debts u_cuts u_seen u_events u_inBook u_texted u_rule u_rings u_size u_least u_worth u_groups u_paid u_imaged u_owes u_debt ((6 * x1) + x3) 0 z4 hz4) lk_X9_99 my_X9_becomes ml_X9_becomes ⟨by decide, by decide⟩ hw [0, 1, 2] [] [0, 1, 2] rfl rfl (by decide) rfl rfl rfl rfl (Nat.le_of_ble_eq_true rfl) dX9_clears_36 rfl (fun H locs hw => ?_) hl.1
          refine lv_iinc (v := x3 + 1) (lv' := [(3, .int (x3 + 1)), (0, .ref q_), (1, .int x1), (2, .int x2)]) hx hb dX9_clears_39 hl (k := 3) rfl rfl (by decide) rfl (fun ls hl => ?_)
          refine lv_goto (tgt := 2) hx hb dX9_clears_42 (by decide) ?_
          exact ih (x3 + 1) z4.1 z4.2.1 z4.2.2 H locs ls hF hw (lv_sub hl [1, 2, 3, 0] rfl)
        · replace hF := oi_f c3 hF
          refine lv_bipush (v := 6) hx hb dX9_clears_20 (by decide) ?_
          refine lv_iload_n hx hb dX9_clears_22 rfl (lv_at hl 3 rfl) ?_
          refine lv_imul hx hb dX9_clears_23 ?_
          refine lv_iload_n hx hb dX9_clears_24 rfl (lv_at hl 1 rfl) ?_
          refine lv_iadd hx hb dX9_clears_25 ?_
          refine lv_goto (tgt := 35) hx hb dX9_clears_26 (by decide) ?_
          refine lv_iconst (v := 0) hx hb dX9_clears_35 (by decide) ?_
          obtain ⟨z5, hz5, hF⟩ := ob hF
          refine cV (wr := []) (w2 := [(q_, .inr (9, [.int u_people, .ref q_owes, .ref q_denies, .int z5.1, .ref q_debt, .int u_cuts, .ref q_cut, .int u_seen, .ref q_sight, .int u_events, .ref q_event, .int u_inBook, .ref q_book, .int u_texted, .ref q_text, .ref q_path, .int u_rule, .int u_rings, .int u_size, .int u_least, .long u_worth, .ref q_ring, .ref q_balance, .ref q_left, .ref q_sum, .ref q_parts, .int u_groups, .ref q_group, .int u_paid, .ref q_payment, .ref q_then, .int u_imaged, .ref q_image, .ref q_tapeSort, .ref q_tapeSize, .ref q_items])), (q_owes, .inl (C 0, 36, .inl z5.2.1)), (q_debt, .inl (C 0, 30, .inl z5.2.2))]) (st2 := []) cx (CX9_becomes l D C q_ q_owes q_denies q_debt q_cut q_sight q_event q_book q_text q_path q_ring q_balance q_left q_sum q_parts q_group q_payment q_then q_image q_tapeSort q_tapeSize q_items u_people u_debts u_cuts u_seen u_events u_inBook u_texted u_rule u_rings u_size u_least u_worth u_groups u_paid u_imaged u_owes u_debt ((6 * x3) + x1) 0 z5 hz5) lk_X9_99 my_X9_becomes ml_X9_becomes ⟨by decide, by decide⟩ hw [0, 1, 2] [] [0, 1, 2] rfl rfl (by decide) rfl rfl rfl rfl (Nat.le_of_ble_eq_true rfl) dX9_clears_36 rfl (fun H locs hw => ?_) hl.1
          refine lv_iinc (v := x3 + 1) (lv' := [(3, .int (x3 + 1)), (0, .ref q_), (1, .int x1), (2, .int x2)]) hx hb dX9_clears_39 hl (k := 3) rfl rfl (by decide) rfl (fun ls hl => ?_)
          refine lv_goto (tgt := 2) hx hb dX9_clears_42 (by decide) ?_
          exact ih (x3 + 1) z5.1 z5.2.1 z5.2.2 H locs ls hF hw (lv_sub hl [1, 2, 3, 0] rfl)
set_option maxRecDepth 20000 in
theorem CX9_clears (l : Launch) (D : va_G) (C : Nat → ClassId) (q_ q_owes q_denies q_debt q_cut q_sight q_event q_book q_text q_path q_ring q_balance q_left q_sum q_parts q_group q_payment q_then q_image q_tapeSort q_tapeSize q_items : Nat) (u_people : Int32) (u_debts : Int32) (u_cuts : Int32) (u_seen : Int32) (u_events : Int32) (u_inBook : Int32) (u_texted : Int32) (u_rule : Int32) (u_rings : Int32) (u_size : Int32) (u_least : Int32) (u_worth : Int64) (u_groups : Int32) (u_paid : Int32) (u_imaged : Int32) (u_owes : (Nat → Int32)) (u_debt : (Nat → Int32)) (x1 : Int32) (x2 : Int32) (z : (Int32 × (Nat → Int32) × (Nat → Int32))) (hF : fX9_clears u_people u_debts u_owes u_debt x1 x2 = some z) : Ct l yX9_clears cX9_clears 4 none 3 D C [.ref q_, .int x1, .int x2] [(q_, .inr (9, [.int u_people, .ref q_owes, .ref q_denies, .int u_debts, .ref q_debt, .int u_cuts, .ref q_cut, .int u_seen, .ref q_sight, .int u_events, .ref q_event, .int u_inBook, .ref q_book, .int u_texted, .ref q_text, .ref q_path, .int u_rule, .int u_rings, .int u_size, .int u_least, .long u_worth, .ref q_ring, .ref q_balance, .ref q_left, .ref q_sum, .ref q_parts, .int u_groups, .ref q_group, .int u_paid, .ref q_payment, .ref q_then, .int u_imaged, .ref q_image, .ref q_tapeSort, .ref q_tapeSize, .ref q_items])), (q_owes, .inl (C 0, 36, .inl u_owes)), (q_debt, .inl (C 0, 30, .inl u_debt))] [(q_, .inr (9, [.int u_people, .ref q_owes, .ref q_denies, .int z.1, .ref q_debt, .int u_cuts, .ref q_cut, .int u_seen, .ref q_sight, .int u_events, .ref q_event, .int u_inBook, .ref q_book, .int u_texted, .ref q_text, .ref q_path, .int u_rule, .int u_rings, .int u_size, .int u_least, .long u_worth, .ref q_ring, .ref q_balance, .ref q_left, .ref q_sum, .ref q_parts, .int u_groups, .ref q_group, .int u_paid, .ref q_payment, .ref q_then, .int u_imaged, .ref q_image, .ref q_tapeSort, .ref q_tapeSize, .ref q_items])), (q_owes, .inl (C 0, 36, .inl z.2.1)), (q_debt, .inl (C 0, 30, .inl z.2.2))] none := by
  refine Ct_of (by decide) (Nat.le_of_ble_eq_true rfl) ?_
  intro p e R s m args below meth c A Q H locs ls cx hw hl hret
  have cx : CX p m c s args RX9 cX9_clears 4 D C A R 3 := cx
  have hx := cx.1
  have hb := cx.2.1
  have hl : lv_has ls 4 [(0, .ref q_), (1, .int x1), (2, .int x2)] := hl
  rw [fX9_clears.eq_1] at hF
  refine lv_iconst (v := 0) hx hb dX9_clears_0 (by decide) ?_
  refine lv_istore_n (lv' := [(3, .int 0), (0, .ref q_), (1, .int x1), (2, .int x2)]) hx hb dX9_clears_1 rfl hl (by decide) rfl (fun ls hl => ?_)
  refine LX9_clears_2 cx hret 400 0 u_debts u_owes u_debt H locs ls hF hw (lv_sub hl [1, 2, 3, 0] rfl)
theorem lk_X9_223 : Cond.methodLink RX9 223 yX9_keeps ∈ gdt := gdt_of 1147 (by decide +kernel) (by decide +kernel)
theorem lk_X9_226 : Cond.methodLink RX9 226 yX9_clears ∈ gdt := gdt_of 1151 (by decide +kernel) (by decide +kernel)
theorem lk_X9_230 : Cond.methodLink RX9 230 yX9_returns ∈ gdt := gdt_of 1155 (by decide +kernel) (by decide +kernel)
theorem my_X9_keeps : (yX9_keeps.cls ≠ "java/lang/invoke/MethodHandle" ∧ yX9_keeps.cls ≠ "java/lang/invoke/VarHandle") ∧ Cond.instanceMethod yX9_keeps ∈ gdt ∧ Cond.selects yX9_keeps.cls yX9_keeps yX9_keeps ∈ gdt ∧ Cond.initialized yX9_keeps.cls ∈ gdt ∧ Cond.code yX9_keeps cX9_keeps 2 none ∈ gdt := ⟨⟨by decide +kernel, by decide +kernel⟩, gdt_of 1149 (by decide +kernel) (by decide +kernel), gdt_of 59 (by decide +kernel) (by decide +kernel), gdt_of 77 (by decide +kernel) (by decide +kernel), gdt_of 1150 (by decide +kernel) (by decide +kernel)⟩
theorem ml_X9_keeps : (parseMethodDescriptor yX9_keeps.desc).map (fun d => d.parameters.length) = some 0 := by decide +kernel
theorem my_X9_clears : (yX9_clears.cls ≠ "java/lang/invoke/MethodHandle" ∧ yX9_clears.cls ≠ "java/lang/invoke/VarHandle") ∧ Cond.instanceMethod yX9_clears ∈ gdt ∧ Cond.selects yX9_clears.cls yX9_clears yX9_clears ∈ gdt ∧ Cond.initialized yX9_clears.cls ∈ gdt ∧ Cond.code yX9_clears cX9_clears 4 none ∈ gdt := ⟨⟨by decide +kernel, by decide +kernel⟩, gdt_of 1153 (by decide +kernel) (by decide +kernel), gdt_of 60 (by decide +kernel) (by decide +kernel), gdt_of 77 (by decide +kernel) (by decide +kernel), gdt_of 1154 (by decide +kernel) (by decide +kernel)⟩
theorem ml_X9_clears : (parseMethodDescriptor yX9_clears.desc).map (fun d => d.parameters.length) = some 2 := by decide +kernel
theorem my_X9_returns : (yX9_returns.cls ≠ "java/lang/invoke/MethodHandle" ∧ yX9_returns.cls ≠ "java/lang/invoke/VarHandle") ∧ Cond.instanceMethod yX9_returns ∈ gdt ∧ Cond.selects yX9_returns.cls yX9_returns yX9_returns ∈ gdt ∧ Cond.initialized yX9_returns.cls ∈ gdt ∧ Cond.code yX9_returns cX9_returns 2 none ∈ gdt := ⟨⟨by decide +kernel, by decide +kernel⟩, gdt_of 1157 (by decide +kernel) (by decide +kernel), gdt_of 61 (by decide +kernel) (by decide +kernel), gdt_of 77 (by decide +kernel) (by decide +kernel), gdt_of 1158 (by decide +kernel) (by decide +kernel)⟩
theorem ml_X9_returns : (parseMethodDescriptor yX9_returns.desc).map (fun d => d.parameters.length) = some 0 := by decide +kernel
theorem dX9_without_0 : decode cX9_without 0 = .ok (.aload_n 0, 1) := by decide +kernel
theorem dX9_without_1 : decode cX9_without 1 = .ok (.iload_n 1, 1) := by decide +kernel
theorem dX9_without_2 : decode cX9_without 2 = .ok (.invokevirtual 84, 3) := by decide +kernel
theorem dX9_without_5 : decode cX9_without 5 = .ok (.ifCond .ne 5, 3) := by decide +kernel
theorem dX9_without_8 : decode cX9_without 8 = .ok (.iconst (-1), 1) := by decide +kernel
theorem dX9_without_9 : decode cX9_without 9 = .ok (.ireturn, 1) := by decide +kernel
theorem dX9_without_10 : decode cX9_without 10 = .ok (.aload_n 0, 1) := by decide +kernel
theorem dX9_without_11 : decode cX9_without 11 = .ok (.invokevirtual 223, 3) := by decide +kernel
theorem dX9_without_14 : decode cX9_without 14 = .ok (.aload_n 0, 1) := by decide +kernel
theorem dX9_without_15 : decode cX9_without 15 = .ok (.iload_n 1, 1) := by decide +kernel
theorem dX9_without_16 : decode cX9_without 16 = .ok (.iconst 0, 1) := by decide +kernel
theorem dX9_without_17 : decode cX9_without 17 = .ok (.invokevirtual 226, 3) := by decide +kernel
theorem dX9_without_20 : decode cX9_without 20 = .ok (.aload_n 0, 1) := by decide +kernel
theorem dX9_without_21 : decode cX9_without 21 = .ok (.iload_n 1, 1) := by decide +kernel
theorem dX9_without_22 : decode cX9_without 22 = .ok (.iconst 1, 1) := by decide +kernel
theorem dX9_without_23 : decode cX9_without 23 = .ok (.invokevirtual 226, 3) := by decide +kernel
theorem dX9_without_26 : decode cX9_without 26 = .ok (.aload_n 0, 1) := by decide +kernel
theorem dX9_without_27 : decode cX9_without 27 = .ok (.invokevirtual 217, 3) := by decide +kernel
theorem dX9_without_30 : decode cX9_without 30 = .ok (.istore_n 2, 1) := by decide +kernel
theorem dX9_without_31 : decode cX9_without 31 = .ok (.aload_n 0, 1) := by decide +kernel
theorem dX9_without_32 : decode cX9_without 32 = .ok (.invokevirtual 230, 3) := by decide +kernel
theorem dX9_without_35 : decode cX9_without 35 = .ok (.iload_n 2, 1) := by decide +kernel
theorem dX9_without_36 : decode cX9_without 36 = .ok (.ireturn, 1) := by decide +kernel
def fX9_without (u_people : Int32) (u_debts : Int32) (u_groups : Int32) (u_paid : Int32) (u_owes : (Nat → Int32)) (u_debt : (Nat → Int32)) (u_balance : (Nat → Int32)) (u_left : (Nat → Int32)) (u_sum : (Nat → Int32)) (u_parts : (Nat → Int32)) (u_group : (Nat → Int32)) (u_payment : (Nat → Int32)) (u_then : (Nat → Int32)) (x1 : Int32) : Option (Int32 × Int32 × Int32 × Int32 × (Nat → Int32) × (Nat → Int32) × (Nat → Int32) × (Nat → Int32) × (Nat → Int32) × (Nat → Int32) × (Nat → Int32) × (Nat → Int32) × (Nat → Int32)) := (fX9_isPerson u_people x1).bind (fun z1 => if z1 = 0 then (some ((-1), u_debts, u_groups, u_paid, u_owes, u_debt, u_balance, u_left, u_sum, u_parts, u_group, u_payment, u_then)) else ((fX9_keeps u_debts u_owes u_debt u_then).bind (fun z3 => (fX9_clears u_people u_debts u_owes u_debt x1 0).bind (fun z4 => (fX9_clears u_people z4.1 z4.2.1 z4.2.2 x1 1).bind (fun z5 => (fX9_fewest u_people z5.2.1 u_balance u_left u_sum u_parts u_group u_payment).bind (fun z6 => (fX9_returns z5.2.1 z5.2.2 z3).bind (fun z7 => some (z6.1, z7.1, z6.2.1, z6.2.2.1, z7.2.1, z7.2.2, z6.2.2.2.1, z6.2.2.2.2.1, z6.2.2.2.2.2.1, z6.2.2.2.2.2.2.1, z6.2.2.2.2.2.2.2.1, z6.2.2.2.2.2.2.2.2, z3))))))))
set_option maxRecDepth 20000 in
theorem CX9_without (l : Launch) (D : va_G) (C : Nat → ClassId) (q_ q_owes q_denies q_debt q_cut q_sight q_event q_book q_text q_path q_ring q_balance q_left q_sum q_parts q_group q_payment q_then q_image q_tapeSort q_tapeSize q_items : Nat) (u_people : Int32) (u_debts : Int32) (u_cuts : Int32) (u_seen : Int32) (u_events : Int32) (u_inBook : Int32) (u_texted : Int32) (u_rule : Int32) (u_rings : Int32) (u_size : Int32) (u_least : Int32) (u_worth : Int64) (u_groups : Int32) (u_paid : Int32) (u_imaged : Int32) (u_owes : (Nat → Int32)) (u_debt : (Nat → Int32)) (u_balance : (Nat → Int32)) (u_left : (Nat → Int32)) (u_sum : (Nat → Int32)) (u_parts : (Nat → Int32)) (u_group : (Nat → Int32)) (u_payment : (Nat → Int32)) (u_then : (Nat → Int32)) (x1 : Int32) (z : (Int32 × Int32 × Int32 × Int32 × (Nat → Int32) × (Nat → Int32) × (Nat → Int32) × (Nat → Int32) × (Nat → Int32) × (Nat → Int32) × (Nat → Int32) × (Nat → Int32) × (Nat → Int32))) (hF : fX9_without u_people u_debts u_groups u_paid u_owes u_debt u_balance u_left u_sum u_parts u_group u_payment u_then x1 = some z) : Ct l yX9_without cX9_without 3 (some .int) 5 D C [.ref q_, .int x1] [(q_, .inr (9, [.int u_people, .ref q_owes, .ref q_denies, .int u_debts, .ref q_debt, .int u_cuts, .ref q_cut, .int u_seen, .ref q_sight, .int u_events, .ref q_event, .int u_inBook, .ref q_book, .int u_texted, .ref q_text, .ref q_path, .int u_rule, .int u_rings, .int u_size, .int u_least, .long u_worth, .ref q_ring, .ref q_balance, .ref q_left, .ref q_sum, .ref q_parts, .int u_groups, .ref q_group, .int u_paid, .ref q_payment, .ref q_then, .int u_imaged, .ref q_image, .ref q_tapeSort, .ref q_tapeSize, .ref q_items])), (q_owes, .inl (C 0, 36, .inl u_owes)), (q_debt, .inl (C 0, 30, .inl u_debt)), (q_balance, .inl (C 0, 6, .inl u_balance)), (q_left, .inl (C 0, 6, .inl u_left)), (q_sum, .inl (C 0, 64, .inl u_sum)), (q_parts, .inl (C 0, 64, .inl u_parts)), (q_group, .inl (C 0, 3, .inl u_group)), (q_payment, .inl (C 0, 30, .inl u_payment)), (q_then, .inl (C 0, 67, .inl u_then))] [(q_, .inr (9, [.int u_people, .ref q_owes, .ref q_denies, .int z.2.1, .ref q_debt, .int u_cuts, .ref q_cut, .int u_seen, .ref q_sight, .int u_events, .ref q_event, .int u_inBook, .ref q_book, .int u_texted, .ref q_text, .ref q_path, .int u_rule, .int u_rings, .int u_size, .int u_least, .long u_worth, .ref q_ring, .ref q_balance, .ref q_left, .ref q_sum, .ref q_parts, .int z.2.2.1, .ref q_group, .int z.2.2.2.1, .ref q_payment, .ref q_then, .int u_imaged, .ref q_image, .ref q_tapeSort, .ref q_tapeSize, .ref q_items])), (q_owes, .inl (C 0, 36, .inl z.2.2.2.2.1)), (q_debt, .inl (C 0, 30, .inl z.2.2.2.2.2.1)), (q_balance, .inl (C 0, 6, .inl z.2.2.2.2.2.2.1)), (q_left, .inl (C 0, 6, .inl z.2.2.2.2.2.2.2.1)), (q_sum, .inl (C 0, 64, .inl z.2.2.2.2.2.2.2.2.1)), (q_parts, .inl (C 0, 64, .inl z.2.2.2.2.2.2.2.2.2.1)), (q_group, .inl (C 0, 3, .inl z.2.2.2.2.2.2.2.2.2.2.1)), (q_payment, .inl (C 0, 30, .inl z.2.2.2.2.2.2.2.2.2.2.2.1)), (q_then, .inl (C 0, 67, .inl z.2.2.2.2.2.2.2.2.2.2.2.2))] (some (.int z.1)) := by
  refine Ct_of (by decide) (Nat.le_of_ble_eq_true rfl) ?_
  intro p e R s m args below meth c A Q H locs ls cx hw hl hret
  have cx : CX p m c s args RX9 cX9_without 3 D C A R 5 := cx
  have hx := cx.1
  have hb := cx.2.1
  have hl : lv_has ls 3 [(0, .ref q_), (1, .int x1)] := hl
  rw [fX9_without.eq_1] at hF
  refine lv_aload_n hx hb dX9_without_0 rfl (lv_at hl 0 rfl) ?_
  refine lv_iload_n hx hb dX9_without_1 rfl (lv_at hl 1 rfl) ?_
  obtain ⟨z1, hz1, hF⟩ := ob hF
  refine cV (wr := [(q_owes, .inl (C 0, 36, .inl u_owes)), (q_debt, .inl (C 0, 30, .inl u_debt)), (q_balance, .inl (C 0, 6, .inl u_balance)), (q_left, .inl (C 0, 6, .inl u_left)), (q_sum, .inl (C 0, 64, .inl u_sum)), (q_parts, .inl (C 0, 64, .inl u_parts)), (q_group, .inl (C 0, 3, .inl u_group)), (q_payment, .inl (C 0, 30, .inl u_payment)), (q_then, .inl (C 0, 67, .inl u_then))]) (w2 := [(q_, .inr (9, [.int u_people, .ref q_owes, .ref q_denies, .int u_debts, .ref q_debt, .int u_cuts, .ref q_cut, .int u_seen, .ref q_sight, .int u_events, .ref q_event, .int u_inBook, .ref q_book, .int u_texted, .ref q_text, .ref q_path, .int u_rule, .int u_rings, .int u_size, .int u_least, .long u_worth, .ref q_ring, .ref q_balance, .ref q_left, .ref q_sum, .ref q_parts, .int u_groups, .ref q_group, .int u_paid, .ref q_payment, .ref q_then, .int u_imaged, .ref q_image, .ref q_tapeSort, .ref q_tapeSize, .ref q_items])), (q_owes, .inl (C 0, 36, .inl u_owes)), (q_debt, .inl (C 0, 30, .inl u_debt)), (q_balance, .inl (C 0, 6, .inl u_balance)), (q_left, .inl (C 0, 6, .inl u_left)), (q_sum, .inl (C 0, 64, .inl u_sum)), (q_parts, .inl (C 0, 64, .inl u_parts)), (q_group, .inl (C 0, 3, .inl u_group)), (q_payment, .inl (C 0, 30, .inl u_payment)), (q_then, .inl (C 0, 67, .inl u_then))]) (st2 := [.int z1]) cx (CX9_isPerson l D C q_ q_owes q_denies q_debt q_cut q_sight q_event q_book q_text q_path q_ring q_balance q_left q_sum q_parts q_group q_payment q_then q_image q_tapeSort q_tapeSize q_items u_people u_debts u_cuts u_seen u_events u_inBook u_texted u_rule u_rings u_size u_least u_worth u_groups u_paid u_imaged x1 z1 hz1) lk_X9_84 my_X9_isPerson ml_X9_isPerson ⟨by decide, by decide⟩ hw [0] [1, 2, 3, 4, 5, 6, 7, 8, 9] [9, 0, 1, 2, 3, 4, 5, 6, 7, 8] rfl rfl (by decide) rfl rfl rfl rfl (Nat.le_of_ble_eq_true rfl) dX9_without_2 rfl (fun H locs hw => ?_) hl.1
  refine lv_if_ne (tgt := 10) hx hb dX9_without_5 (by decide) (fun c2 => ?_) (fun c2 => ?_)
  · replace hF := oi_f c2 hF
    refine lv_aload_n hx hb dX9_without_10 rfl (lv_at hl 0 rfl) ?_
    obtain ⟨z3, hz3, hF⟩ := ob hF
    refine cV (wr := [(q_balance, .inl (C 0, 6, .inl u_balance)), (q_left, .inl (C 0, 6, .inl u_left)), (q_sum, .inl (C 0, 64, .inl u_sum)), (q_parts, .inl (C 0, 64, .inl u_parts)), (q_group, .inl (C 0, 3, .inl u_group)), (q_payment, .inl (C 0, 30, .inl u_payment))]) (w2 := [(q_, .inr (9, [.int u_people, .ref q_owes, .ref q_denies, .int u_debts, .ref q_debt, .int u_cuts, .ref q_cut, .int u_seen, .ref q_sight, .int u_events, .ref q_event, .int u_inBook, .ref q_book, .int u_texted, .ref q_text, .ref q_path, .int u_rule, .int u_rings, .int u_size, .int u_least, .long u_worth, .ref q_ring, .ref q_balance, .ref q_left, .ref q_sum, .ref q_parts, .int u_groups, .ref q_group, .int u_paid, .ref q_payment, .ref q_then, .int u_imaged, .ref q_image, .ref q_tapeSort, .ref q_tapeSize, .ref q_items])), (q_owes, .inl (C 0, 36, .inl u_owes)), (q_debt, .inl (C 0, 30, .inl u_debt)), (q_balance, .inl (C 0, 6, .inl u_balance)), (q_left, .inl (C 0, 6, .inl u_left)), (q_sum, .inl (C 0, 64, .inl u_sum)), (q_parts, .inl (C 0, 64, .inl u_parts)), (q_group, .inl (C 0, 3, .inl u_group)), (q_payment, .inl (C 0, 30, .inl u_payment)), (q_then, .inl (C 0, 67, .inl z3))]) (st2 := []) cx (CX9_keeps l D C q_ q_owes q_denies q_debt q_cut q_sight q_event q_book q_text q_path q_ring q_balance q_left q_sum q_parts q_group q_payment q_then q_image q_tapeSort q_tapeSize q_items u_people u_debts u_cuts u_seen u_events u_inBook u_texted u_rule u_rings u_size u_least u_worth u_groups u_paid u_imaged u_owes u_debt u_then z3 hz3) lk_X9_223 my_X9_keeps ml_X9_keeps ⟨by decide, by decide⟩ hw [0, 1, 2, 9] [3, 4, 5, 6, 7, 8] [6, 7, 8, 0, 1, 2, 3, 4, 5, 9] rfl rfl (by decide) rfl rfl rfl rfl (Nat.le_of_ble_eq_true rfl) dX9_without_11 rfl (fun H locs hw => ?_) hl.1
    refine lv_aload_n hx hb dX9_without_14 rfl (lv_at hl 0 rfl) ?_
    refine lv_iload_n hx hb dX9_without_15 rfl (lv_at hl 1 rfl) ?_
    refine lv_iconst (v := 0) hx hb dX9_without_16 (by decide) ?_
    obtain ⟨z4, hz4, hF⟩ := ob hF
    refine cV (wr := [(q_balance, .inl (C 0, 6, .inl u_balance)), (q_left, .inl (C 0, 6, .inl u_left)), (q_sum, .inl (C 0, 64, .inl u_sum)), (q_parts, .inl (C 0, 64, .inl u_parts)), (q_group, .inl (C 0, 3, .inl u_group)), (q_payment, .inl (C 0, 30, .inl u_payment)), (q_then, .inl (C 0, 67, .inl z3))]) (w2 := [(q_, .inr (9, [.int u_people, .ref q_owes, .ref q_denies, .int z4.1, .ref q_debt, .int u_cuts, .ref q_cut, .int u_seen, .ref q_sight, .int u_events, .ref q_event, .int u_inBook, .ref q_book, .int u_texted, .ref q_text, .ref q_path, .int u_rule, .int u_rings, .int u_size, .int u_least, .long u_worth, .ref q_ring, .ref q_balance, .ref q_left, .ref q_sum, .ref q_parts, .int u_groups, .ref q_group, .int u_paid, .ref q_payment, .ref q_then, .int u_imaged, .ref q_image, .ref q_tapeSort, .ref q_tapeSize, .ref q_items])), (q_owes, .inl (C 0, 36, .inl z4.2.1)), (q_debt, .inl (C 0, 30, .inl z4.2.2)), (q_balance, .inl (C 0, 6, .inl u_balance)), (q_left, .inl (C 0, 6, .inl u_left)), (q_sum, .inl (C 0, 64, .inl u_sum)), (q_parts, .inl (C 0, 64, .inl u_parts)), (q_group, .inl (C 0, 3, .inl u_group)), (q_payment, .inl (C 0, 30, .inl u_payment)), (q_then, .inl (C 0, 67, .inl z3))]) (st2 := []) cx (CX9_clears l D C q_ q_owes q_denies q_debt q_cut q_sight q_event q_book q_text q_path q_ring q_balance q_left q_sum q_parts q_group q_payment q_then q_image q_tapeSort q_tapeSize q_items u_people u_debts u_cuts u_seen u_events u_inBook u_texted u_rule u_rings u_size u_least u_worth u_groups u_paid u_imaged u_owes u_debt x1 0 z4 hz4) lk_X9_226 my_X9_clears ml_X9_clears ⟨by decide, by decide⟩ hw [0, 1, 2] [3, 4, 5, 6, 7, 8, 9] [7, 8, 9, 0, 1, 2, 3, 4, 5, 6] rfl rfl (by decide) rfl rfl rfl rfl (Nat.le_of_ble_eq_true rfl) dX9_without_17 rfl (fun H locs hw => ?_) hl.1
    refine lv_aload_n hx hb dX9_without_20 rfl (lv_at hl 0 rfl) ?_
    refine lv_iload_n hx hb dX9_without_21 rfl (lv_at hl 1 rfl) ?_
    refine lv_iconst (v := 1) hx hb dX9_without_22 (by decide) ?_
    obtain ⟨z5, hz5, hF⟩ := ob hF
    refine cV (wr := [(q_balance, .inl (C 0, 6, .inl u_balance)), (q_left, .inl (C 0, 6, .inl u_left)), (q_sum, .inl (C 0, 64, .inl u_sum)), (q_parts, .inl (C 0, 64, .inl u_parts)), (q_group, .inl (C 0, 3, .inl u_group)), (q_payment, .inl (C 0, 30, .inl u_payment)), (q_then, .inl (C 0, 67, .inl z3))]) (w2 := [(q_, .inr (9, [.int u_people, .ref q_owes, .ref q_denies, .int z5.1, .ref q_debt, .int u_cuts, .ref q_cut, .int u_seen, .ref q_sight, .int u_events, .ref q_event, .int u_inBook, .ref q_book, .int u_texted, .ref q_text, .ref q_path, .int u_rule, .int u_rings, .int u_size, .int u_least, .long u_worth, .ref q_ring, .ref q_balance, .ref q_left, .ref q_sum, .ref q_parts, .int u_groups, .ref q_group, .int u_paid, .ref q_payment, .ref q_then, .int u_imaged, .ref q_image, .ref q_tapeSort, .ref q_tapeSize, .ref q_items])), (q_owes, .inl (C 0, 36, .inl z5.2.1)), (q_debt, .inl (C 0, 30, .inl z5.2.2)), (q_balance, .inl (C 0, 6, .inl u_balance)), (q_left, .inl (C 0, 6, .inl u_left)), (q_sum, .inl (C 0, 64, .inl u_sum)), (q_parts, .inl (C 0, 64, .inl u_parts)), (q_group, .inl (C 0, 3, .inl u_group)), (q_payment, .inl (C 0, 30, .inl u_payment)), (q_then, .inl (C 0, 67, .inl z3))]) (st2 := []) cx (CX9_clears l D C q_ q_owes q_denies q_debt q_cut q_sight q_event q_book q_text q_path q_ring q_balance q_left q_sum q_parts q_group q_payment q_then q_image q_tapeSort q_tapeSize q_items u_people z4.1 u_cuts u_seen u_events u_inBook u_texted u_rule u_rings u_size u_least u_worth u_groups u_paid u_imaged z4.2.1 z4.2.2 x1 1 z5 hz5) lk_X9_226 my_X9_clears ml_X9_clears ⟨by decide, by decide⟩ hw [0, 1, 2] [3, 4, 5, 6, 7, 8, 9] [7, 8, 9, 0, 1, 2, 3, 4, 5, 6] rfl rfl (by decide) rfl rfl rfl rfl (Nat.le_of_ble_eq_true rfl) dX9_without_23 rfl (fun H locs hw => ?_) hl.1
    refine lv_aload_n hx hb dX9_without_26 rfl (lv_at hl 0 rfl) ?_
    obtain ⟨z6, hz6, hF⟩ := ob hF
    refine cV (wr := [(q_debt, .inl (C 0, 30, .inl z5.2.2)), (q_then, .inl (C 0, 67, .inl z3))]) (w2 := [(q_, .inr (9, [.int u_people, .ref q_owes, .ref q_denies, .int z5.1, .ref q_debt, .int u_cuts, .ref q_cut, .int u_seen, .ref q_sight, .int u_events, .ref q_event, .int u_inBook, .ref q_book, .int u_texted, .ref q_text, .ref q_path, .int u_rule, .int u_rings, .int u_size, .int u_least, .long u_worth, .ref q_ring, .ref q_balance, .ref q_left, .ref q_sum, .ref q_parts, .int z6.2.1, .ref q_group, .int z6.2.2.1, .ref q_payment, .ref q_then, .int u_imaged, .ref q_image, .ref q_tapeSort, .ref q_tapeSize, .ref q_items])), (q_owes, .inl (C 0, 36, .inl z5.2.1)), (q_debt, .inl (C 0, 30, .inl z5.2.2)), (q_balance, .inl (C 0, 6, .inl z6.2.2.2.1)), (q_left, .inl (C 0, 6, .inl z6.2.2.2.2.1)), (q_sum, .inl (C 0, 64, .inl z6.2.2.2.2.2.1)), (q_parts, .inl (C 0, 64, .inl z6.2.2.2.2.2.2.1)), (q_group, .inl (C 0, 3, .inl z6.2.2.2.2.2.2.2.1)), (q_payment, .inl (C 0, 30, .inl z6.2.2.2.2.2.2.2.2)), (q_then, .inl (C 0, 67, .inl z3))]) (st2 := [.int z6.1]) cx (CX9_fewest l D C q_ q_owes q_denies q_debt q_cut q_sight q_event q_book q_text q_path q_ring q_balance q_left q_sum q_parts q_group q_payment q_then q_image q_tapeSort q_tapeSize q_items u_people z5.1 u_cuts u_seen u_events u_inBook u_texted u_rule u_rings u_size u_least u_worth u_groups u_paid u_imaged z5.2.1 u_balance u_left u_sum u_parts u_group u_payment z6 hz6) lk_X9_217 my_X9_fewest ml_X9_fewest ⟨by decide, by decide⟩ hw [0, 1, 3, 4, 5, 6, 7, 8] [2, 9] [2, 3, 0, 4, 5, 6, 7, 8, 9, 1] rfl rfl (by decide) rfl rfl rfl rfl (Nat.le_of_ble_eq_true rfl) dX9_without_27 rfl (fun H locs hw => ?_) hl.1
    refine lv_istore_n (lv' := [(2, .int z6.1), (0, .ref q_), (1, .int x1)]) hx hb dX9_without_30 rfl hl (by decide) rfl (fun ls hl => ?_)
    refine lv_aload_n hx hb dX9_without_31 rfl (lv_at hl 1 rfl) ?_
    obtain ⟨z7, hz7, hF⟩ := ob hF
    refine cV (wr := [(q_balance, .inl (C 0, 6, .inl z6.2.2.2.1)), (q_left, .inl (C 0, 6, .inl z6.2.2.2.2.1)), (q_sum, .inl (C 0, 64, .inl z6.2.2.2.2.2.1)), (q_parts, .inl (C 0, 64, .inl z6.2.2.2.2.2.2.1)), (q_group, .inl (C 0, 3, .inl z6.2.2.2.2.2.2.2.1)), (q_payment, .inl (C 0, 30, .inl z6.2.2.2.2.2.2.2.2))]) (w2 := [(q_, .inr (9, [.int u_people, .ref q_owes, .ref q_denies, .int z7.1, .ref q_debt, .int u_cuts, .ref q_cut, .int u_seen, .ref q_sight, .int u_events, .ref q_event, .int u_inBook, .ref q_book, .int u_texted, .ref q_text, .ref q_path, .int u_rule, .int u_rings, .int u_size, .int u_least, .long u_worth, .ref q_ring, .ref q_balance, .ref q_left, .ref q_sum, .ref q_parts, .int z6.2.1, .ref q_group, .int z6.2.2.1, .ref q_payment, .ref q_then, .int u_imaged, .ref q_image, .ref q_tapeSort, .ref q_tapeSize, .ref q_items])), (q_owes, .inl (C 0, 36, .inl z7.2.1)), (q_debt, .inl (C 0, 30, .inl z7.2.2)), (q_balance, .inl (C 0, 6, .inl z6.2.2.2.1)), (q_left, .inl (C 0, 6, .inl z6.2.2.2.2.1)), (q_sum, .inl (C 0, 64, .inl z6.2.2.2.2.2.1)), (q_parts, .inl (C 0, 64, .inl z6.2.2.2.2.2.2.1)), (q_group, .inl (C 0, 3, .inl z6.2.2.2.2.2.2.2.1)), (q_payment, .inl (C 0, 30, .inl z6.2.2.2.2.2.2.2.2)), (q_then, .inl (C 0, 67, .inl z3))]) (st2 := []) cx (CX9_returns l D C q_ q_owes q_denies q_debt q_cut q_sight q_event q_book q_text q_path q_ring q_balance q_left q_sum q_parts q_group q_payment q_then q_image q_tapeSort q_tapeSize q_items u_people z5.1 u_cuts u_seen u_events u_inBook u_texted u_rule u_rings u_size u_least u_worth z6.2.1 z6.2.2.1 u_imaged z5.2.1 z5.2.2 z3 z7 hz7) lk_X9_230 my_X9_returns ml_X9_returns ⟨by decide, by decide⟩ hw [0, 1, 2, 9] [3, 4, 5, 6, 7, 8] [6, 7, 8, 0, 1, 2, 3, 4, 5, 9] rfl rfl (by decide) rfl rfl rfl rfl (Nat.le_of_ble_eq_true rfl) dX9_without_32 rfl (fun H locs hw => ?_) hl.1
    refine lv_iload_n hx hb dX9_without_35 rfl (lv_at hl 0 rfl) ?_
    obtain rfl := Option.some.inj hF
    exact rt_i hret hw rfl dX9_without_36
  · replace hF := oi_t c2 hF
    refine lv_iconst (v := (-1)) hx hb dX9_without_8 (by decide) ?_
    obtain rfl := Option.some.inj hF
    exact rt_i hret hw rfl dX9_without_9
theorem wf_X9_233 : Cond.fieldLink RX9 233 (TX9 7).1 (TX9 7).2.1 (TX9 7).2.2.1 ∈ gdt := gdt_of 847 (by decide +kernel) (by decide +kernel)
theorem wf_X9_24 : Cond.fieldLink RX9 24 (TX9 8).1 (TX9 8).2.1 (TX9 8).2.2.1 ∈ gdt := gdt_of 848 (by decide +kernel) (by decide +kernel)
theorem dX9_see_0 : decode cX9_see 0 = .ok (.iload_n 1, 1) := by decide +kernel
theorem dX9_see_1 : decode cX9_see 1 = .ok (.iconst (-1), 1) := by decide +kernel
theorem dX9_see_2 : decode cX9_see 2 = .ok (.if_icmp .ne 10, 3) := by decide +kernel
theorem dX9_see_5 : decode cX9_see 5 = .ok (.aload_n 0, 1) := by decide +kernel
theorem dX9_see_6 : decode cX9_see 6 = .ok (.iconst 0, 1) := by decide +kernel
theorem dX9_see_7 : decode cX9_see 7 = .ok (.putfield 233, 3) := by decide +kernel
theorem dX9_see_10 : decode cX9_see 10 = .ok (.iconst 0, 1) := by decide +kernel
theorem dX9_see_11 : decode cX9_see 11 = .ok (.ireturn, 1) := by decide +kernel
theorem dX9_see_12 : decode cX9_see 12 = .ok (.aload_n 0, 1) := by decide +kernel
theorem dX9_see_13 : decode cX9_see 13 = .ok (.iload_n 1, 1) := by decide +kernel
theorem dX9_see_14 : decode cX9_see 14 = .ok (.iload_n 2, 1) := by decide +kernel
theorem dX9_see_15 : decode cX9_see 15 = .ok (.invokevirtual 95, 3) := by decide +kernel
theorem dX9_see_18 : decode cX9_see 18 = .ok (.ifCond .ne 5, 3) := by decide +kernel
theorem dX9_see_21 : decode cX9_see 21 = .ok (.iconst (-1), 1) := by decide +kernel
theorem dX9_see_22 : decode cX9_see 22 = .ok (.ireturn, 1) := by decide +kernel
theorem dX9_see_23 : decode cX9_see 23 = .ok (.iload_n 3, 1) := by decide +kernel
theorem dX9_see_24 : decode cX9_see 24 = .ok (.iconst 1, 1) := by decide +kernel
theorem dX9_see_25 : decode cX9_see 25 = .ok (.sipush 999, 3) := by decide +kernel
theorem dX9_see_28 : decode cX9_see 28 = .ok (.invokestatic 80, 3) := by decide +kernel
theorem dX9_see_31 : decode cX9_see 31 = .ok (.ifCond .ne 6, 3) := by decide +kernel
theorem dX9_see_34 : decode cX9_see 34 = .ok (.bipush (-2), 2) := by decide +kernel
theorem dX9_see_36 : decode cX9_see 36 = .ok (.ireturn, 1) := by decide +kernel
theorem dX9_see_37 : decode cX9_see 37 = .ok (.aload_n 0, 1) := by decide +kernel
theorem dX9_see_38 : decode cX9_see 38 = .ok (.getfield 233, 3) := by decide +kernel
theorem dX9_see_41 : decode cX9_see 41 = .ok (.iconst 5, 1) := by decide +kernel
theorem dX9_see_42 : decode cX9_see 42 = .ok (.if_icmp .ne 6, 3) := by decide +kernel
theorem dX9_see_45 : decode cX9_see 45 = .ok (.bipush (-4), 2) := by decide +kernel
theorem dX9_see_47 : decode cX9_see 47 = .ok (.ireturn, 1) := by decide +kernel
theorem dX9_see_48 : decode cX9_see 48 = .ok (.aload_n 0, 1) := by decide +kernel
theorem dX9_see_49 : decode cX9_see 49 = .ok (.getfield 24, 3) := by decide +kernel
theorem dX9_see_52 : decode cX9_see 52 = .ok (.iconst 3, 1) := by decide +kernel
theorem dX9_see_53 : decode cX9_see 53 = .ok (.aload_n 0, 1) := by decide +kernel
theorem dX9_see_54 : decode cX9_see 54 = .ok (.getfield 233, 3) := by decide +kernel
theorem dX9_see_57 : decode cX9_see 57 = .ok (.imul, 1) := by decide +kernel
theorem dX9_see_58 : decode cX9_see 58 = .ok (.iload_n 1, 1) := by decide +kernel
theorem dX9_see_59 : decode cX9_see 59 = .ok (.iastore, 1) := by decide +kernel
theorem dX9_see_60 : decode cX9_see 60 = .ok (.aload_n 0, 1) := by decide +kernel
theorem dX9_see_61 : decode cX9_see 61 = .ok (.getfield 24, 3) := by decide +kernel
theorem dX9_see_64 : decode cX9_see 64 = .ok (.iconst 3, 1) := by decide +kernel
theorem dX9_see_65 : decode cX9_see 65 = .ok (.aload_n 0, 1) := by decide +kernel
theorem dX9_see_66 : decode cX9_see 66 = .ok (.getfield 233, 3) := by decide +kernel
theorem dX9_see_69 : decode cX9_see 69 = .ok (.imul, 1) := by decide +kernel
theorem dX9_see_70 : decode cX9_see 70 = .ok (.iconst 1, 1) := by decide +kernel
theorem dX9_see_71 : decode cX9_see 71 = .ok (.iadd, 1) := by decide +kernel
theorem dX9_see_72 : decode cX9_see 72 = .ok (.iload_n 2, 1) := by decide +kernel
theorem dX9_see_73 : decode cX9_see 73 = .ok (.iastore, 1) := by decide +kernel
theorem dX9_see_74 : decode cX9_see 74 = .ok (.aload_n 0, 1) := by decide +kernel
theorem dX9_see_75 : decode cX9_see 75 = .ok (.getfield 24, 3) := by decide +kernel
theorem dX9_see_78 : decode cX9_see 78 = .ok (.iconst 3, 1) := by decide +kernel
theorem dX9_see_79 : decode cX9_see 79 = .ok (.aload_n 0, 1) := by decide +kernel
theorem dX9_see_80 : decode cX9_see 80 = .ok (.getfield 233, 3) := by decide +kernel
theorem dX9_see_83 : decode cX9_see 83 = .ok (.imul, 1) := by decide +kernel
theorem dX9_see_84 : decode cX9_see 84 = .ok (.iconst 2, 1) := by decide +kernel
theorem dX9_see_85 : decode cX9_see 85 = .ok (.iadd, 1) := by decide +kernel
theorem dX9_see_86 : decode cX9_see 86 = .ok (.iload_n 3, 1) := by decide +kernel
theorem dX9_see_87 : decode cX9_see 87 = .ok (.iastore, 1) := by decide +kernel
theorem dX9_see_88 : decode cX9_see 88 = .ok (.aload_n 0, 1) := by decide +kernel
theorem dX9_see_89 : decode cX9_see 89 = .ok (.dup, 1) := by decide +kernel
theorem dX9_see_90 : decode cX9_see 90 = .ok (.getfield 233, 3) := by decide +kernel
theorem dX9_see_93 : decode cX9_see 93 = .ok (.iconst 1, 1) := by decide +kernel
theorem dX9_see_94 : decode cX9_see 94 = .ok (.iadd, 1) := by decide +kernel
theorem dX9_see_95 : decode cX9_see 95 = .ok (.putfield 233, 3) := by decide +kernel
theorem dX9_see_98 : decode cX9_see 98 = .ok (.aload_n 0, 1) := by decide +kernel
theorem dX9_see_99 : decode cX9_see 99 = .ok (.getfield 233, 3) := by decide +kernel
theorem dX9_see_102 : decode cX9_see 102 = .ok (.ireturn, 1) := by decide +kernel
def fX9_see (u_people : Int32) (u_seen : Int32) (u_sight : (Nat → Int32)) (x1 : Int32) (x2 : Int32) (x3 : Int32) : Option (Int32 × Int32 × (Nat → Int32)) := if x1 = (-1) then (some (0, 0, u_sight)) else ((fX9_areTwo u_people x1 x2).bind (fun z2 => if z2 = 0 then (some ((-1), u_seen, u_sight)) else ((fX9_within x3 1 999).bind (fun z4 => if z4 = 0 then (some ((-2), u_seen, u_sight)) else (if u_seen = 5 then (some ((-4), u_seen, u_sight)) else (gA (3 * u_seen) 15 (gA ((3 * u_seen) + 1) 15 (gA ((3 * u_seen) + 2) 15 (some (u_seen + 1, u_seen + 1, upd (upd (upd u_sight (3 * u_seen : Int32).toNatClampNeg x1) ((3 * u_seen) + 1 : Int32).toNatClampNeg x2) ((3 * u_seen) + 2 : Int32).toNatClampNeg x3))))))))))
set_option maxRecDepth 20000 in
theorem CX9_see (l : Launch) (D : va_G) (C : Nat → ClassId) (q_ q_owes q_denies q_debt q_cut q_sight q_event q_book q_text q_path q_ring q_balance q_left q_sum q_parts q_group q_payment q_then q_image q_tapeSort q_tapeSize q_items : Nat) (u_people : Int32) (u_debts : Int32) (u_cuts : Int32) (u_seen : Int32) (u_events : Int32) (u_inBook : Int32) (u_texted : Int32) (u_rule : Int32) (u_rings : Int32) (u_size : Int32) (u_least : Int32) (u_worth : Int64) (u_groups : Int32) (u_paid : Int32) (u_imaged : Int32) (u_sight : (Nat → Int32)) (x1 : Int32) (x2 : Int32) (x3 : Int32) (z : (Int32 × Int32 × (Nat → Int32))) (hF : fX9_see u_people u_seen u_sight x1 x2 x3 = some z) : Ct l yX9_see cX9_see 4 (some .int) 4 D C [.ref q_, .int x1, .int x2, .int x3] [(q_, .inr (9, [.int u_people, .ref q_owes, .ref q_denies, .int u_debts, .ref q_debt, .int u_cuts, .ref q_cut, .int u_seen, .ref q_sight, .int u_events, .ref q_event, .int u_inBook, .ref q_book, .int u_texted, .ref q_text, .ref q_path, .int u_rule, .int u_rings, .int u_size, .int u_least, .long u_worth, .ref q_ring, .ref q_balance, .ref q_left, .ref q_sum, .ref q_parts, .int u_groups, .ref q_group, .int u_paid, .ref q_payment, .ref q_then, .int u_imaged, .ref q_image, .ref q_tapeSort, .ref q_tapeSize, .ref q_items])), (q_sight, .inl (C 0, 15, .inl u_sight))] [(q_, .inr (9, [.int u_people, .ref q_owes, .ref q_denies, .int u_debts, .ref q_debt, .int u_cuts, .ref q_cut, .int z.2.1, .ref q_sight, .int u_events, .ref q_event, .int u_inBook, .ref q_book, .int u_texted, .ref q_text, .ref q_path, .int u_rule, .int u_rings, .int u_size, .int u_least, .long u_worth, .ref q_ring, .ref q_balance, .ref q_left, .ref q_sum, .ref q_parts, .int u_groups, .ref q_group, .int u_paid, .ref q_payment, .ref q_then, .int u_imaged, .ref q_image, .ref q_tapeSort, .ref q_tapeSize, .ref q_items])), (q_sight, .inl (C 0, 15, .inl z.2.2))] (some (.int z.1)) := by
  refine Ct_of (by decide) (Nat.le_of_ble_eq_true rfl) ?_
  intro p e R s m args below meth c A Q H locs ls cx hw hl hret
  have cx : CX p m c s args RX9 cX9_see 4 D C A R 4 := cx
  have hx := cx.1
  have hb := cx.2.1
  have hl : lv_has ls 4 [(0, .ref q_), (1, .int x1), (2, .int x2), (3, .int x3)] := hl
  rw [fX9_see.eq_1] at hF
  refine lv_iload_n hx hb dX9_see_0 rfl (lv_at hl 1 rfl) ?_
  refine lv_iconst (v := (-1)) hx hb dX9_see_1 (by decide) ?_
  refine lv_icmp_ne (tgt := 12) hx hb dX9_see_2 (by decide) (fun c1 => ?_) (fun c1 => ?_)
  · replace hF := oi_f c1 hF
    refine lv_aload_n hx hb dX9_see_12 rfl (lv_at hl 0 rfl) ?_
    refine lv_iload_n hx hb dX9_see_13 rfl (lv_at hl 1 rfl) ?_
    refine lv_iload_n hx hb dX9_see_14 rfl (lv_at hl 2 rfl) ?_
    obtain ⟨z2, hz2, hF⟩ := ob hF
    refine cV (wr := [(q_sight, .inl (C 0, 15, .inl u_sight))]) (w2 := [(q_, .inr (9, [.int u_people, .ref q_owes, .ref q_denies, .int u_debts, .ref q_debt, .int u_cuts, .ref q_cut, .int u_seen, .ref q_sight, .int u_events, .ref q_event, .int u_inBook, .ref q_book, .int u_texted, .ref q_text, .ref q_path, .int u_rule, .int u_rings, .int u_size, .int u_least, .long u_worth, .ref q_ring, .ref q_balance, .ref q_left, .ref q_sum, .ref q_parts, .int u_groups, .ref q_group, .int u_paid, .ref q_payment, .ref q_then, .int u_imaged, .ref q_image, .ref q_tapeSort, .ref q_tapeSize, .ref q_items])), (q_sight, .inl (C 0, 15, .inl u_sight))]) (st2 := [.int z2]) cx (CX9_areTwo l D C q_ q_owes q_denies q_debt q_cut q_sight q_event q_book q_text q_path q_ring q_balance q_left q_sum q_parts q_group q_payment q_then q_image q_tapeSort q_tapeSize q_items u_people u_debts u_cuts u_seen u_events u_inBook u_texted u_rule u_rings u_size u_least u_worth u_groups u_paid u_imaged x1 x2 z2 hz2) lk_X9_95 my_X9_areTwo ml_X9_areTwo ⟨by decide, by decide⟩ hw [0] [1] [1, 0] rfl rfl (by decide) rfl rfl rfl rfl (Nat.le_of_ble_eq_true rfl) dX9_see_15 rfl (fun H locs hw => ?_) hl.1
    refine lv_if_ne (tgt := 23) hx hb dX9_see_18 (by decide) (fun c3 => ?_) (fun c3 => ?_)
    · replace hF := oi_f c3 hF
      refine lv_iload_n hx hb dX9_see_23 rfl (lv_at hl 3 rfl) ?_
      refine lv_iconst (v := 1) hx hb dX9_see_24 (by decide) ?_
      refine lv_sipush (v := 999) hx hb dX9_see_25 (by decide) ?_
      obtain ⟨z4, hz4, hF⟩ := ob hF
      refine cS (wr := [(q_, .inr (9, [.int u_people, .ref q_owes, .ref q_denies, .int u_debts, .ref q_debt, .int u_cuts, .ref q_cut, .int u_seen, .ref q_sight, .int u_events, .ref q_event, .int u_inBook, .ref q_book, .int u_texted, .ref q_text, .ref q_path, .int u_rule, .int u_rings, .int u_size, .int u_least, .long u_worth, .ref q_ring, .ref q_balance, .ref q_left, .ref q_sum, .ref q_parts, .int u_groups, .ref q_group, .int u_paid, .ref q_payment, .ref q_then, .int u_imaged, .ref q_image, .ref q_tapeSort, .ref q_tapeSize, .ref q_items])), (q_sight, .inl (C 0, 15, .inl u_sight))]) (w2 := [(q_, .inr (9, [.int u_people, .ref q_owes, .ref q_denies, .int u_debts, .ref q_debt, .int u_cuts, .ref q_cut, .int u_seen, .ref q_sight, .int u_events, .ref q_event, .int u_inBook, .ref q_book, .int u_texted, .ref q_text, .ref q_path, .int u_rule, .int u_rings, .int u_size, .int u_least, .long u_worth, .ref q_ring, .ref q_balance, .ref q_left, .ref q_sum, .ref q_parts, .int u_groups, .ref q_group, .int u_paid, .ref q_payment, .ref q_then, .int u_imaged, .ref q_image, .ref q_tapeSort, .ref q_tapeSize, .ref q_items])), (q_sight, .inl (C 0, 15, .inl u_sight))]) (st2 := [.int z4]) cx (CX9_within l D C x3 1 999 z4 hz4) lk_X9_80 my_X9_within ml_X9_within ⟨by decide, by decide⟩ hw [] [0, 1] [0, 1] rfl rfl (by decide) rfl rfl (Nat.le_of_ble_eq_true rfl) dX9_see_28 rfl (fun H locs hw => ?_) hl.1
      refine lv_if_ne (tgt := 37) hx hb dX9_see_31 (by decide) (fun c5 => ?_) (fun c5 => ?_)
      · replace hF := oi_f c5 hF
        refine lv_aload_n hx hb dX9_see_37 rfl (lv_at hl 0 rfl) ?_
        refine r_get (ci := 9) (v := .int u_seen) cx hw iX9 0 7 rfl rfl (by decide) wf_X9_233 rfl dX9_see_38 ?_
        refine lv_iconst (v := 5) hx hb dX9_see_41 (by decide) ?_
        refine lv_icmp_ne (tgt := 48) hx hb dX9_see_42 (by decide) (fun c6 => ?_) (fun c6 => ?_)
        · replace hF := oi_f c6 hF
          refine lv_aload_n hx hb dX9_see_48 rfl (lv_at hl 0 rfl) ?_
          refine r_get (ci := 9) (v := .ref q_sight) cx hw iX9 0 8 rfl rfl (by decide) wf_X9_24 rfl dX9_see_49 ?_
          refine lv_iconst (v := 3) hx hb dX9_see_52 (by decide) ?_
          refine lv_aload_n hx hb dX9_see_53 rfl (lv_at hl 0 rfl) ?_
          refine r_get (ci := 9) (v := .int u_seen) cx hw iX9 0 7 rfl rfl (by decide) wf_X9_233 rfl dX9_see_54 ?_
          refine lv_imul hx hb dX9_see_57 ?_
          refine lv_iload_n hx hb dX9_see_58 rfl (lv_at hl 1 rfl) ?_
          obtain ⟨g7, hF⟩ := gA_s hF
          refine r_iast (w2 := [(q_, .inr (9, [.int u_people, .ref q_owes, .ref q_denies, .int u_debts, .ref q_debt, .int u_cuts, .ref q_cut, .int u_seen, .ref q_sight, .int u_events, .ref q_event, .int u_inBook, .ref q_book, .int u_texted, .ref q_text, .ref q_path, .int u_rule, .int u_rings, .int u_size, .int u_least, .long u_worth, .ref q_ring, .ref q_balance, .ref q_left, .ref q_sum, .ref q_parts, .int u_groups, .ref q_group, .int u_paid, .ref q_payment, .ref q_then, .int u_imaged, .ref q_image, .ref q_tapeSort, .ref q_tapeSize, .ref q_items])), (q_sight, .inl (C 0, 15, .inl (upd u_sight (3 * u_seen : Int32).toNatClampNeg x1)))]) cx hw 1 rfl g7 dX9_see_59 rfl (fun H locs hw => ?_)
          refine lv_aload_n hx hb dX9_see_60 rfl (lv_at hl 0 rfl) ?_
          refine r_get (ci := 9) (v := .ref q_sight) cx hw iX9 0 8 rfl rfl (by decide) wf_X9_24 rfl dX9_see_61 ?_
          refine lv_iconst (v := 3) hx hb dX9_see_64 (by decide) ?_
          refine lv_aload_n hx hb dX9_see_65 rfl (lv_at hl 0 rfl) ?_
          refine r_get (ci := 9) (v := .int u_seen) cx hw iX9 0 7 rfl rfl (by decide) wf_X9_233 rfl dX9_see_66 ?_
          refine lv_imul hx hb dX9_see_69 ?_
          refine lv_iconst (v := 1) hx hb dX9_see_70 (by decide) ?_
          refine lv_iadd hx hb dX9_see_71 ?_
          refine lv_iload_n hx hb dX9_see_72 rfl (lv_at hl 2 rfl) ?_
          obtain ⟨g8, hF⟩ := gA_s hF
          refine r_iast (w2 := [(q_, .inr (9, [.int u_people, .ref q_owes, .ref q_denies, .int u_debts, .ref q_debt, .int u_cuts, .ref q_cut, .int u_seen, .ref q_sight, .int u_events, .ref q_event, .int u_inBook, .ref q_book, .int u_texted, .ref q_text, .ref q_path, .int u_rule, .int u_rings, .int u_size, .int u_least, .long u_worth, .ref q_ring, .ref q_balance, .ref q_left, .ref q_sum, .ref q_parts, .int u_groups, .ref q_group, .int u_paid, .ref q_payment, .ref q_then, .int u_imaged, .ref q_image, .ref q_tapeSort, .ref q_tapeSize, .ref q_items])), (q_sight, .inl (C 0, 15, .inl (upd (upd u_sight (3 * u_seen : Int32).toNatClampNeg x1) ((3 * u_seen) + 1 : Int32).toNatClampNeg x2)))]) cx hw 1 rfl g8 dX9_see_73 rfl (fun H locs hw => ?_)
          refine lv_aload_n hx hb dX9_see_74 rfl (lv_at hl 0 rfl) ?_
          refine r_get (ci := 9) (v := .ref q_sight) cx hw iX9 0 8 rfl rfl (by decide) wf_X9_24 rfl dX9_see_75 ?_
          refine lv_iconst (v := 3) hx hb dX9_see_78 (by decide) ?_
          refine lv_aload_n hx hb dX9_see_79 rfl (lv_at hl 0 rfl) ?_
          refine r_get (ci := 9) (v := .int u_seen) cx hw iX9 0 7 rfl rfl (by decide) wf_X9_233 rfl dX9_see_80 ?_
          refine lv_imul hx hb dX9_see_83 ?_
          refine lv_iconst (v := 2) hx hb dX9_see_84 (by decide) ?_
          refine lv_iadd hx hb dX9_see_85 ?_
          refine lv_iload_n hx hb dX9_see_86 rfl (lv_at hl 3 rfl) ?_
          obtain ⟨g9, hF⟩ := gA_s hF
          refine r_iast (w2 := [(q_, .inr (9, [.int u_people, .ref q_owes, .ref q_denies, .int u_debts, .ref q_debt, .int u_cuts, .ref q_cut, .int u_seen, .ref q_sight, .int u_events, .ref q_event, .int u_inBook, .ref q_book, .int u_texted, .ref q_text, .ref q_path, .int u_rule, .int u_rings, .int u_size, .int u_least, .long u_worth, .ref q_ring, .ref q_balance, .ref q_left, .ref q_sum, .ref q_parts, .int u_groups, .ref q_group, .int u_paid, .ref q_payment, .ref q_then, .int u_imaged, .ref q_image, .ref q_tapeSort, .ref q_tapeSize, .ref q_items])), (q_sight, .inl (C 0, 15, .inl (upd (upd (upd u_sight (3 * u_seen : Int32).toNatClampNeg x1) ((3 * u_seen) + 1 : Int32).toNatClampNeg x2) ((3 * u_seen) + 2 : Int32).toNatClampNeg x3)))]) cx hw 1 rfl g9 dX9_see_87 rfl (fun H locs hw => ?_)
          refine lv_aload_n hx hb dX9_see_88 rfl (lv_at hl 0 rfl) ?_
          refine lv_dup hx hb dX9_see_89 rfl ?_
          refine r_get (ci := 9) (v := .int u_seen) cx hw iX9 0 7 rfl rfl (by decide) wf_X9_233 rfl dX9_see_90 ?_
          refine lv_iconst (v := 1) hx hb dX9_see_93 (by decide) ?_
          refine lv_iadd hx hb dX9_see_94 ?_
          refine r_put (ci := 9) (w2 := [(q_, .inr (9, [.int u_people, .ref q_owes, .ref q_denies, .int u_debts, .ref q_debt, .int u_cuts, .ref q_cut, .int (u_seen + 1), .ref q_sight, .int u_events, .ref q_event, .int u_inBook, .ref q_book, .int u_texted, .ref q_text, .ref q_path, .int u_rule, .int u_rings, .int u_size, .int u_least, .long u_worth, .ref q_ring, .ref q_balance, .ref q_left, .ref q_sum, .ref q_parts, .int u_groups, .ref q_group, .int u_paid, .ref q_payment, .ref q_then, .int u_imaged, .ref q_image, .ref q_tapeSort, .ref q_tapeSize, .ref q_items])), (q_sight, .inl (C 0, 15, .inl (upd (upd (upd u_sight (3 * u_seen : Int32).toNatClampNeg x1) ((3 * u_seen) + 1 : Int32).toNatClampNeg x2) ((3 * u_seen) + 2 : Int32).toNatClampNeg x3)))]) cx hw iX9 tyX9_ok nmX9 0 7 rfl rfl (by decide) wf_X9_233 rfl rfl rfl rfl (Nat.le_of_ble_eq_true rfl) dX9_see_95 rfl (fun H locs hw => ?_)
          refine lv_aload_n hx hb dX9_see_98 rfl (lv_at hl 0 rfl) ?_
          refine r_get (ci := 9) (v := .int (u_seen + 1)) cx hw iX9 0 7 rfl rfl (by decide) wf_X9_233 rfl dX9_see_99 ?_
          obtain rfl := Option.some.inj hF
          exact rt_i hret hw rfl dX9_see_102
        · replace hF := oi_t c6 hF
          refine lv_bipush (v := (-4)) hx hb dX9_see_45 (by decide) ?_
          obtain rfl := Option.some.inj hF
          exact rt_i hret hw rfl dX9_see_47
      · replace hF := oi_t c5 hF
        refine lv_bipush (v := (-2)) hx hb dX9_see_34 (by decide) ?_
        obtain rfl := Option.some.inj hF
        exact rt_i hret hw rfl dX9_see_36
    · replace hF := oi_t c3 hF
      refine lv_iconst (v := (-1)) hx hb dX9_see_21 (by decide) ?_
      obtain rfl := Option.some.inj hF
      exact rt_i hret hw rfl dX9_see_22
  · replace hF := oi_t c1 hF
    refine lv_aload_n hx hb dX9_see_5 rfl (lv_at hl 0 rfl) ?_
    refine lv_iconst (v := 0) hx hb dX9_see_6 (by decide) ?_
    refine r_put (ci := 9) (w2 := [(q_, .inr (9, [.int u_people, .ref q_owes, .ref q_denies, .int u_debts, .ref q_debt, .int u_cuts, .ref q_cut, .int 0, .ref q_sight, .int u_events, .ref q_event, .int u_inBook, .ref q_book, .int u_texted, .ref q_text, .ref q_path, .int u_rule, .int u_rings, .int u_size, .int u_least, .long u_worth, .ref q_ring, .ref q_balance, .ref q_left, .ref q_sum, .ref q_parts, .int u_groups, .ref q_group, .int u_paid, .ref q_payment, .ref q_then, .int u_imaged, .ref q_image, .ref q_tapeSort, .ref q_tapeSize, .ref q_items])), (q_sight, .inl (C 0, 15, .inl u_sight))]) cx hw iX9 tyX9_ok nmX9 0 7 rfl rfl (by decide) wf_X9_233 rfl rfl rfl rfl (Nat.le_of_ble_eq_true rfl) dX9_see_7 rfl (fun H locs hw => ?_)
    refine lv_iconst (v := 0) hx hb dX9_see_10 (by decide) ?_
    obtain rfl := Option.some.inj hF
    exact rt_i hret hw rfl dX9_see_11
